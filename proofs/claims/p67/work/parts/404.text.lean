/-! ===== texts ===== -/
def f_Calendarhall_readRule (O : Nat → Option va_E) (f : Nat) (v0 : Nat) (v1 : Int32) (M : xM) : Option (Int32 × xM) :=
  (isO O M v0 12).bind fun _ =>
  xcl (f_Calendarhall_seriesNumbered O f v0 v1 M) fun x1 M1 =>
  (gR O M1 v0 12 7).bind fun x2 =>
  (gR O M1 x1 10 6).bind fun x3 =>
  (gI O M1 x3 9 0).bind fun x4 =>
  (isO O M1 x2 8).bind fun _ =>
  xcl (f_Reader_parse O f x2 x4 M1) fun x5 M2 =>
  if x5 = (-1 : Int32) then (
    (gR O M2 v0 12 7).bind fun x6 =>
    (gR O M2 x6 8 1).bind fun x7 =>
    (isO O M2 v0 12).bind fun _ =>
    xcl (f_Calendarhall_saveForUndo O f v0 M2) fun _ M3 =>
    (pI M3 x1 10 7 (0 : Int32)).bind fun M4 =>
    (gR O M4 x1 10 6).bind fun x9 =>
    (gI O M4 x7 9 1).bind fun x10 =>
    (gI O M4 x7 9 2).bind fun x11 =>
    (gI O M4 x7 9 3).bind fun x12 =>
    (gI O M4 x7 9 4).bind fun x13 =>
    (isO O M4 x9 9).bind fun _ =>
    xcl (f_Rule_put O f x9 x10 x11 x12 x13 M4) fun _ M5 =>
    (gR O M5 x1 10 6).bind fun x15 =>
    (gI O M5 x7 9 5).bind fun x16 =>
    (gI O M5 x7 9 6).bind fun x17 =>
    (isO O M5 x15 9).bind fun _ =>
    xcl (f_Rule_putEnd O f x15 x16 x17 M5) fun _ M6 =>
    (gR O M6 x1 10 6).bind fun x19 =>
    (isO O M6 x19 9).bind fun _ =>
    xcl (f_Rule_settle O f x19 M6) fun _ M7 =>
    (gI O M7 x7 9 1).bind fun x21 =>
    some (x21, M7)
  ) else
  none
set_option maxRecDepth 20000 in
theorem k_f_Calendarhall_readRule (O : Nat → Option va_E) (f d : Nat) (v0 : Nat) (v1 : Int32) (M : xM) : xZ oI O (d + 10) 78 0 [(0, .ref v0), (1, .int v1)] [] M (f_Calendarhall_readRule O f v0 v1 M) := by
  unfold f_Calendarhall_readRule
  refine xZ.adv (me := xm78) hP_78 2 (pc' := 2) (lv' := [(0, .ref v0), (1, .int v1)]) (st' := [.int v1, .ref v0]) rfl ?_
  refine xZ.callv (κ := oR) (av := [.int v1]) (rest := []) (st' := fun x1 => [.ref x1]) (k0 := v0) (me := xm78) hP_78 rfl (Or.inl rfl) ⟨rfl, by decide⟩ rfl rfl (Nat.le_of_ble_eq_true rfl) (by decide) hP_79 (Nat.le_of_ble_eq_true rfl) (fun _ => rfl) (k_f_Calendarhall_seriesNumbered O f (d + 8) v0 v1 M) (fun x1 M1 => ?_)
  refine xZ.adv (me := xm78) hP_78 2 (pc' := 7) (lv' := [(2, .ref x1), (0, .ref v0), (1, .int v1)]) (st' := [.ref v0]) rfl ?_
  refine xZ.k_gR (me := xm78) hP_78 rfl (fun x2 => ?_)
  refine xZ.adv (me := xm78) hP_78 1 (pc' := 11) (lv' := [(2, .ref x1), (0, .ref v0), (1, .int v1)]) (st' := [.ref x1, .ref x2]) rfl ?_
  refine xZ.k_gR (me := xm78) hP_78 rfl (fun x3 => ?_)
  refine xZ.k_gI (me := xm78) hP_78 rfl (fun x4 => ?_)
  refine xZ.callv (κ := oI) (av := [.int x4]) (rest := []) (st' := fun x5 => [.int x5]) (k0 := x2) (me := xm78) hP_78 rfl (Or.inl rfl) ⟨rfl, by decide⟩ rfl rfl (Nat.le_of_ble_eq_true rfl) (by decide) hP_64 (Nat.le_of_ble_eq_true rfl) (fun _ => rfl) (k_f_Reader_parse O f (d + 0) x2 x4 M1) (fun x5 M2 => ?_)
  refine xZ.adv (me := xm78) hP_78 1 (pc' := 21) (lv' := [(2, .ref x1), (0, .ref v0), (1, .int v1)]) (st' := [.int (-1 : Int32), .int x5]) rfl ?_
  refine xZ.ic_eq (me := xm78) hP_78 rfl (fun h1 => ?_) (fun h1 => ?_)
  · skip
    refine xZ.adv (me := xm78) hP_78 1 (pc' := 33) (lv' := [(2, .ref x1), (0, .ref v0), (1, .int v1)]) (st' := [.ref v0]) rfl ?_
    refine xZ.k_gR (me := xm78) hP_78 rfl (fun x6 => ?_)
    refine xZ.k_gR (me := xm78) hP_78 rfl (fun x7 => ?_)
    refine xZ.adv (me := xm78) hP_78 2 (pc' := 41) (lv' := [(3, .ref x7), (2, .ref x1), (0, .ref v0), (1, .int v1)]) (st' := [.ref v0]) rfl ?_
    refine xZ.callv (κ := oU) (av := []) (rest := []) (st' := fun _ => []) (k0 := v0) (me := xm78) hP_78 rfl (Or.inl rfl) ⟨rfl, by decide⟩ rfl rfl (Nat.le_of_ble_eq_true rfl) (by decide) hP_23 (Nat.le_of_ble_eq_true rfl) (fun _ => rfl) (k_f_Calendarhall_saveForUndo O f (d + 5) v0 M2) (fun _ M3 => ?_)
    refine xZ.adv (me := xm78) hP_78 2 (pc' := 46) (lv' := [(3, .ref x7), (2, .ref x1), (0, .ref v0), (1, .int v1)]) (st' := [.int (0 : Int32), .ref x1]) rfl ?_
    refine xZ.k_pI (me := xm78) hP_78 rfl (fun M4 => ?_)
    refine xZ.adv (me := xm78) hP_78 1 (pc' := 50) (lv' := [(3, .ref x7), (2, .ref x1), (0, .ref v0), (1, .int v1)]) (st' := [.ref x1]) rfl ?_
    refine xZ.k_gR (me := xm78) hP_78 rfl (fun x9 => ?_)
    refine xZ.adv (me := xm78) hP_78 1 (pc' := 54) (lv' := [(3, .ref x7), (2, .ref x1), (0, .ref v0), (1, .int v1)]) (st' := [.ref x7, .ref x9]) rfl ?_
    refine xZ.k_gI (me := xm78) hP_78 rfl (fun x10 => ?_)
    refine xZ.adv (me := xm78) hP_78 1 (pc' := 58) (lv' := [(3, .ref x7), (2, .ref x1), (0, .ref v0), (1, .int v1)]) (st' := [.ref x7, .int x10, .ref x9]) rfl ?_
    refine xZ.k_gI (me := xm78) hP_78 rfl (fun x11 => ?_)
    refine xZ.adv (me := xm78) hP_78 1 (pc' := 62) (lv' := [(3, .ref x7), (2, .ref x1), (0, .ref v0), (1, .int v1)]) (st' := [.ref x7, .int x11, .int x10, .ref x9]) rfl ?_
    refine xZ.k_gI (me := xm78) hP_78 rfl (fun x12 => ?_)
    refine xZ.adv (me := xm78) hP_78 1 (pc' := 66) (lv' := [(3, .ref x7), (2, .ref x1), (0, .ref v0), (1, .int v1)]) (st' := [.ref x7, .int x12, .int x11, .int x10, .ref x9]) rfl ?_
    refine xZ.k_gI (me := xm78) hP_78 rfl (fun x13 => ?_)
    refine xZ.callv (κ := oU) (av := [.int x10, .int x11, .int x12, .int x13]) (rest := []) (st' := fun _ => []) (k0 := x9) (me := xm78) hP_78 rfl (Or.inl rfl) ⟨rfl, by decide⟩ rfl rfl (Nat.le_of_ble_eq_true rfl) (by decide) hP_32 (Nat.le_of_ble_eq_true rfl) (fun _ => rfl) (k_f_Rule_put O f (d + 9) x9 x10 x11 x12 x13 M4) (fun _ M5 => ?_)
    refine xZ.adv (me := xm78) hP_78 1 (pc' := 73) (lv' := [(3, .ref x7), (2, .ref x1), (0, .ref v0), (1, .int v1)]) (st' := [.ref x1]) rfl ?_
    refine xZ.k_gR (me := xm78) hP_78 rfl (fun x15 => ?_)
    refine xZ.adv (me := xm78) hP_78 1 (pc' := 77) (lv' := [(3, .ref x7), (2, .ref x1), (0, .ref v0), (1, .int v1)]) (st' := [.ref x7, .ref x15]) rfl ?_
    refine xZ.k_gI (me := xm78) hP_78 rfl (fun x16 => ?_)
    refine xZ.adv (me := xm78) hP_78 1 (pc' := 81) (lv' := [(3, .ref x7), (2, .ref x1), (0, .ref v0), (1, .int v1)]) (st' := [.ref x7, .int x16, .ref x15]) rfl ?_
    refine xZ.k_gI (me := xm78) hP_78 rfl (fun x17 => ?_)
    refine xZ.callv (κ := oU) (av := [.int x16, .int x17]) (rest := []) (st' := fun _ => []) (k0 := x15) (me := xm78) hP_78 rfl (Or.inl rfl) ⟨rfl, by decide⟩ rfl rfl (Nat.le_of_ble_eq_true rfl) (by decide) hP_33 (Nat.le_of_ble_eq_true rfl) (fun _ => rfl) (k_f_Rule_putEnd O f (d + 9) x15 x16 x17 M5) (fun _ M6 => ?_)
    refine xZ.adv (me := xm78) hP_78 1 (pc' := 88) (lv' := [(3, .ref x7), (2, .ref x1), (0, .ref v0), (1, .int v1)]) (st' := [.ref x1]) rfl ?_
    refine xZ.k_gR (me := xm78) hP_78 rfl (fun x19 => ?_)
    refine xZ.callv (κ := oU) (av := []) (rest := []) (st' := fun _ => []) (k0 := x19) (me := xm78) hP_78 rfl (Or.inl rfl) ⟨rfl, by decide⟩ rfl rfl (Nat.le_of_ble_eq_true rfl) (by decide) hP_43 (Nat.le_of_ble_eq_true rfl) (fun _ => rfl) (k_f_Rule_settle O f (d + 3) x19 M6) (fun _ M7 => ?_)
    refine xZ.adv (me := xm78) hP_78 1 (pc' := 95) (lv' := [(3, .ref x7), (2, .ref x1), (0, .ref v0), (1, .int v1)]) (st' := [.ref x7]) rfl ?_
    refine xZ.k_gI (me := xm78) hP_78 rfl (fun x21 => ?_)
    exact xZ.reti (me := xm78) hP_78 rfl rfl
  · skip
    exact xZ.no
def f_Rule_isSound_147 (O : Nat → Option va_E) (f : Nat) (v4 : Int32) (v5 : Int32) (s0 : Int32) (M : xM) : Option (Int32 × xM) :=
  if v4 = 0 then (
    some ((0 : Int32), M)
  ) else
  if v5 = 0 then (
    some ((0 : Int32), M)
  ) else
  if s0 = 0 then (
    some ((0 : Int32), M)
  ) else
  some ((1 : Int32), M)
set_option maxRecDepth 20000 in
theorem k_f_Rule_isSound_147 (O : Nat → Option va_E) (f d : Nat) (v4 : Int32) (v5 : Int32) (s0 : Int32) (M : xM) : xZ oI O (d + 0) 81 147 [(4, .int v4), (5, .int v5)] [.int s0] M (f_Rule_isSound_147 O f v4 v5 s0 M) := by
  unfold f_Rule_isSound_147
  refine xZ.adv (me := xm81) hP_81 2 (pc' := 151) (lv' := [(7, .int s0), (4, .int v4), (5, .int v5)]) (st' := [.int v4]) rfl ?_
  refine xZ.if_eq (me := xm81) hP_81 rfl (fun h1 => ?_) (fun h1 => ?_)
  · skip
    refine xZ.adv (me := xm81) hP_81 1 (pc' := 169) (lv' := [(7, .int s0), (4, .int v4), (5, .int v5)]) (st' := [.int (0 : Int32)]) rfl ?_
    exact xZ.rete (me := xm81) hP_81 rfl rfl rfl
  · skip
    refine xZ.adv (me := xm81) hP_81 1 (pc' := 156) (lv' := [(7, .int s0), (4, .int v4), (5, .int v5)]) (st' := [.int v5]) rfl ?_
    refine xZ.if_eq (me := xm81) hP_81 rfl (fun h2 => ?_) (fun h2 => ?_)
    · skip
      refine xZ.adv (me := xm81) hP_81 1 (pc' := 169) (lv' := [(7, .int s0), (4, .int v4), (5, .int v5)]) (st' := [.int (0 : Int32)]) rfl ?_
      exact xZ.rete (me := xm81) hP_81 rfl rfl rfl
    · skip
      refine xZ.adv (me := xm81) hP_81 1 (pc' := 161) (lv' := [(7, .int s0), (4, .int v4), (5, .int v5)]) (st' := [.int s0]) rfl ?_
      refine xZ.if_eq (me := xm81) hP_81 rfl (fun h3 => ?_) (fun h3 => ?_)
      · skip
        refine xZ.adv (me := xm81) hP_81 1 (pc' := 169) (lv' := [(7, .int s0), (4, .int v4), (5, .int v5)]) (st' := [.int (0 : Int32)]) rfl ?_
        exact xZ.rete (me := xm81) hP_81 rfl rfl rfl
      · skip
        refine xZ.adv (me := xm81) hP_81 2 (pc' := 169) (lv' := [(7, .int s0), (4, .int v4), (5, .int v5)]) (st' := [.int (1 : Int32)]) rfl ?_
        exact xZ.rete (me := xm81) hP_81 rfl rfl rfl
def f_Rule_isSound_146 (O : Nat → Option va_E) (f : Nat) (v4 : Int32) (v5 : Int32) (M : xM) : Option (Int32 × xM) :=
  f_Rule_isSound_147 O f v4 v5 (0 : Int32) M
set_option maxRecDepth 20000 in
theorem k_f_Rule_isSound_146 (O : Nat → Option va_E) (f d : Nat) (v4 : Int32) (v5 : Int32) (M : xM) : xZ oI O (d + 0) 81 146 [(4, .int v4), (5, .int v5)] [] M (f_Rule_isSound_146 O f v4 v5 M) := by
  unfold f_Rule_isSound_146
  refine xZ.adv (me := xm81) hP_81 1 (pc' := 147) (lv' := [(4, .int v4), (5, .int v5)]) (st' := [.int (0 : Int32)]) rfl ?_
  exact (k_f_Rule_isSound_147 O f d v4 v5 (0 : Int32) M)
def f_Rule_isSound_139 (O : Nat → Option va_E) (f : Nat) (v4 : Int32) (v5 : Int32) (s0 : Int32) (s1 : Int32) (M : xM) : Option (Int32 × xM) :=
  if s0 = s1 then (
    f_Rule_isSound_147 O f v4 v5 (1 : Int32) M
  ) else
  f_Rule_isSound_146 O f v4 v5 M
set_option maxRecDepth 20000 in
theorem k_f_Rule_isSound_139 (O : Nat → Option va_E) (f d : Nat) (v4 : Int32) (v5 : Int32) (s0 : Int32) (s1 : Int32) (M : xM) : xZ oI O (d + 0) 81 139 [(4, .int v4), (5, .int v5)] [.int s1, .int s0] M (f_Rule_isSound_139 O f v4 v5 s0 s1 M) := by
  unfold f_Rule_isSound_139
  refine xZ.ic_ne (me := xm81) hP_81 rfl (fun h1 => ?_) (fun h1 => ?_)
  · skip
    refine xZ.adv (me := xm81) hP_81 2 (pc' := 147) (lv' := [(4, .int v4), (5, .int v5)]) (st' := [.int (1 : Int32)]) rfl ?_
    exact (k_f_Rule_isSound_147 O f d v4 v5 (1 : Int32) M)
  · skip
    exact (k_f_Rule_isSound_146 O f d v4 v5 M)
def f_Rule_isSound_129 (O : Nat → Option va_E) (f : Nat) (v4 : Int32) (v5 : Int32) (v6 : Int32) (s0 : Int32) (M : xM) : Option (Int32 × xM) :=
  if v6 = 0 then (
    f_Rule_isSound_139 O f v4 v5 s0 (1 : Int32) M
  ) else
  f_Rule_isSound_139 O f v4 v5 s0 (0 : Int32) M
set_option maxRecDepth 20000 in
theorem k_f_Rule_isSound_129 (O : Nat → Option va_E) (f d : Nat) (v4 : Int32) (v5 : Int32) (v6 : Int32) (s0 : Int32) (M : xM) : xZ oI O (d + 0) 81 129 [(4, .int v4), (5, .int v5), (6, .int v6)] [.int s0] M (f_Rule_isSound_129 O f v4 v5 v6 s0 M) := by
  unfold f_Rule_isSound_129
  refine xZ.adv (me := xm81) hP_81 1 (pc' := 131) (lv' := [(4, .int v4), (5, .int v5), (6, .int v6)]) (st' := [.int v6, .int s0]) rfl ?_
  refine xZ.if_ne (me := xm81) hP_81 rfl (fun h1 => ?_) (fun h1 => ?_)
  · skip
    refine xZ.adv (me := xm81) hP_81 2 (pc' := 139) (lv' := [(4, .int v4), (5, .int v5), (6, .int v6)]) (st' := [.int (1 : Int32), .int s0]) rfl ?_
    exact xZ.sub (xsc (.head _) (xsc (.tail _ (.head _)) xsn)) (show ([4, 5, 6] : List Nat).Nodup from by decide) (k_f_Rule_isSound_139 O f d v4 v5 s0 (1 : Int32) M)
  · skip
    refine xZ.adv (me := xm81) hP_81 1 (pc' := 139) (lv' := [(4, .int v4), (5, .int v5), (6, .int v6)]) (st' := [.int (0 : Int32), .int s0]) rfl ?_
    exact xZ.sub (xsc (.head _) (xsc (.tail _ (.head _)) xsn)) (show ([4, 5, 6] : List Nat).Nodup from by decide) (k_f_Rule_isSound_139 O f d v4 v5 s0 (0 : Int32) M)
def f_Rule_isSound_105 (O : Nat → Option va_E) (f : Nat) (v3 : Int32) (v4 : Int32) (v5 : Int32) (s0 : Int32) (M : xM) : Option (Int32 × xM) :=
  if v3 < (-s0) then (
    f_Rule_isSound_146 O f v4 v5 M
  ) else
  if s0 < v3 then (
    f_Rule_isSound_146 O f v4 v5 M
  ) else
  if v3 = 0 then (
    f_Rule_isSound_129 O f v4 v5 s0 (1 : Int32) M
  ) else
  f_Rule_isSound_129 O f v4 v5 s0 (0 : Int32) M
set_option maxRecDepth 20000 in
theorem k_f_Rule_isSound_105 (O : Nat → Option va_E) (f d : Nat) (v3 : Int32) (v4 : Int32) (v5 : Int32) (s0 : Int32) (M : xM) : xZ oI O (d + 0) 81 105 [(3, .int v3), (4, .int v4), (5, .int v5)] [.int s0] M (f_Rule_isSound_105 O f v3 v4 v5 s0 M) := by
  unfold f_Rule_isSound_105
  refine xZ.adv (me := xm81) hP_81 4 (pc' := 111) (lv' := [(6, .int s0), (3, .int v3), (4, .int v4), (5, .int v5)]) (st' := [.int (-s0), .int v3]) rfl ?_
  refine xZ.ic_lt (me := xm81) hP_81 rfl (fun h1 => ?_) (fun h1 => ?_)
  · skip
    exact xZ.sub (xsc (.tail _ (.tail _ (.head _))) (xsc (.tail _ (.tail _ (.tail _ (.head _)))) xsn)) (show ([6, 3, 4, 5] : List Nat).Nodup from by decide) (k_f_Rule_isSound_146 O f d v4 v5 M)
  · skip
    refine xZ.adv (me := xm81) hP_81 2 (pc' := 117) (lv' := [(6, .int s0), (3, .int v3), (4, .int v4), (5, .int v5)]) (st' := [.int s0, .int v3]) rfl ?_
    refine xZ.ic_gt (me := xm81) hP_81 rfl (fun h2 => ?_) (fun h2 => ?_)
    · skip
      exact xZ.sub (xsc (.tail _ (.tail _ (.head _))) (xsc (.tail _ (.tail _ (.tail _ (.head _)))) xsn)) (show ([6, 3, 4, 5] : List Nat).Nodup from by decide) (k_f_Rule_isSound_146 O f d v4 v5 M)
    · skip
      refine xZ.adv (me := xm81) hP_81 1 (pc' := 121) (lv' := [(6, .int s0), (3, .int v3), (4, .int v4), (5, .int v5)]) (st' := [.int v3]) rfl ?_
      refine xZ.if_ne (me := xm81) hP_81 rfl (fun h3 => ?_) (fun h3 => ?_)
      · skip
        refine xZ.adv (me := xm81) hP_81 2 (pc' := 129) (lv' := [(6, .int s0), (3, .int v3), (4, .int v4), (5, .int v5)]) (st' := [.int (1 : Int32)]) rfl ?_
        exact xZ.sub (xsc (.tail _ (.tail _ (.head _))) (xsc (.tail _ (.tail _ (.tail _ (.head _)))) (xsc (.head _) xsn))) (show ([6, 3, 4, 5] : List Nat).Nodup from by decide) (k_f_Rule_isSound_129 O f d v4 v5 s0 (1 : Int32) M)
      · skip
        refine xZ.adv (me := xm81) hP_81 1 (pc' := 129) (lv' := [(6, .int s0), (3, .int v3), (4, .int v4), (5, .int v5)]) (st' := [.int (0 : Int32)]) rfl ?_
        exact xZ.sub (xsc (.tail _ (.tail _ (.head _))) (xsc (.tail _ (.tail _ (.tail _ (.head _)))) (xsc (.head _) xsn))) (show ([6, 3, 4, 5] : List Nat).Nodup from by decide) (k_f_Rule_isSound_129 O f d v4 v5 s0 (0 : Int32) M)
def f_Rule_isSound_83 (O : Nat → Option va_E) (f : Nat) (v0 : Int32) (v3 : Int32) (v4 : Int32) (s0 : Int32) (M : xM) : Option (Int32 × xM) :=
  if v0 = (3 : Int32) then (
    f_Rule_isSound_105 O f v3 v4 s0 (31 : Int32) M
  ) else
  if v0 = (4 : Int32) then (
    f_Rule_isSound_105 O f v3 v4 s0 (5 : Int32) M
  ) else
  f_Rule_isSound_105 O f v3 v4 s0 (0 : Int32) M
set_option maxRecDepth 20000 in
theorem k_f_Rule_isSound_83 (O : Nat → Option va_E) (f d : Nat) (v0 : Int32) (v3 : Int32) (v4 : Int32) (s0 : Int32) (M : xM) : xZ oI O (d + 0) 81 83 [(0, .int v0), (3, .int v3), (4, .int v4)] [.int s0] M (f_Rule_isSound_83 O f v0 v3 v4 s0 M) := by
  unfold f_Rule_isSound_83
  refine xZ.adv (me := xm81) hP_81 3 (pc' := 87) (lv' := [(5, .int s0), (0, .int v0), (3, .int v3), (4, .int v4)]) (st' := [.int (3 : Int32), .int v0]) rfl ?_
  refine xZ.ic_ne (me := xm81) hP_81 rfl (fun h1 => ?_) (fun h1 => ?_)
  · skip
    refine xZ.adv (me := xm81) hP_81 2 (pc' := 105) (lv' := [(5, .int s0), (0, .int v0), (3, .int v3), (4, .int v4)]) (st' := [.int (31 : Int32)]) rfl ?_
    exact xZ.sub (xsc (.tail _ (.tail _ (.head _))) (xsc (.tail _ (.tail _ (.tail _ (.head _)))) (xsc (.head _) xsn))) (show ([5, 0, 3, 4] : List Nat).Nodup from by decide) (k_f_Rule_isSound_105 O f d v3 v4 s0 (31 : Int32) M)
  · skip
    refine xZ.adv (me := xm81) hP_81 2 (pc' := 97) (lv' := [(5, .int s0), (0, .int v0), (3, .int v3), (4, .int v4)]) (st' := [.int (4 : Int32), .int v0]) rfl ?_
    refine xZ.ic_ne (me := xm81) hP_81 rfl (fun h2 => ?_) (fun h2 => ?_)
    · skip
      refine xZ.adv (me := xm81) hP_81 2 (pc' := 105) (lv' := [(5, .int s0), (0, .int v0), (3, .int v3), (4, .int v4)]) (st' := [.int (5 : Int32)]) rfl ?_
      exact xZ.sub (xsc (.tail _ (.tail _ (.head _))) (xsc (.tail _ (.tail _ (.tail _ (.head _)))) (xsc (.head _) xsn))) (show ([5, 0, 3, 4] : List Nat).Nodup from by decide) (k_f_Rule_isSound_105 O f d v3 v4 s0 (5 : Int32) M)
    · skip
      refine xZ.adv (me := xm81) hP_81 1 (pc' := 105) (lv' := [(5, .int s0), (0, .int v0), (3, .int v3), (4, .int v4)]) (st' := [.int (0 : Int32)]) rfl ?_
      exact xZ.sub (xsc (.tail _ (.tail _ (.head _))) (xsc (.tail _ (.tail _ (.tail _ (.head _)))) (xsc (.head _) xsn))) (show ([5, 0, 3, 4] : List Nat).Nodup from by decide) (k_f_Rule_isSound_105 O f d v3 v4 s0 (0 : Int32) M)
def f_Rule_isSound_70 (O : Nat → Option va_E) (f : Nat) (v0 : Int32) (v3 : Int32) (v4 : Int32) (M : xM) : Option (Int32 × xM) :=
  f_Rule_isSound_83 O f v0 v3 v4 (0 : Int32) M
set_option maxRecDepth 20000 in
theorem k_f_Rule_isSound_70 (O : Nat → Option va_E) (f d : Nat) (v0 : Int32) (v3 : Int32) (v4 : Int32) (M : xM) : xZ oI O (d + 0) 81 70 [(0, .int v0), (3, .int v3), (4, .int v4)] [] M (f_Rule_isSound_70 O f v0 v3 v4 M) := by
  unfold f_Rule_isSound_70
  refine xZ.adv (me := xm81) hP_81 2 (pc' := 83) (lv' := [(0, .int v0), (3, .int v3), (4, .int v4)]) (st' := [.int (0 : Int32)]) rfl ?_
  exact (k_f_Rule_isSound_83 O f d v0 v3 v4 (0 : Int32) M)
def f_Rule_isSound_55 (O : Nat → Option va_E) (f : Nat) (v0 : Int32) (v2 : Int32) (v3 : Int32) (v4 : Int32) (M : xM) : Option (Int32 × xM) :=
  if v2 < (1 : Int32) then (
    f_Rule_isSound_70 O f v0 v3 v4 M
  ) else
  if (127 : Int32) < v2 then (
    f_Rule_isSound_70 O f v0 v3 v4 M
  ) else
  f_Rule_isSound_83 O f v0 v3 v4 (1 : Int32) M
set_option maxRecDepth 20000 in
theorem k_f_Rule_isSound_55 (O : Nat → Option va_E) (f d : Nat) (v0 : Int32) (v2 : Int32) (v3 : Int32) (v4 : Int32) (M : xM) : xZ oI O (d + 0) 81 55 [(0, .int v0), (2, .int v2), (3, .int v3), (4, .int v4)] [] M (f_Rule_isSound_55 O f v0 v2 v3 v4 M) := by
  unfold f_Rule_isSound_55
  refine xZ.adv (me := xm81) hP_81 2 (pc' := 57) (lv' := [(0, .int v0), (2, .int v2), (3, .int v3), (4, .int v4)]) (st' := [.int (1 : Int32), .int v2]) rfl ?_
  refine xZ.ic_lt (me := xm81) hP_81 rfl (fun h1 => ?_) (fun h1 => ?_)
  · skip
    exact xZ.sub (xsc (.head _) (xsc (.tail _ (.tail _ (.head _))) (xsc (.tail _ (.tail _ (.tail _ (.head _)))) xsn))) (show ([0, 2, 3, 4] : List Nat).Nodup from by decide) (k_f_Rule_isSound_70 O f d v0 v3 v4 M)
  · skip
    refine xZ.adv (me := xm81) hP_81 2 (pc' := 63) (lv' := [(0, .int v0), (2, .int v2), (3, .int v3), (4, .int v4)]) (st' := [.int (127 : Int32), .int v2]) rfl ?_
    refine xZ.ic_gt (me := xm81) hP_81 rfl (fun h2 => ?_) (fun h2 => ?_)
    · skip
      exact xZ.sub (xsc (.head _) (xsc (.tail _ (.tail _ (.head _))) (xsc (.tail _ (.tail _ (.tail _ (.head _)))) xsn))) (show ([0, 2, 3, 4] : List Nat).Nodup from by decide) (k_f_Rule_isSound_70 O f d v0 v3 v4 M)
    · skip
      refine xZ.adv (me := xm81) hP_81 2 (pc' := 83) (lv' := [(0, .int v0), (2, .int v2), (3, .int v3), (4, .int v4)]) (st' := [.int (1 : Int32)]) rfl ?_
      exact xZ.sub (xsc (.head _) (xsc (.tail _ (.tail _ (.head _))) (xsc (.tail _ (.tail _ (.tail _ (.head _)))) xsn))) (show ([0, 2, 3, 4] : List Nat).Nodup from by decide) (k_f_Rule_isSound_83 O f d v0 v3 v4 (1 : Int32) M)
def f_Rule_isSound_43 (O : Nat → Option va_E) (f : Nat) (v0 : Int32) (v2 : Int32) (v3 : Int32) (s0 : Int32) (M : xM) : Option (Int32 × xM) :=
  if v0 = (2 : Int32) then (
    f_Rule_isSound_55 O f v0 v2 v3 s0 M
  ) else
  if v0 = (4 : Int32) then (
    f_Rule_isSound_55 O f v0 v2 v3 s0 M
  ) else
  if v2 = 0 then (
    f_Rule_isSound_83 O f v0 v3 s0 (1 : Int32) M
  ) else
  f_Rule_isSound_83 O f v0 v3 s0 (0 : Int32) M
set_option maxRecDepth 20000 in
theorem k_f_Rule_isSound_43 (O : Nat → Option va_E) (f d : Nat) (v0 : Int32) (v2 : Int32) (v3 : Int32) (s0 : Int32) (M : xM) : xZ oI O (d + 0) 81 43 [(0, .int v0), (2, .int v2), (3, .int v3)] [.int s0] M (f_Rule_isSound_43 O f v0 v2 v3 s0 M) := by
  unfold f_Rule_isSound_43
  refine xZ.adv (me := xm81) hP_81 3 (pc' := 47) (lv' := [(4, .int s0), (0, .int v0), (2, .int v2), (3, .int v3)]) (st' := [.int (2 : Int32), .int v0]) rfl ?_
  refine xZ.ic_eq (me := xm81) hP_81 rfl (fun h1 => ?_) (fun h1 => ?_)
  · skip
    exact xZ.sub (xsc (.tail _ (.head _)) (xsc (.tail _ (.tail _ (.head _))) (xsc (.tail _ (.tail _ (.tail _ (.head _)))) (xsc (.head _) xsn)))) (show ([4, 0, 2, 3] : List Nat).Nodup from by decide) (k_f_Rule_isSound_55 O f d v0 v2 v3 s0 M)
  · skip
    refine xZ.adv (me := xm81) hP_81 2 (pc' := 52) (lv' := [(4, .int s0), (0, .int v0), (2, .int v2), (3, .int v3)]) (st' := [.int (4 : Int32), .int v0]) rfl ?_
    refine xZ.ic_ne (me := xm81) hP_81 rfl (fun h2 => ?_) (fun h2 => ?_)
    · skip
      exact xZ.sub (xsc (.tail _ (.head _)) (xsc (.tail _ (.tail _ (.head _))) (xsc (.tail _ (.tail _ (.tail _ (.head _)))) (xsc (.head _) xsn)))) (show ([4, 0, 2, 3] : List Nat).Nodup from by decide) (k_f_Rule_isSound_55 O f d v0 v2 v3 s0 M)
    · skip
      refine xZ.adv (me := xm81) hP_81 1 (pc' := 75) (lv' := [(4, .int s0), (0, .int v0), (2, .int v2), (3, .int v3)]) (st' := [.int v2]) rfl ?_
      refine xZ.if_ne (me := xm81) hP_81 rfl (fun h3 => ?_) (fun h3 => ?_)
      · skip
        refine xZ.adv (me := xm81) hP_81 2 (pc' := 83) (lv' := [(4, .int s0), (0, .int v0), (2, .int v2), (3, .int v3)]) (st' := [.int (1 : Int32)]) rfl ?_
        exact xZ.sub (xsc (.tail _ (.head _)) (xsc (.tail _ (.tail _ (.tail _ (.head _)))) (xsc (.head _) xsn))) (show ([4, 0, 2, 3] : List Nat).Nodup from by decide) (k_f_Rule_isSound_83 O f d v0 v3 s0 (1 : Int32) M)
      · skip
        refine xZ.adv (me := xm81) hP_81 1 (pc' := 83) (lv' := [(4, .int s0), (0, .int v0), (2, .int v2), (3, .int v3)]) (st' := [.int (0 : Int32)]) rfl ?_
        exact xZ.sub (xsc (.tail _ (.head _)) (xsc (.tail _ (.tail _ (.tail _ (.head _)))) (xsc (.head _) xsn))) (show ([4, 0, 2, 3] : List Nat).Nodup from by decide) (k_f_Rule_isSound_83 O f d v0 v3 s0 (0 : Int32) M)
def f_Rule_isSound_42 (O : Nat → Option va_E) (f : Nat) (v0 : Int32) (v2 : Int32) (v3 : Int32) (M : xM) : Option (Int32 × xM) :=
  f_Rule_isSound_43 O f v0 v2 v3 (0 : Int32) M
set_option maxRecDepth 20000 in
theorem k_f_Rule_isSound_42 (O : Nat → Option va_E) (f d : Nat) (v0 : Int32) (v2 : Int32) (v3 : Int32) (M : xM) : xZ oI O (d + 0) 81 42 [(0, .int v0), (2, .int v2), (3, .int v3)] [] M (f_Rule_isSound_42 O f v0 v2 v3 M) := by
  unfold f_Rule_isSound_42
  refine xZ.adv (me := xm81) hP_81 1 (pc' := 43) (lv' := [(0, .int v0), (2, .int v2), (3, .int v3)]) (st' := [.int (0 : Int32)]) rfl ?_
  exact (k_f_Rule_isSound_43 O f d v0 v2 v3 (0 : Int32) M)
def f_Rule_isSound (O : Nat → Option va_E) (f : Nat) (v0 : Int32) (v1 : Int32) (v2 : Int32) (v3 : Int32) (M : xM) : Option (Int32 × xM) :=
  if v0 < 0 then (
    some ((0 : Int32), M)
  ) else
  if v0 ≤ (5 : Int32) then (
    if v0 = 0 then (
      if v1 = 0 then (
        f_Rule_isSound_43 O f v0 v2 v3 (1 : Int32) M
      ) else
      f_Rule_isSound_43 O f v0 v2 v3 (0 : Int32) M
    ) else
    if v1 < (1 : Int32) then (
      f_Rule_isSound_42 O f v0 v2 v3 M
    ) else
    if (99 : Int32) < v1 then (
      f_Rule_isSound_42 O f v0 v2 v3 M
    ) else
    f_Rule_isSound_43 O f v0 v2 v3 (1 : Int32) M
  ) else
  some ((0 : Int32), M)
set_option maxRecDepth 20000 in
theorem k_f_Rule_isSound (O : Nat → Option va_E) (f d : Nat) (v0 : Int32) (v1 : Int32) (v2 : Int32) (v3 : Int32) (M : xM) : xZ oI O (d + 0) 81 0 [(0, .int v0), (1, .int v1), (2, .int v2), (3, .int v3)] [] M (f_Rule_isSound O f v0 v1 v2 v3 M) := by
  unfold f_Rule_isSound
  refine xZ.adv (me := xm81) hP_81 1 (pc' := 1) (lv' := [(0, .int v0), (1, .int v1), (2, .int v2), (3, .int v3)]) (st' := [.int v0]) rfl ?_
  refine xZ.if_lt (me := xm81) hP_81 rfl (fun h1 => ?_) (fun h1 => ?_)
  · skip
    refine xZ.adv (me := xm81) hP_81 1 (pc' := 10) (lv' := [(0, .int v0), (1, .int v1), (2, .int v2), (3, .int v3)]) (st' := [.int (0 : Int32)]) rfl ?_
    exact xZ.rete (me := xm81) hP_81 rfl rfl rfl
  · skip
    refine xZ.adv (me := xm81) hP_81 2 (pc' := 6) (lv' := [(0, .int v0), (1, .int v1), (2, .int v2), (3, .int v3)]) (st' := [.int (5 : Int32), .int v0]) rfl ?_
    refine xZ.ic_le (me := xm81) hP_81 rfl (fun h2 => ?_) (fun h2 => ?_)
    · skip
      refine xZ.adv (me := xm81) hP_81 1 (pc' := 12) (lv' := [(0, .int v0), (1, .int v1), (2, .int v2), (3, .int v3)]) (st' := [.int v0]) rfl ?_
      refine xZ.if_ne (me := xm81) hP_81 rfl (fun h3 => ?_) (fun h3 => ?_)
      · skip
        refine xZ.adv (me := xm81) hP_81 1 (pc' := 16) (lv' := [(0, .int v0), (1, .int v1), (2, .int v2), (3, .int v3)]) (st' := [.int v1]) rfl ?_
        refine xZ.if_ne (me := xm81) hP_81 rfl (fun h4 => ?_) (fun h4 => ?_)
        · skip
          refine xZ.adv (me := xm81) hP_81 2 (pc' := 43) (lv' := [(0, .int v0), (1, .int v1), (2, .int v2), (3, .int v3)]) (st' := [.int (1 : Int32)]) rfl ?_
          exact xZ.sub (xsc (.head _) (xsc (.tail _ (.tail _ (.head _))) (xsc (.tail _ (.tail _ (.tail _ (.head _)))) xsn))) (show ([0, 1, 2, 3] : List Nat).Nodup from by decide) (k_f_Rule_isSound_43 O f d v0 v2 v3 (1 : Int32) M)
        · skip
          refine xZ.adv (me := xm81) hP_81 2 (pc' := 43) (lv' := [(0, .int v0), (1, .int v1), (2, .int v2), (3, .int v3)]) (st' := [.int (0 : Int32)]) rfl ?_
          exact xZ.sub (xsc (.head _) (xsc (.tail _ (.tail _ (.head _))) (xsc (.tail _ (.tail _ (.tail _ (.head _)))) xsn))) (show ([0, 1, 2, 3] : List Nat).Nodup from by decide) (k_f_Rule_isSound_43 O f d v0 v2 v3 (0 : Int32) M)
      · skip
        refine xZ.adv (me := xm81) hP_81 2 (pc' := 29) (lv' := [(0, .int v0), (1, .int v1), (2, .int v2), (3, .int v3)]) (st' := [.int (1 : Int32), .int v1]) rfl ?_
        refine xZ.ic_lt (me := xm81) hP_81 rfl (fun h5 => ?_) (fun h5 => ?_)
        · skip
          exact xZ.sub (xsc (.head _) (xsc (.tail _ (.tail _ (.head _))) (xsc (.tail _ (.tail _ (.tail _ (.head _)))) xsn))) (show ([0, 1, 2, 3] : List Nat).Nodup from by decide) (k_f_Rule_isSound_42 O f d v0 v2 v3 M)
        · skip
          refine xZ.adv (me := xm81) hP_81 2 (pc' := 35) (lv' := [(0, .int v0), (1, .int v1), (2, .int v2), (3, .int v3)]) (st' := [.int (99 : Int32), .int v1]) rfl ?_
          refine xZ.ic_gt (me := xm81) hP_81 rfl (fun h6 => ?_) (fun h6 => ?_)
          · skip
            exact xZ.sub (xsc (.head _) (xsc (.tail _ (.tail _ (.head _))) (xsc (.tail _ (.tail _ (.tail _ (.head _)))) xsn))) (show ([0, 1, 2, 3] : List Nat).Nodup from by decide) (k_f_Rule_isSound_42 O f d v0 v2 v3 M)
          · skip
            refine xZ.adv (me := xm81) hP_81 2 (pc' := 43) (lv' := [(0, .int v0), (1, .int v1), (2, .int v2), (3, .int v3)]) (st' := [.int (1 : Int32)]) rfl ?_
            exact xZ.sub (xsc (.head _) (xsc (.tail _ (.tail _ (.head _))) (xsc (.tail _ (.tail _ (.tail _ (.head _)))) xsn))) (show ([0, 1, 2, 3] : List Nat).Nodup from by decide) (k_f_Rule_isSound_43 O f d v0 v2 v3 (1 : Int32) M)
    · skip
      refine xZ.adv (me := xm81) hP_81 1 (pc' := 10) (lv' := [(0, .int v0), (1, .int v1), (2, .int v2), (3, .int v3)]) (st' := [.int (0 : Int32)]) rfl ?_
      exact xZ.rete (me := xm81) hP_81 rfl rfl rfl
def f_Calendarhall_setRule (O : Nat → Option va_E) (f : Nat) (v0 : Nat) (v1 : Int32) (v2 : Int32) (v3 : Int32) (v4 : Int32) (v5 : Int32) (M : xM) : Option (Int32 × xM) :=
  (isO O M v0 12).bind fun _ =>
  xcl (f_Calendarhall_seriesNumbered O f v0 v1 M) fun x1 M1 =>
  xcl (f_Rule_isSound O f v2 v3 v4 v5 M1) fun x2 M2 =>
  if x2 = 0 then (
    none
  ) else
  (gR O M2 x1 10 6).bind fun x3 =>
  (gI O M2 x3 9 1).bind fun x4 =>
  (isO O M2 v0 12).bind fun _ =>
  xcl (f_Calendarhall_saveForUndo O f v0 M2) fun _ M3 =>
  (pI M3 x1 10 7 (0 : Int32)).bind fun M4 =>
  (gR O M4 x1 10 6).bind fun x6 =>
  (isO O M4 x6 9).bind fun _ =>
  xcl (f_Rule_put O f x6 v2 v3 v4 v5 M4) fun _ M5 =>
  (gR O M5 x1 10 6).bind fun x8 =>
  (isO O M5 x8 9).bind fun _ =>
  xcl (f_Rule_settle O f x8 M5) fun _ M6 =>
  some (x4, M6)
set_option maxRecDepth 20000 in
theorem k_f_Calendarhall_setRule (O : Nat → Option va_E) (f d : Nat) (v0 : Nat) (v1 : Int32) (v2 : Int32) (v3 : Int32) (v4 : Int32) (v5 : Int32) (M : xM) : xZ oI O (d + 7) 80 0 [(0, .ref v0), (1, .int v1), (2, .int v2), (3, .int v3), (4, .int v4), (5, .int v5)] [] M (f_Calendarhall_setRule O f v0 v1 v2 v3 v4 v5 M) := by
  unfold f_Calendarhall_setRule
  refine xZ.adv (me := xm80) hP_80 2 (pc' := 2) (lv' := [(0, .ref v0), (1, .int v1), (2, .int v2), (3, .int v3), (4, .int v4), (5, .int v5)]) (st' := [.int v1, .ref v0]) rfl ?_
  refine xZ.callv (κ := oR) (av := [.int v1]) (rest := []) (st' := fun x1 => [.ref x1]) (k0 := v0) (me := xm80) hP_80 rfl (Or.inl rfl) ⟨rfl, by decide⟩ rfl rfl (Nat.le_of_ble_eq_true rfl) (by decide) hP_79 (Nat.le_of_ble_eq_true rfl) (fun _ => rfl) (k_f_Calendarhall_seriesNumbered O f (d + 5) v0 v1 M) (fun x1 M1 => ?_)
  refine xZ.adv (me := xm80) hP_80 5 (pc' := 13) (lv' := [(6, .ref x1), (0, .ref v0), (1, .int v1), (2, .int v2), (3, .int v3), (4, .int v4), (5, .int v5)]) (st' := [.int v5, .int v4, .int v3, .int v2]) rfl ?_
  refine xZ.calls (κ := oI) (av := [.int v2, .int v3, .int v4, .int v5]) (rest := []) (st' := fun x2 => [.int x2]) (me := xm80) hP_80 rfl rfl rfl (Nat.le_of_ble_eq_true rfl) (by decide) hP_81 (Nat.le_of_ble_eq_true rfl) (fun _ => rfl) (k_f_Rule_isSound O f (d + 6) v2 v3 v4 v5 M1) (fun x2 M2 => ?_)
  refine xZ.if_ne (me := xm80) hP_80 rfl (fun h1 => ?_) (fun h1 => ?_)
  · skip
    exact xZ.no
  · skip
    refine xZ.adv (me := xm80) hP_80 1 (pc' := 29) (lv' := [(6, .ref x1), (0, .ref v0), (1, .int v1), (2, .int v2), (3, .int v3), (4, .int v4), (5, .int v5)]) (st' := [.ref x1]) rfl ?_
    refine xZ.k_gR (me := xm80) hP_80 rfl (fun x3 => ?_)
    refine xZ.k_gI (me := xm80) hP_80 rfl (fun x4 => ?_)
    refine xZ.adv (me := xm80) hP_80 2 (pc' := 38) (lv' := [(7, .int x4), (6, .ref x1), (0, .ref v0), (1, .int v1), (2, .int v2), (3, .int v3), (4, .int v4), (5, .int v5)]) (st' := [.ref v0]) rfl ?_
    refine xZ.callv (κ := oU) (av := []) (rest := []) (st' := fun _ => []) (k0 := v0) (me := xm80) hP_80 rfl (Or.inl rfl) ⟨rfl, by decide⟩ rfl rfl (Nat.le_of_ble_eq_true rfl) (by decide) hP_23 (Nat.le_of_ble_eq_true rfl) (fun _ => rfl) (k_f_Calendarhall_saveForUndo O f (d + 2) v0 M2) (fun _ M3 => ?_)
    refine xZ.adv (me := xm80) hP_80 2 (pc' := 44) (lv' := [(7, .int x4), (6, .ref x1), (0, .ref v0), (1, .int v1), (2, .int v2), (3, .int v3), (4, .int v4), (5, .int v5)]) (st' := [.int (0 : Int32), .ref x1]) rfl ?_
    refine xZ.k_pI (me := xm80) hP_80 rfl (fun M4 => ?_)
    refine xZ.adv (me := xm80) hP_80 1 (pc' := 49) (lv' := [(7, .int x4), (6, .ref x1), (0, .ref v0), (1, .int v1), (2, .int v2), (3, .int v3), (4, .int v4), (5, .int v5)]) (st' := [.ref x1]) rfl ?_
    refine xZ.k_gR (me := xm80) hP_80 rfl (fun x6 => ?_)
    refine xZ.adv (me := xm80) hP_80 4 (pc' := 58) (lv' := [(7, .int x4), (6, .ref x1), (0, .ref v0), (1, .int v1), (2, .int v2), (3, .int v3), (4, .int v4), (5, .int v5)]) (st' := [.int v5, .int v4, .int v3, .int v2, .ref x6]) rfl ?_
    refine xZ.callv (κ := oU) (av := [.int v2, .int v3, .int v4, .int v5]) (rest := []) (st' := fun _ => []) (k0 := x6) (me := xm80) hP_80 rfl (Or.inl rfl) ⟨rfl, by decide⟩ rfl rfl (Nat.le_of_ble_eq_true rfl) (by decide) hP_32 (Nat.le_of_ble_eq_true rfl) (fun _ => rfl) (k_f_Rule_put O f (d + 6) x6 v2 v3 v4 v5 M4) (fun _ M5 => ?_)
    refine xZ.adv (me := xm80) hP_80 1 (pc' := 63) (lv' := [(7, .int x4), (6, .ref x1), (0, .ref v0), (1, .int v1), (2, .int v2), (3, .int v3), (4, .int v4), (5, .int v5)]) (st' := [.ref x1]) rfl ?_
    refine xZ.k_gR (me := xm80) hP_80 rfl (fun x8 => ?_)
    refine xZ.callv (κ := oU) (av := []) (rest := []) (st' := fun _ => []) (k0 := x8) (me := xm80) hP_80 rfl (Or.inl rfl) ⟨rfl, by decide⟩ rfl rfl (Nat.le_of_ble_eq_true rfl) (by decide) hP_43 (Nat.le_of_ble_eq_true rfl) (fun _ => rfl) (k_f_Rule_settle O f (d + 0) x8 M5) (fun _ M6 => ?_)
    refine xZ.adv (me := xm80) hP_80 1 (pc' := 71) (lv' := [(7, .int x4), (6, .ref x1), (0, .ref v0), (1, .int v1), (2, .int v2), (3, .int v3), (4, .int v4), (5, .int v5)]) (st' := [.int x4]) rfl ?_
    exact xZ.reti (me := xm80) hP_80 rfl rfl
def f_Calendarhall_setEnd_56 (O : Nat → Option va_E) (f : Nat) (v0 : Nat) (v2 : Int32) (v3 : Int32) (v4 : Nat) (M : xM) : Option (Int32 × xM) :=
  (gR O M v4 10 6).bind fun x1 =>
  (gI O M x1 9 5).bind fun x2 =>
  (isO O M v0 12).bind fun _ =>
  xcl (f_Calendarhall_saveForUndo O f v0 M) fun _ M1 =>
  (pI M1 v4 10 7 (0 : Int32)).bind fun M2 =>
  (gR O M2 v4 10 6).bind fun x4 =>
  (isO O M2 x4 9).bind fun _ =>
  xcl (f_Rule_putEnd O f x4 v2 v3 M2) fun _ M3 =>
  (gR O M3 v4 10 6).bind fun x6 =>
  (isO O M3 x6 9).bind fun _ =>
  xcl (f_Rule_settle O f x6 M3) fun _ M4 =>
  some (x2, M4)
set_option maxRecDepth 20000 in
theorem k_f_Calendarhall_setEnd_56 (O : Nat → Option va_E) (f d : Nat) (v0 : Nat) (v2 : Int32) (v3 : Int32) (v4 : Nat) (M : xM) : xZ oI O (d + 7) 82 56 [(0, .ref v0), (2, .int v2), (3, .int v3), (4, .ref v4)] [] M (f_Calendarhall_setEnd_56 O f v0 v2 v3 v4 M) := by
  unfold f_Calendarhall_setEnd_56
  refine xZ.adv (me := xm82) hP_82 1 (pc' := 58) (lv' := [(0, .ref v0), (2, .int v2), (3, .int v3), (4, .ref v4)]) (st' := [.ref v4]) rfl ?_
  refine xZ.k_gR (me := xm82) hP_82 rfl (fun x1 => ?_)
  refine xZ.k_gI (me := xm82) hP_82 rfl (fun x2 => ?_)
  refine xZ.adv (me := xm82) hP_82 2 (pc' := 67) (lv' := [(5, .int x2), (0, .ref v0), (2, .int v2), (3, .int v3), (4, .ref v4)]) (st' := [.ref v0]) rfl ?_
  refine xZ.callv (κ := oU) (av := []) (rest := []) (st' := fun _ => []) (k0 := v0) (me := xm82) hP_82 rfl (Or.inl rfl) ⟨rfl, by decide⟩ rfl rfl (Nat.le_of_ble_eq_true rfl) (by decide) hP_23 (Nat.le_of_ble_eq_true rfl) (fun _ => rfl) (k_f_Calendarhall_saveForUndo O f (d + 2) v0 M) (fun _ M1 => ?_)
  refine xZ.adv (me := xm82) hP_82 2 (pc' := 73) (lv' := [(5, .int x2), (0, .ref v0), (2, .int v2), (3, .int v3), (4, .ref v4)]) (st' := [.int (0 : Int32), .ref v4]) rfl ?_
  refine xZ.k_pI (me := xm82) hP_82 rfl (fun M2 => ?_)
  refine xZ.adv (me := xm82) hP_82 1 (pc' := 78) (lv' := [(5, .int x2), (0, .ref v0), (2, .int v2), (3, .int v3), (4, .ref v4)]) (st' := [.ref v4]) rfl ?_
  refine xZ.k_gR (me := xm82) hP_82 rfl (fun x4 => ?_)
  refine xZ.adv (me := xm82) hP_82 2 (pc' := 83) (lv' := [(5, .int x2), (0, .ref v0), (2, .int v2), (3, .int v3), (4, .ref v4)]) (st' := [.int v3, .int v2, .ref x4]) rfl ?_
  refine xZ.callv (κ := oU) (av := [.int v2, .int v3]) (rest := []) (st' := fun _ => []) (k0 := x4) (me := xm82) hP_82 rfl (Or.inl rfl) ⟨rfl, by decide⟩ rfl rfl (Nat.le_of_ble_eq_true rfl) (by decide) hP_33 (Nat.le_of_ble_eq_true rfl) (fun _ => rfl) (k_f_Rule_putEnd O f (d + 6) x4 v2 v3 M2) (fun _ M3 => ?_)
  refine xZ.adv (me := xm82) hP_82 1 (pc' := 88) (lv' := [(5, .int x2), (0, .ref v0), (2, .int v2), (3, .int v3), (4, .ref v4)]) (st' := [.ref v4]) rfl ?_
  refine xZ.k_gR (me := xm82) hP_82 rfl (fun x6 => ?_)
  refine xZ.callv (κ := oU) (av := []) (rest := []) (st' := fun _ => []) (k0 := x6) (me := xm82) hP_82 rfl (Or.inl rfl) ⟨rfl, by decide⟩ rfl rfl (Nat.le_of_ble_eq_true rfl) (by decide) hP_43 (Nat.le_of_ble_eq_true rfl) (fun _ => rfl) (k_f_Rule_settle O f (d + 0) x6 M3) (fun _ M4 => ?_)
  refine xZ.adv (me := xm82) hP_82 1 (pc' := 96) (lv' := [(5, .int x2), (0, .ref v0), (2, .int v2), (3, .int v3), (4, .ref v4)]) (st' := [.int x2]) rfl ?_
  exact xZ.reti (me := xm82) hP_82 rfl rfl
def f_Calendarhall_setEnd (O : Nat → Option va_E) (f : Nat) (v0 : Nat) (v1 : Int32) (v2 : Int32) (v3 : Int32) (M : xM) : Option (Int32 × xM) :=
  (isO O M v0 12).bind fun _ =>
  xcl (f_Calendarhall_seriesNumbered O f v0 v1 M) fun x1 M1 =>
  xcl (f_Calendarhall_needRange O f v2 (0 : Int32) (2 : Int32) M1) fun _ M2 =>
  if v2 = 0 then (
    xcl (f_Calendarhall_needRange O f v3 (0 : Int32) (0 : Int32) M2) fun _ M3 =>
    f_Calendarhall_setEnd_56 O f v0 v2 v3 x1 M3
  ) else
  if v2 = (1 : Int32) then (
    xcl (f_Calendarhall_needRange O f v3 (1 : Int32) (500 : Int32) M2) fun _ M4 =>
    f_Calendarhall_setEnd_56 O f v0 v2 v3 x1 M4
  ) else
  (gR O M2 x1 10 6).bind fun x5 =>
  (gI O M2 x5 9 0).bind fun x6 =>
  xcl (f_Calendarhall_needRange O f v3 x6 (146000 : Int32) M2) fun _ M5 =>
  f_Calendarhall_setEnd_56 O f v0 v2 v3 x1 M5
set_option maxRecDepth 20000 in
theorem k_f_Calendarhall_setEnd (O : Nat → Option va_E) (f d : Nat) (v0 : Nat) (v1 : Int32) (v2 : Int32) (v3 : Int32) (M : xM) : xZ oI O (d + 7) 82 0 [(0, .ref v0), (1, .int v1), (2, .int v2), (3, .int v3)] [] M (f_Calendarhall_setEnd O f v0 v1 v2 v3 M) := by
  unfold f_Calendarhall_setEnd
  refine xZ.adv (me := xm82) hP_82 2 (pc' := 2) (lv' := [(0, .ref v0), (1, .int v1), (2, .int v2), (3, .int v3)]) (st' := [.int v1, .ref v0]) rfl ?_
  refine xZ.callv (κ := oR) (av := [.int v1]) (rest := []) (st' := fun x1 => [.ref x1]) (k0 := v0) (me := xm82) hP_82 rfl (Or.inl rfl) ⟨rfl, by decide⟩ rfl rfl (Nat.le_of_ble_eq_true rfl) (by decide) hP_79 (Nat.le_of_ble_eq_true rfl) (fun _ => rfl) (k_f_Calendarhall_seriesNumbered O f (d + 5) v0 v1 M) (fun x1 M1 => ?_)
  refine xZ.adv (me := xm82) hP_82 4 (pc' := 10) (lv' := [(4, .ref x1), (0, .ref v0), (1, .int v1), (2, .int v2), (3, .int v3)]) (st' := [.int (2 : Int32), .int (0 : Int32), .int v2]) rfl ?_
  refine xZ.calls (κ := oU) (av := [.int v2, .int (0 : Int32), .int (2 : Int32)]) (rest := []) (st' := fun _ => []) (me := xm82) hP_82 rfl rfl rfl (Nat.le_of_ble_eq_true rfl) (by decide) hP_22 (Nat.le_of_ble_eq_true rfl) (fun _ => rfl) (k_f_Calendarhall_needRange O f (d + 6) v2 (0 : Int32) (2 : Int32) M1) (fun _ M2 => ?_)
  refine xZ.adv (me := xm82) hP_82 1 (pc' := 14) (lv' := [(4, .ref x1), (0, .ref v0), (1, .int v1), (2, .int v2), (3, .int v3)]) (st' := [.int v2]) rfl ?_
  refine xZ.if_ne (me := xm82) hP_82 rfl (fun h1 => ?_) (fun h1 => ?_)
  · skip
    refine xZ.adv (me := xm82) hP_82 3 (pc' := 20) (lv' := [(4, .ref x1), (0, .ref v0), (1, .int v1), (2, .int v2), (3, .int v3)]) (st' := [.int (0 : Int32), .int (0 : Int32), .int v3]) rfl ?_
    refine xZ.calls (κ := oU) (av := [.int v3, .int (0 : Int32), .int (0 : Int32)]) (rest := []) (st' := fun _ => []) (me := xm82) hP_82 rfl rfl rfl (Nat.le_of_ble_eq_true rfl) (by decide) hP_22 (Nat.le_of_ble_eq_true rfl) (fun _ => rfl) (k_f_Calendarhall_needRange O f (d + 6) v3 (0 : Int32) (0 : Int32) M2) (fun _ M3 => ?_)
    refine xZ.adv (me := xm82) hP_82 1 (pc' := 56) (lv' := [(4, .ref x1), (0, .ref v0), (1, .int v1), (2, .int v2), (3, .int v3)]) (st' := []) rfl ?_
    exact xZ.sub (xsc (.tail _ (.head _)) (xsc (.tail _ (.tail _ (.tail _ (.head _)))) (xsc (.tail _ (.tail _ (.tail _ (.tail _ (.head _))))) (xsc (.head _) xsn)))) (show ([4, 0, 1, 2, 3] : List Nat).Nodup from by decide) (k_f_Calendarhall_setEnd_56 O f d v0 v2 v3 x1 M3)
  · skip
    refine xZ.adv (me := xm82) hP_82 2 (pc' := 28) (lv' := [(4, .ref x1), (0, .ref v0), (1, .int v1), (2, .int v2), (3, .int v3)]) (st' := [.int (1 : Int32), .int v2]) rfl ?_
    refine xZ.ic_ne (me := xm82) hP_82 rfl (fun h2 => ?_) (fun h2 => ?_)
    · skip
      refine xZ.adv (me := xm82) hP_82 3 (pc' := 36) (lv' := [(4, .ref x1), (0, .ref v0), (1, .int v1), (2, .int v2), (3, .int v3)]) (st' := [.int (500 : Int32), .int (1 : Int32), .int v3]) rfl ?_
      refine xZ.calls (κ := oU) (av := [.int v3, .int (1 : Int32), .int (500 : Int32)]) (rest := []) (st' := fun _ => []) (me := xm82) hP_82 rfl rfl rfl (Nat.le_of_ble_eq_true rfl) (by decide) hP_22 (Nat.le_of_ble_eq_true rfl) (fun _ => rfl) (k_f_Calendarhall_needRange O f (d + 6) v3 (1 : Int32) (500 : Int32) M2) (fun _ M4 => ?_)
      refine xZ.adv (me := xm82) hP_82 1 (pc' := 56) (lv' := [(4, .ref x1), (0, .ref v0), (1, .int v1), (2, .int v2), (3, .int v3)]) (st' := []) rfl ?_
      exact xZ.sub (xsc (.tail _ (.head _)) (xsc (.tail _ (.tail _ (.tail _ (.head _)))) (xsc (.tail _ (.tail _ (.tail _ (.tail _ (.head _))))) (xsc (.head _) xsn)))) (show ([4, 0, 1, 2, 3] : List Nat).Nodup from by decide) (k_f_Calendarhall_setEnd_56 O f d v0 v2 v3 x1 M4)
    · skip
      refine xZ.adv (me := xm82) hP_82 2 (pc' := 45) (lv' := [(4, .ref x1), (0, .ref v0), (1, .int v1), (2, .int v2), (3, .int v3)]) (st' := [.ref x1, .int v3]) rfl ?_
      refine xZ.k_gR (me := xm82) hP_82 rfl (fun x5 => ?_)
      refine xZ.k_gI (me := xm82) hP_82 rfl (fun x6 => ?_)
      refine xZ.adv (me := xm82) hP_82 1 (pc' := 53) (lv' := [(4, .ref x1), (0, .ref v0), (1, .int v1), (2, .int v2), (3, .int v3)]) (st' := [.int (146000 : Int32), .int x6, .int v3]) rfl ?_
      refine xZ.calls (κ := oU) (av := [.int v3, .int x6, .int (146000 : Int32)]) (rest := []) (st' := fun _ => []) (me := xm82) hP_82 rfl rfl rfl (Nat.le_of_ble_eq_true rfl) (by decide) hP_22 (Nat.le_of_ble_eq_true rfl) (fun _ => rfl) (k_f_Calendarhall_needRange O f (d + 6) v3 x6 (146000 : Int32) M2) (fun _ M5 => ?_)
      exact xZ.sub (xsc (.tail _ (.head _)) (xsc (.tail _ (.tail _ (.tail _ (.head _)))) (xsc (.tail _ (.tail _ (.tail _ (.tail _ (.head _))))) (xsc (.head _) xsn)))) (show ([4, 0, 1, 2, 3] : List Nat).Nodup from by decide) (k_f_Calendarhall_setEnd_56 O f d v0 v2 v3 x1 M5)
def f_Rule_writePlace (O : Nat → Option va_E) (f : Nat) (v0 : Nat) (v1 : Nat) (M : xM) : Option (Unit × xM) :=
  (isO O M v1 1).bind fun _ =>
  xcl (f_StringBuilder_append_256 O f v1 1000000048 M) fun x1 M1 =>
  (gI O M1 v0 9 4).bind fun x2 =>
  if x2 = (-1 : Int32) then (
    (isO O M1 v1 1).bind fun _ =>
    xcl (f_StringBuilder_append_256 O f v1 1000000050 M1) fun x3 M2 =>
    some ((), M2)
  ) else
  (gI O M1 v0 9 4).bind fun x4 =>
  if 0 ≤ x4 then (
    (gI O M1 v0 9 1).bind fun x5 =>
    if x5 = (4 : Int32) then (
      (gI O M1 v0 9 4).bind fun x6 =>
      xcl (f_Reader_ordinal O f x6 M1) fun x7 M3 =>
      (isO O M3 v1 1).bind fun _ =>
      xcl (f_StringBuilder_append_256 O f v1 x7 M3) fun x8 M4 =>
      some ((), M4)
    ) else
    (gI O M1 v0 9 4).bind fun x9 =>
    (isO O M1 v1 1).bind fun _ =>
    xcl (f_StringBuilder_append_285 O f v1 x9 M1) fun x10 M5 =>
    some ((), M5)
  ) else
  (isO O M1 v1 1).bind fun _ =>
  xcl (f_StringBuilder_append_256 O f v1 1000000052 M1) fun x11 M6 =>
  (gI O M6 v0 9 4).bind fun x12 =>
  (isO O M6 v1 1).bind fun _ =>
  xcl (f_StringBuilder_append_285 O f v1 (-x12) M6) fun x13 M7 =>
  some ((), M7)
set_option maxRecDepth 20000 in
theorem k_f_Rule_writePlace (O : Nat → Option va_E) (f d : Nat) (v0 : Nat) (v1 : Nat) (M : xM) : xZ oU O (d + 7) 86 0 [(0, .ref v0), (1, .ref v1)] [] M (f_Rule_writePlace O f v0 v1 M) := by
  unfold f_Rule_writePlace
  refine xZ.adv (me := xm86) hP_86 2 (pc' := 3) (lv' := [(0, .ref v0), (1, .ref v1)]) (st' := [.ref 1000000048, .ref v1]) rfl ?_
  refine xZ.callv (κ := oR) (av := [.ref 1000000048]) (rest := []) (st' := fun x1 => [.ref x1]) (k0 := v1) (me := xm86) hP_86 rfl (Or.inl rfl) ⟨rfl, by decide⟩ rfl rfl (Nat.le_of_ble_eq_true rfl) (by decide) hP_256 (Nat.le_of_ble_eq_true rfl) (fun _ => rfl) (k_f_StringBuilder_append_256 O f (d + 0) v1 1000000048 M) (fun x1 M1 => ?_)
  refine xZ.adv (me := xm86) hP_86 2 (pc' := 8) (lv' := [(0, .ref v0), (1, .ref v1)]) (st' := [.ref v0]) rfl ?_
  refine xZ.k_gI (me := xm86) hP_86 rfl (fun x2 => ?_)
  refine xZ.adv (me := xm86) hP_86 1 (pc' := 12) (lv' := [(0, .ref v0), (1, .ref v1)]) (st' := [.int (-1 : Int32), .int x2]) rfl ?_
  refine xZ.ic_ne (me := xm86) hP_86 rfl (fun h1 => ?_) (fun h1 => ?_)
  · skip
    refine xZ.adv (me := xm86) hP_86 2 (pc' := 18) (lv' := [(0, .ref v0), (1, .ref v1)]) (st' := [.ref 1000000050, .ref v1]) rfl ?_
    refine xZ.callv (κ := oR) (av := [.ref 1000000050]) (rest := []) (st' := fun x3 => [.ref x3]) (k0 := v1) (me := xm86) hP_86 rfl (Or.inl rfl) ⟨rfl, by decide⟩ rfl rfl (Nat.le_of_ble_eq_true rfl) (by decide) hP_256 (Nat.le_of_ble_eq_true rfl) (fun _ => rfl) (k_f_StringBuilder_append_256 O f (d + 0) v1 1000000050 M1) (fun x3 M2 => ?_)
    refine xZ.adv (me := xm86) hP_86 2 (pc' := 84) (lv' := [(0, .ref v0), (1, .ref v1)]) (st' := []) rfl ?_
    exact xZ.retu (me := xm86) hP_86 rfl rfl
  · skip
    refine xZ.adv (me := xm86) hP_86 1 (pc' := 26) (lv' := [(0, .ref v0), (1, .ref v1)]) (st' := [.ref v0]) rfl ?_
    refine xZ.k_gI (me := xm86) hP_86 rfl (fun x4 => ?_)
    refine xZ.if_ge (me := xm86) hP_86 rfl (fun h2 => ?_) (fun h2 => ?_)
    · skip
      refine xZ.adv (me := xm86) hP_86 1 (pc' := 53) (lv' := [(0, .ref v0), (1, .ref v1)]) (st' := [.ref v0]) rfl ?_
      refine xZ.k_gI (me := xm86) hP_86 rfl (fun x5 => ?_)
      refine xZ.adv (me := xm86) hP_86 1 (pc' := 57) (lv' := [(0, .ref v0), (1, .ref v1)]) (st' := [.int (4 : Int32), .int x5]) rfl ?_
      refine xZ.ic_ne (me := xm86) hP_86 rfl (fun h3 => ?_) (fun h3 => ?_)
      · skip
        refine xZ.adv (me := xm86) hP_86 2 (pc' := 62) (lv' := [(0, .ref v0), (1, .ref v1)]) (st' := [.ref v0, .ref v1]) rfl ?_
        refine xZ.k_gI (me := xm86) hP_86 rfl (fun x6 => ?_)
        refine xZ.calls (κ := oR) (av := [.int x6]) (rest := [.ref v1]) (st' := fun x7 => [.ref x7, .ref v1]) (me := xm86) hP_86 rfl rfl rfl (Nat.le_of_ble_eq_true rfl) (by decide) hP_75 (Nat.le_of_ble_eq_true rfl) (fun _ => rfl) (k_f_Reader_ordinal O f (d + 6) x6 M1) (fun x7 M3 => ?_)
        refine xZ.callv (κ := oR) (av := [.ref x7]) (rest := []) (st' := fun x8 => [.ref x8]) (k0 := v1) (me := xm86) hP_86 rfl (Or.inl rfl) ⟨rfl, by decide⟩ rfl rfl (Nat.le_of_ble_eq_true rfl) (by decide) hP_256 (Nat.le_of_ble_eq_true rfl) (fun _ => rfl) (k_f_StringBuilder_append_256 O f (d + 0) v1 x7 M3) (fun x8 M4 => ?_)
        refine xZ.adv (me := xm86) hP_86 2 (pc' := 84) (lv' := [(0, .ref v0), (1, .ref v1)]) (st' := []) rfl ?_
        exact xZ.retu (me := xm86) hP_86 rfl rfl
      · skip
        refine xZ.adv (me := xm86) hP_86 2 (pc' := 77) (lv' := [(0, .ref v0), (1, .ref v1)]) (st' := [.ref v0, .ref v1]) rfl ?_
        refine xZ.k_gI (me := xm86) hP_86 rfl (fun x9 => ?_)
        refine xZ.callv (κ := oR) (av := [.int x9]) (rest := []) (st' := fun x10 => [.ref x10]) (k0 := v1) (me := xm86) hP_86 rfl (Or.inl rfl) ⟨rfl, by decide⟩ rfl rfl (Nat.le_of_ble_eq_true rfl) (by decide) hP_285 (Nat.le_of_ble_eq_true rfl) (fun _ => rfl) (k_f_StringBuilder_append_285 O f (d + 1) v1 x9 M1) (fun x10 M5 => ?_)
        refine xZ.adv (me := xm86) hP_86 1 (pc' := 84) (lv' := [(0, .ref v0), (1, .ref v1)]) (st' := []) rfl ?_
        exact xZ.retu (me := xm86) hP_86 rfl rfl
    · skip
      refine xZ.adv (me := xm86) hP_86 2 (pc' := 35) (lv' := [(0, .ref v0), (1, .ref v1)]) (st' := [.ref 1000000052, .ref v1]) rfl ?_
      refine xZ.callv (κ := oR) (av := [.ref 1000000052]) (rest := []) (st' := fun x11 => [.ref x11]) (k0 := v1) (me := xm86) hP_86 rfl (Or.inl rfl) ⟨rfl, by decide⟩ rfl rfl (Nat.le_of_ble_eq_true rfl) (by decide) hP_256 (Nat.le_of_ble_eq_true rfl) (fun _ => rfl) (k_f_StringBuilder_append_256 O f (d + 0) v1 1000000052 M1) (fun x11 M6 => ?_)
      refine xZ.adv (me := xm86) hP_86 3 (pc' := 41) (lv' := [(0, .ref v0), (1, .ref v1)]) (st' := [.ref v0, .ref v1]) rfl ?_
      refine xZ.k_gI (me := xm86) hP_86 rfl (fun x12 => ?_)
      refine xZ.adv (me := xm86) hP_86 1 (pc' := 45) (lv' := [(0, .ref v0), (1, .ref v1)]) (st' := [.int (-x12), .ref v1]) rfl ?_
      refine xZ.callv (κ := oR) (av := [.int (-x12)]) (rest := []) (st' := fun x13 => [.ref x13]) (k0 := v1) (me := xm86) hP_86 rfl (Or.inl rfl) ⟨rfl, by decide⟩ rfl rfl (Nat.le_of_ble_eq_true rfl) (by decide) hP_285 (Nat.le_of_ble_eq_true rfl) (fun _ => rfl) (k_f_StringBuilder_append_285 O f (d + 1) v1 (-x12) M6) (fun x13 M7 => ?_)
      refine xZ.adv (me := xm86) hP_86 2 (pc' := 84) (lv' := [(0, .ref v0), (1, .ref v1)]) (st' := []) rfl ?_
      exact xZ.retu (me := xm86) hP_86 rfl rfl
def f_StringLatin1_canEncode (O : Nat → Option va_E) (f : Nat) (v0 : Int32) (M : xM) : Option (Int32 × xM) :=
  if (255 : Int32) < v0 then (
    some ((0 : Int32), M)
  ) else
  some ((1 : Int32), M)
set_option maxRecDepth 20000 in
theorem k_f_StringLatin1_canEncode (O : Nat → Option va_E) (f d : Nat) (v0 : Int32) (M : xM) : xZ oI O (d + 0) 301 0 [(0, .int v0)] [] M (f_StringLatin1_canEncode O f v0 M) := by
  unfold f_StringLatin1_canEncode
  refine xZ.adv (me := xm301) hP_301 2 (pc' := 4) (lv' := [(0, .int v0)]) (st' := [.int (255 : Int32), .int v0]) rfl ?_
  refine xZ.ic_gt (me := xm301) hP_301 rfl (fun h1 => ?_) (fun h1 => ?_)
  · skip
    refine xZ.adv (me := xm301) hP_301 1 (pc' := 12) (lv' := [(0, .int v0)]) (st' := [.int (0 : Int32)]) rfl ?_
    exact xZ.rete (me := xm301) hP_301 rfl rfl rfl
  · skip
    refine xZ.adv (me := xm301) hP_301 2 (pc' := 12) (lv' := [(0, .int v0)]) (st' := [.int (1 : Int32)]) rfl ?_
    exact xZ.rete (me := xm301) hP_301 rfl rfl rfl
def f_AbstractStringBuilder_append_300_56 (O : Nat → Option va_E) (f : Nat) (v0 : Nat) (v1 : Int32) (M : xM) : Option (Nat × xM) :=
  (gR O M v0 1 0).bind fun x1 =>
  (gI O M v0 1 3).bind fun x2 =>
  (pI M v0 1 3 (x2 + (1 : Int32))).bind fun M1 =>
  none
set_option maxRecDepth 20000 in
theorem k_f_AbstractStringBuilder_append_300_56 (O : Nat → Option va_E) (f d : Nat) (v0 : Nat) (v1 : Int32) (M : xM) : xZ oR O (d + 4) 300 56 [(0, .ref v0), (1, .int v1)] [] M (f_AbstractStringBuilder_append_300_56 O f v0 v1 M) := by
  unfold f_AbstractStringBuilder_append_300_56
  refine xZ.adv (me := xm300) hP_300 1 (pc' := 57) (lv' := [(0, .ref v0), (1, .int v1)]) (st' := [.ref v0]) rfl ?_
  refine xZ.k_gR (me := xm300) hP_300 rfl (fun x1 => ?_)
  refine xZ.adv (me := xm300) hP_300 2 (pc' := 62) (lv' := [(0, .ref v0), (1, .int v1)]) (st' := [.ref v0, .ref v0, .ref x1]) rfl ?_
  refine xZ.k_gI (me := xm300) hP_300 rfl (fun x2 => ?_)
  refine xZ.adv (me := xm300) hP_300 3 (pc' := 68) (lv' := [(0, .ref v0), (1, .int v1)]) (st' := [.int (x2 + (1 : Int32)), .ref v0, .int x2, .ref x1]) rfl ?_
  refine xZ.k_pI (me := xm300) hP_300 rfl (fun M1 => ?_)
  refine xZ.adv (me := xm300) hP_300 1 (pc' := 72) (lv' := [(0, .ref v0), (1, .int v1)]) (st' := [.int v1, .int x2, .ref x1]) rfl ?_
  exact xZ.no
def f_AbstractStringBuilder_append_300_45 (O : Nat → Option va_E) (f : Nat) (v0 : Nat) (v1 : Int32) (M : xM) : Option (Nat × xM) :=
  (isO O M v0 1).bind fun _ =>
  xcl (f_AbstractStringBuilder_isLatin1 O f v0 M) fun x1 M1 =>
  if x1 = 0 then (
    f_AbstractStringBuilder_append_300_56 O f v0 v1 M1
  ) else
  (isO O M1 v0 1).bind fun _ =>
  xcl (f_AbstractStringBuilder_inflate O f v0 M1) fun _ M2 =>
  f_AbstractStringBuilder_append_300_56 O f v0 v1 M2
set_option maxRecDepth 20000 in
theorem k_f_AbstractStringBuilder_append_300_45 (O : Nat → Option va_E) (f d : Nat) (v0 : Nat) (v1 : Int32) (M : xM) : xZ oR O (d + 4) 300 45 [(0, .ref v0), (1, .int v1)] [] M (f_AbstractStringBuilder_append_300_45 O f v0 v1 M) := by
  unfold f_AbstractStringBuilder_append_300_45
  refine xZ.adv (me := xm300) hP_300 1 (pc' := 46) (lv' := [(0, .ref v0), (1, .int v1)]) (st' := [.ref v0]) rfl ?_
  refine xZ.callv (κ := oI) (av := []) (rest := []) (st' := fun x1 => [.int x1]) (k0 := v0) (me := xm300) hP_300 rfl (Or.inr (Or.inl rfl)) ⟨rfl, by decide⟩ rfl rfl (Nat.le_of_ble_eq_true rfl) (by decide) hP_264 (Nat.le_of_ble_eq_true rfl) (fun _ => rfl) (k_f_AbstractStringBuilder_isLatin1 O f (d + 3) v0 M) (fun x1 M1 => ?_)
  refine xZ.if_eq (me := xm300) hP_300 rfl (fun h1 => ?_) (fun h1 => ?_)
  · skip
    exact (k_f_AbstractStringBuilder_append_300_56 O f d v0 v1 M1)
  · skip
    refine xZ.adv (me := xm300) hP_300 1 (pc' := 53) (lv' := [(0, .ref v0), (1, .int v1)]) (st' := [.ref v0]) rfl ?_
    refine xZ.callv (κ := oU) (av := []) (rest := []) (st' := fun _ => []) (k0 := v0) (me := xm300) hP_300 rfl (Or.inr (Or.inl rfl)) ⟨rfl, by decide⟩ rfl rfl (Nat.le_of_ble_eq_true rfl) (by decide) hP_271 (Nat.le_of_ble_eq_true rfl) (fun _ => rfl) (k_f_AbstractStringBuilder_inflate O f (d + 2) v0 M1) (fun _ M2 => ?_)
    exact (k_f_AbstractStringBuilder_append_300_56 O f d v0 v1 M2)
def f_AbstractStringBuilder_append_300 (O : Nat → Option va_E) (f : Nat) (v0 : Nat) (v1 : Int32) (M : xM) : Option (Nat × xM) :=
  (gI O M v0 1 3).bind fun x1 =>
  (isO O M v0 1).bind fun _ =>
  xcl (f_AbstractStringBuilder_ensureCapacityInternal O f v0 (x1 + (1 : Int32)) M) fun _ M1 =>
  (isO O M1 v0 1).bind fun _ =>
  xcl (f_AbstractStringBuilder_isLatin1 O f v0 M1) fun x3 M2 =>
  if x3 = 0 then (
    f_AbstractStringBuilder_append_300_45 O f v0 v1 M2
  ) else
  xcl (f_StringLatin1_canEncode O f v1 M2) fun x4 M3 =>
  if x4 = 0 then (
    f_AbstractStringBuilder_append_300_45 O f v0 v1 M3
  ) else
  (gR O M3 v0 1 0).bind fun x5 =>
  (gI O M3 v0 1 3).bind fun x6 =>
  (pI M3 v0 1 3 (x6 + (1 : Int32))).bind fun M4 =>
  (wB M4 x5 x6 ((Int32.toInt8 v1).toInt32)).bind fun M5 =>
  some (v0, M5)
set_option maxRecDepth 20000 in
theorem k_f_AbstractStringBuilder_append_300 (O : Nat → Option va_E) (f d : Nat) (v0 : Nat) (v1 : Int32) (M : xM) : xZ oR O (d + 4) 300 0 [(0, .ref v0), (1, .int v1)] [] M (f_AbstractStringBuilder_append_300 O f v0 v1 M) := by
  unfold f_AbstractStringBuilder_append_300
  refine xZ.adv (me := xm300) hP_300 2 (pc' := 2) (lv' := [(0, .ref v0), (1, .int v1)]) (st' := [.ref v0, .ref v0]) rfl ?_
  refine xZ.k_gI (me := xm300) hP_300 rfl (fun x1 => ?_)
  refine xZ.adv (me := xm300) hP_300 2 (pc' := 7) (lv' := [(0, .ref v0), (1, .int v1)]) (st' := [.int (x1 + (1 : Int32)), .ref v0]) rfl ?_
  refine xZ.callv (κ := oU) (av := [.int (x1 + (1 : Int32))]) (rest := []) (st' := fun _ => []) (k0 := v0) (me := xm300) hP_300 rfl (Or.inr (Or.inl rfl)) ⟨rfl, by decide⟩ rfl rfl (Nat.le_of_ble_eq_true rfl) (by decide) hP_259 (Nat.le_of_ble_eq_true rfl) (fun _ => rfl) (k_f_AbstractStringBuilder_ensureCapacityInternal O f (d + 0) v0 (x1 + (1 : Int32)) M) (fun _ M1 => ?_)
  refine xZ.adv (me := xm300) hP_300 1 (pc' := 11) (lv' := [(0, .ref v0), (1, .int v1)]) (st' := [.ref v0]) rfl ?_
  refine xZ.callv (κ := oI) (av := []) (rest := []) (st' := fun x3 => [.int x3]) (k0 := v0) (me := xm300) hP_300 rfl (Or.inr (Or.inl rfl)) ⟨rfl, by decide⟩ rfl rfl (Nat.le_of_ble_eq_true rfl) (by decide) hP_264 (Nat.le_of_ble_eq_true rfl) (fun _ => rfl) (k_f_AbstractStringBuilder_isLatin1 O f (d + 3) v0 M1) (fun x3 M2 => ?_)
  refine xZ.if_eq (me := xm300) hP_300 rfl (fun h1 => ?_) (fun h1 => ?_)
  · skip
    exact (k_f_AbstractStringBuilder_append_300_45 O f d v0 v1 M2)
  · skip
    refine xZ.adv (me := xm300) hP_300 1 (pc' := 18) (lv' := [(0, .ref v0), (1, .int v1)]) (st' := [.int v1]) rfl ?_
    refine xZ.calls (κ := oI) (av := [.int v1]) (rest := []) (st' := fun x4 => [.int x4]) (me := xm300) hP_300 rfl rfl rfl (Nat.le_of_ble_eq_true rfl) (by decide) hP_301 (Nat.le_of_ble_eq_true rfl) (fun _ => rfl) (k_f_StringLatin1_canEncode O f (d + 3) v1 M2) (fun x4 M3 => ?_)
    refine xZ.if_eq (me := xm300) hP_300 rfl (fun h2 => ?_) (fun h2 => ?_)
    · skip
      exact (k_f_AbstractStringBuilder_append_300_45 O f d v0 v1 M3)
    · skip
      refine xZ.adv (me := xm300) hP_300 1 (pc' := 25) (lv' := [(0, .ref v0), (1, .int v1)]) (st' := [.ref v0]) rfl ?_
      refine xZ.k_gR (me := xm300) hP_300 rfl (fun x5 => ?_)
      refine xZ.adv (me := xm300) hP_300 2 (pc' := 30) (lv' := [(0, .ref v0), (1, .int v1)]) (st' := [.ref v0, .ref v0, .ref x5]) rfl ?_
      refine xZ.k_gI (me := xm300) hP_300 rfl (fun x6 => ?_)
      refine xZ.adv (me := xm300) hP_300 3 (pc' := 36) (lv' := [(0, .ref v0), (1, .int v1)]) (st' := [.int (x6 + (1 : Int32)), .ref v0, .int x6, .ref x5]) rfl ?_
      refine xZ.k_pI (me := xm300) hP_300 rfl (fun M4 => ?_)
      refine xZ.adv (me := xm300) hP_300 2 (pc' := 41) (lv' := [(0, .ref v0), (1, .int v1)]) (st' := [.int ((Int32.toInt8 v1).toInt32), .int x6, .ref x5]) rfl ?_
      refine xZ.k_wB (me := xm300) hP_300 rfl (fun M5 => ?_)
      refine xZ.adv (me := xm300) hP_300 2 (pc' := 76) (lv' := [(0, .ref v0), (1, .int v1)]) (st' := [.ref v0]) rfl ?_
      exact xZ.retr (me := xm300) hP_300 rfl rfl rfl
def f_StringBuilder_append_299 (O : Nat → Option va_E) (f : Nat) (v0 : Nat) (v1 : Int32) (M : xM) : Option (Nat × xM) :=
  (isO O M v0 1).bind fun _ =>
  xcl (f_AbstractStringBuilder_append_300 O f v0 v1 M) fun x1 M1 =>
  some (v0, M1)
set_option maxRecDepth 20000 in
theorem k_f_StringBuilder_append_299 (O : Nat → Option va_E) (f d : Nat) (v0 : Nat) (v1 : Int32) (M : xM) : xZ oR O (d + 5) 299 0 [(0, .ref v0), (1, .int v1)] [] M (f_StringBuilder_append_299 O f v0 v1 M) := by
  unfold f_StringBuilder_append_299
  refine xZ.adv (me := xm299) hP_299 2 (pc' := 2) (lv' := [(0, .ref v0), (1, .int v1)]) (st' := [.int v1, .ref v0]) rfl ?_
  refine xZ.callu (κ := oR) (av := [.int v1]) (rest := []) (st' := fun x1 => [.ref x1]) (k0 := v0) (me := xm299) hP_299 rfl ⟨rfl, by decide⟩ rfl rfl (Nat.le_of_ble_eq_true rfl) (by decide) hP_300 (Nat.le_of_ble_eq_true rfl) (fun _ => rfl) (k_f_AbstractStringBuilder_append_300 O f (d + 0) v0 v1 M) (fun x1 M1 => ?_)
  refine xZ.adv (me := xm299) hP_299 2 (pc' := 7) (lv' := [(0, .ref v0), (1, .int v1)]) (st' := [.ref v0]) rfl ?_
  exact xZ.retr (me := xm299) hP_299 rfl rfl rfl
def f_Rule_writeUnit_61 (O : Nat → Option va_E) (f : Nat) : Nat → Nat → Nat → Int32 → xM → Option (Unit × xM)
  | 0, _, _, _, _ => none
  | n + 1, v0, v1, v2, M =>
    if (7 : Int32) ≤ v2 then (
      some ((), M)
    ) else
    (gI O M v0 9 3).bind fun x1 =>
    if ((x1 >>> (v2 &&& 31)) &&& (1 : Int32)) = 0 then (
      f_Rule_writeUnit_61 O f n v0 v1 (v2 + (1 : Int32)) M
    ) else
    (isO O M v1 1).bind fun _ =>
    xcl (f_StringBuilder_append_299 O f v1 (32 : Int32) M) fun x2 M1 =>
    (isO O M1 1000000064 0).bind fun _ =>
    xcl (f_String_charAt O f 1000000064 ((2 : Int32) * v2) M1) fun x3 M2 =>
    (isO O M2 v1 1).bind fun _ =>
    xcl (f_StringBuilder_append_299 O f v1 x3 M2) fun x4 M3 =>
    (isO O M3 1000000064 0).bind fun _ =>
    xcl (f_String_charAt O f 1000000064 (((2 : Int32) * v2) + (1 : Int32)) M3) fun x5 M4 =>
    (isO O M4 v1 1).bind fun _ =>
    xcl (f_StringBuilder_append_299 O f v1 x5 M4) fun x6 M5 =>
    f_Rule_writeUnit_61 O f n v0 v1 (v2 + (1 : Int32)) M5
set_option maxRecDepth 20000 in
theorem k_f_Rule_writeUnit_61 (O : Nat → Option va_E) (f d : Nat) : ∀ (n : Nat) (v0 : Nat) (v1 : Nat) (v2 : Int32) (M : xM), xZ oU O (d + 8) 85 61 [(0, .ref v0), (1, .ref v1), (2, .int v2)] [] M (f_Rule_writeUnit_61 O f n v0 v1 v2 M) := by
  intro n
  induction n with
  | zero =>
    intro v0 v1 v2 M
    exact xZ.no
  | succ n ih =>
    intro v0 v1 v2 M
    unfold f_Rule_writeUnit_61
    refine xZ.adv (me := xm85) hP_85 2 (pc' := 64) (lv' := [(0, .ref v0), (1, .ref v1), (2, .int v2)]) (st' := [.int (7 : Int32), .int v2]) rfl ?_
    refine xZ.ic_ge (me := xm85) hP_85 rfl (fun h1 => ?_) (fun h1 => ?_)
    · skip
      exact xZ.retu (me := xm85) hP_85 rfl rfl
    · skip
      refine xZ.adv (me := xm85) hP_85 1 (pc' := 68) (lv' := [(0, .ref v0), (1, .ref v1), (2, .int v2)]) (st' := [.ref v0]) rfl ?_
      refine xZ.k_gI (me := xm85) hP_85 rfl (fun x1 => ?_)
      refine xZ.adv (me := xm85) hP_85 4 (pc' := 75) (lv' := [(0, .ref v0), (1, .ref v1), (2, .int v2)]) (st' := [.int ((x1 >>> (v2 &&& 31)) &&& (1 : Int32))]) rfl ?_
      refine xZ.if_ne (me := xm85) hP_85 rfl (fun h2 => ?_) (fun h2 => ?_)
      · skip
        refine xZ.adv (me := xm85) hP_85 3 (pc' := 61) (lv' := [(2, .int (v2 + (1 : Int32))), (0, .ref v0), (1, .ref v1)]) (st' := []) rfl ?_
        exact xZ.sub (xsc (.tail _ (.head _)) (xsc (.tail _ (.tail _ (.head _))) (xsc (.head _) xsn))) (show ([2, 0, 1] : List Nat).Nodup from by decide) (ih v0 v1 (v2 + (1 : Int32)) M)
      · skip
        refine xZ.adv (me := xm85) hP_85 2 (pc' := 84) (lv' := [(0, .ref v0), (1, .ref v1), (2, .int v2)]) (st' := [.int (32 : Int32), .ref v1]) rfl ?_
        refine xZ.callv (κ := oR) (av := [.int (32 : Int32)]) (rest := []) (st' := fun x2 => [.ref x2]) (k0 := v1) (me := xm85) hP_85 rfl (Or.inl rfl) ⟨rfl, by decide⟩ rfl rfl (Nat.le_of_ble_eq_true rfl) (by decide) hP_299 (Nat.le_of_ble_eq_true rfl) (fun _ => rfl) (k_f_StringBuilder_append_299 O f (d + 2) v1 (32 : Int32) M) (fun x2 M1 => ?_)
        refine xZ.adv (me := xm85) hP_85 6 (pc' := 94) (lv' := [(0, .ref v0), (1, .ref v1), (2, .int v2)]) (st' := [.int ((2 : Int32) * v2), .ref 1000000064, .ref v1]) rfl ?_
        refine xZ.callv (κ := oI) (av := [.int ((2 : Int32) * v2)]) (rest := [.ref v1]) (st' := fun x3 => [.int x3, .ref v1]) (k0 := 1000000064) (me := xm85) hP_85 rfl (Or.inl rfl) ⟨rfl, by decide⟩ rfl rfl (Nat.le_of_ble_eq_true rfl) (by decide) hP_289 (Nat.le_of_ble_eq_true rfl) (fun _ => rfl) (k_f_String_charAt O f (d + 4) 1000000064 ((2 : Int32) * v2) M1) (fun x3 M2 => ?_)
        refine xZ.callv (κ := oR) (av := [.int x3]) (rest := []) (st' := fun x4 => [.ref x4]) (k0 := v1) (me := xm85) hP_85 rfl (Or.inl rfl) ⟨rfl, by decide⟩ rfl rfl (Nat.le_of_ble_eq_true rfl) (by decide) hP_299 (Nat.le_of_ble_eq_true rfl) (fun _ => rfl) (k_f_StringBuilder_append_299 O f (d + 2) v1 x3 M2) (fun x4 M3 => ?_)
        refine xZ.adv (me := xm85) hP_85 8 (pc' := 109) (lv' := [(0, .ref v0), (1, .ref v1), (2, .int v2)]) (st' := [.int (((2 : Int32) * v2) + (1 : Int32)), .ref 1000000064, .ref v1]) rfl ?_
        refine xZ.callv (κ := oI) (av := [.int (((2 : Int32) * v2) + (1 : Int32))]) (rest := [.ref v1]) (st' := fun x5 => [.int x5, .ref v1]) (k0 := 1000000064) (me := xm85) hP_85 rfl (Or.inl rfl) ⟨rfl, by decide⟩ rfl rfl (Nat.le_of_ble_eq_true rfl) (by decide) hP_289 (Nat.le_of_ble_eq_true rfl) (fun _ => rfl) (k_f_String_charAt O f (d + 4) 1000000064 (((2 : Int32) * v2) + (1 : Int32)) M3) (fun x5 M4 => ?_)
        refine xZ.callv (κ := oR) (av := [.int x5]) (rest := []) (st' := fun x6 => [.ref x6]) (k0 := v1) (me := xm85) hP_85 rfl (Or.inl rfl) ⟨rfl, by decide⟩ rfl rfl (Nat.le_of_ble_eq_true rfl) (by decide) hP_299 (Nat.le_of_ble_eq_true rfl) (fun _ => rfl) (k_f_StringBuilder_append_299 O f (d + 2) v1 x5 M4) (fun x6 M5 => ?_)
        refine xZ.adv (me := xm85) hP_85 3 (pc' := 61) (lv' := [(2, .int (v2 + (1 : Int32))), (0, .ref v0), (1, .ref v1)]) (st' := []) rfl ?_
        exact xZ.sub (xsc (.tail _ (.head _)) (xsc (.tail _ (.tail _ (.head _))) (xsc (.head _) xsn))) (show ([2, 0, 1] : List Nat).Nodup from by decide) (ih v0 v1 (v2 + (1 : Int32)) M5)
def f_Rule_writeUnit_59 (O : Nat → Option va_E) (f : Nat) (v0 : Nat) (v1 : Nat) (M : xM) : Option (Unit × xM) :=
  f_Rule_writeUnit_61 O f f v0 v1 (0 : Int32) M
set_option maxRecDepth 20000 in
theorem k_f_Rule_writeUnit_59 (O : Nat → Option va_E) (f d : Nat) (v0 : Nat) (v1 : Nat) (M : xM) : xZ oU O (d + 8) 85 59 [(0, .ref v0), (1, .ref v1)] [] M (f_Rule_writeUnit_59 O f v0 v1 M) := by
  unfold f_Rule_writeUnit_59
  refine xZ.adv (me := xm85) hP_85 2 (pc' := 61) (lv' := [(2, .int (0 : Int32)), (0, .ref v0), (1, .ref v1)]) (st' := []) rfl ?_
  exact xZ.sub (xsc (.tail _ (.head _)) (xsc (.tail _ (.tail _ (.head _))) (xsc (.head _) xsn))) (show ([2, 0, 1] : List Nat).Nodup from by decide) (k_f_Rule_writeUnit_61 O f d f v0 v1 (0 : Int32) M)
def f_Rule_writeUnit (O : Nat → Option va_E) (f : Nat) (v0 : Nat) (v1 : Nat) (M : xM) : Option (Unit × xM) :=
  (gI O M v0 9 1).bind fun x1 =>
  if x1 = (1 : Int32) then (
    (isO O M v1 1).bind fun _ =>
    xcl (f_StringBuilder_append_256 O f v1 1000000042 M) fun x2 M1 =>
    f_Rule_writeUnit_59 O f v0 v1 M1
  ) else
  (gI O M v0 9 1).bind fun x3 =>
  if x3 = (2 : Int32) then (
    (isO O M v1 1).bind fun _ =>
    xcl (f_StringBuilder_append_256 O f v1 1000000044 M) fun x4 M2 =>
    f_Rule_writeUnit_59 O f v0 v1 M2
  ) else
  (gI O M v0 9 1).bind fun x5 =>
  if x5 = (5 : Int32) then (
    (isO O M v1 1).bind fun _ =>
    xcl (f_StringBuilder_append_256 O f v1 1000000046 M) fun x6 M3 =>
    f_Rule_writeUnit_59 O f v0 v1 M3
  ) else
  (isO O M v0 9).bind fun _ =>
  xcl (f_Rule_writePlace O f v0 v1 M) fun _ M4 =>
  f_Rule_writeUnit_59 O f v0 v1 M4
set_option maxRecDepth 20000 in
theorem k_f_Rule_writeUnit (O : Nat → Option va_E) (f d : Nat) (v0 : Nat) (v1 : Nat) (M : xM) : xZ oU O (d + 8) 85 0 [(0, .ref v0), (1, .ref v1)] [] M (f_Rule_writeUnit O f v0 v1 M) := by
  unfold f_Rule_writeUnit
  refine xZ.adv (me := xm85) hP_85 1 (pc' := 1) (lv' := [(0, .ref v0), (1, .ref v1)]) (st' := [.ref v0]) rfl ?_
  refine xZ.k_gI (me := xm85) hP_85 rfl (fun x1 => ?_)
  refine xZ.adv (me := xm85) hP_85 1 (pc' := 5) (lv' := [(0, .ref v0), (1, .ref v1)]) (st' := [.int (1 : Int32), .int x1]) rfl ?_
  refine xZ.ic_ne (me := xm85) hP_85 rfl (fun h1 => ?_) (fun h1 => ?_)
  · skip
    refine xZ.adv (me := xm85) hP_85 2 (pc' := 11) (lv' := [(0, .ref v0), (1, .ref v1)]) (st' := [.ref 1000000042, .ref v1]) rfl ?_
    refine xZ.callv (κ := oR) (av := [.ref 1000000042]) (rest := []) (st' := fun x2 => [.ref x2]) (k0 := v1) (me := xm85) hP_85 rfl (Or.inl rfl) ⟨rfl, by decide⟩ rfl rfl (Nat.le_of_ble_eq_true rfl) (by decide) hP_256 (Nat.le_of_ble_eq_true rfl) (fun _ => rfl) (k_f_StringBuilder_append_256 O f (d + 1) v1 1000000042 M) (fun x2 M1 => ?_)
    refine xZ.adv (me := xm85) hP_85 2 (pc' := 59) (lv' := [(0, .ref v0), (1, .ref v1)]) (st' := []) rfl ?_
    exact (k_f_Rule_writeUnit_59 O f d v0 v1 M1)
  · skip
    refine xZ.adv (me := xm85) hP_85 1 (pc' := 19) (lv' := [(0, .ref v0), (1, .ref v1)]) (st' := [.ref v0]) rfl ?_
    refine xZ.k_gI (me := xm85) hP_85 rfl (fun x3 => ?_)
    refine xZ.adv (me := xm85) hP_85 1 (pc' := 23) (lv' := [(0, .ref v0), (1, .ref v1)]) (st' := [.int (2 : Int32), .int x3]) rfl ?_
    refine xZ.ic_ne (me := xm85) hP_85 rfl (fun h2 => ?_) (fun h2 => ?_)
    · skip
      refine xZ.adv (me := xm85) hP_85 2 (pc' := 29) (lv' := [(0, .ref v0), (1, .ref v1)]) (st' := [.ref 1000000044, .ref v1]) rfl ?_
      refine xZ.callv (κ := oR) (av := [.ref 1000000044]) (rest := []) (st' := fun x4 => [.ref x4]) (k0 := v1) (me := xm85) hP_85 rfl (Or.inl rfl) ⟨rfl, by decide⟩ rfl rfl (Nat.le_of_ble_eq_true rfl) (by decide) hP_256 (Nat.le_of_ble_eq_true rfl) (fun _ => rfl) (k_f_StringBuilder_append_256 O f (d + 1) v1 1000000044 M) (fun x4 M2 => ?_)
      refine xZ.adv (me := xm85) hP_85 2 (pc' := 59) (lv' := [(0, .ref v0), (1, .ref v1)]) (st' := []) rfl ?_
      exact (k_f_Rule_writeUnit_59 O f d v0 v1 M2)
    · skip
      refine xZ.adv (me := xm85) hP_85 1 (pc' := 37) (lv' := [(0, .ref v0), (1, .ref v1)]) (st' := [.ref v0]) rfl ?_
      refine xZ.k_gI (me := xm85) hP_85 rfl (fun x5 => ?_)
      refine xZ.adv (me := xm85) hP_85 1 (pc' := 41) (lv' := [(0, .ref v0), (1, .ref v1)]) (st' := [.int (5 : Int32), .int x5]) rfl ?_
      refine xZ.ic_ne (me := xm85) hP_85 rfl (fun h3 => ?_) (fun h3 => ?_)
      · skip
        refine xZ.adv (me := xm85) hP_85 2 (pc' := 47) (lv' := [(0, .ref v0), (1, .ref v1)]) (st' := [.ref 1000000046, .ref v1]) rfl ?_
        refine xZ.callv (κ := oR) (av := [.ref 1000000046]) (rest := []) (st' := fun x6 => [.ref x6]) (k0 := v1) (me := xm85) hP_85 rfl (Or.inl rfl) ⟨rfl, by decide⟩ rfl rfl (Nat.le_of_ble_eq_true rfl) (by decide) hP_256 (Nat.le_of_ble_eq_true rfl) (fun _ => rfl) (k_f_StringBuilder_append_256 O f (d + 1) v1 1000000046 M) (fun x6 M3 => ?_)
        refine xZ.adv (me := xm85) hP_85 2 (pc' := 59) (lv' := [(0, .ref v0), (1, .ref v1)]) (st' := []) rfl ?_
        exact (k_f_Rule_writeUnit_59 O f d v0 v1 M3)
      · skip
        refine xZ.adv (me := xm85) hP_85 2 (pc' := 56) (lv' := [(0, .ref v0), (1, .ref v1)]) (st' := [.ref v1, .ref v0]) rfl ?_
        refine xZ.callv (κ := oU) (av := [.ref v1]) (rest := []) (st' := fun _ => []) (k0 := v0) (me := xm85) hP_85 rfl (Or.inl rfl) ⟨rfl, by decide⟩ rfl rfl (Nat.le_of_ble_eq_true rfl) (by decide) hP_86 (Nat.le_of_ble_eq_true rfl) (fun _ => rfl) (k_f_Rule_writePlace O f (d + 0) v0 v1 M) (fun _ M4 => ?_)
        exact (k_f_Rule_writeUnit_59 O f d v0 v1 M4)
def f_Rule_writeTo_77 (O : Nat → Option va_E) (f : Nat) (v0 : Nat) (v1 : Nat) (s0 : Nat) (s1 : Nat) (M : xM) : Option (Unit × xM) :=
  (isO O M s0 1).bind fun _ =>
  xcl (f_StringBuilder_append_256 O f s0 s1 M) fun x1 M1 =>
  (gI O M1 v0 9 6).bind fun x2 =>
  (isO O M1 v1 1).bind fun _ =>
  xcl (f_StringBuilder_append_285 O f v1 x2 M1) fun x3 M2 =>
  some ((), M2)
set_option maxRecDepth 20000 in
theorem k_f_Rule_writeTo_77 (O : Nat → Option va_E) (f d : Nat) (v0 : Nat) (v1 : Nat) (s0 : Nat) (s1 : Nat) (M : xM) : xZ oU O (d + 9) 84 77 [(0, .ref v0), (1, .ref v1)] [.ref s1, .ref s0] M (f_Rule_writeTo_77 O f v0 v1 s0 s1 M) := by
  unfold f_Rule_writeTo_77
  refine xZ.callv (κ := oR) (av := [.ref s1]) (rest := []) (st' := fun x1 => [.ref x1]) (k0 := s0) (me := xm84) hP_84 rfl (Or.inl rfl) ⟨rfl, by decide⟩ rfl rfl (Nat.le_of_ble_eq_true rfl) (by decide) hP_256 (Nat.le_of_ble_eq_true rfl) (fun _ => rfl) (k_f_StringBuilder_append_256 O f (d + 2) s0 s1 M) (fun x1 M1 => ?_)
  refine xZ.adv (me := xm84) hP_84 3 (pc' := 83) (lv' := [(0, .ref v0), (1, .ref v1)]) (st' := [.ref v0, .ref v1]) rfl ?_
  refine xZ.k_gI (me := xm84) hP_84 rfl (fun x2 => ?_)
  refine xZ.callv (κ := oR) (av := [.int x2]) (rest := []) (st' := fun x3 => [.ref x3]) (k0 := v1) (me := xm84) hP_84 rfl (Or.inl rfl) ⟨rfl, by decide⟩ rfl rfl (Nat.le_of_ble_eq_true rfl) (by decide) hP_285 (Nat.le_of_ble_eq_true rfl) (fun _ => rfl) (k_f_StringBuilder_append_285 O f (d + 3) v1 x2 M1) (fun x3 M2 => ?_)
  refine xZ.adv (me := xm84) hP_84 1 (pc' := 90) (lv' := [(0, .ref v0), (1, .ref v1)]) (st' := []) rfl ?_
  exact xZ.retu (me := xm84) hP_84 rfl rfl
def f_Rule_writeTo_53 (O : Nat → Option va_E) (f : Nat) (v0 : Nat) (v1 : Nat) (M : xM) : Option (Unit × xM) :=
  (gI O M v0 9 5).bind fun x1 =>
  if x1 = 0 then (
    some ((), M)
  ) else
  (gI O M v0 9 5).bind fun x2 =>
  if x2 = (1 : Int32) then (
    f_Rule_writeTo_77 O f v0 v1 v1 1000000054 M
  ) else
  f_Rule_writeTo_77 O f v0 v1 v1 1000000056 M
set_option maxRecDepth 20000 in
theorem k_f_Rule_writeTo_53 (O : Nat → Option va_E) (f d : Nat) (v0 : Nat) (v1 : Nat) (M : xM) : xZ oU O (d + 9) 84 53 [(0, .ref v0), (1, .ref v1)] [] M (f_Rule_writeTo_53 O f v0 v1 M) := by
  unfold f_Rule_writeTo_53
  refine xZ.adv (me := xm84) hP_84 1 (pc' := 54) (lv' := [(0, .ref v0), (1, .ref v1)]) (st' := [.ref v0]) rfl ?_
  refine xZ.k_gI (me := xm84) hP_84 rfl (fun x1 => ?_)
  refine xZ.if_ne (me := xm84) hP_84 rfl (fun h1 => ?_) (fun h1 => ?_)
  · skip
    exact xZ.retu (me := xm84) hP_84 rfl rfl
  · skip
    refine xZ.adv (me := xm84) hP_84 2 (pc' := 63) (lv' := [(0, .ref v0), (1, .ref v1)]) (st' := [.ref v0, .ref v1]) rfl ?_
    refine xZ.k_gI (me := xm84) hP_84 rfl (fun x2 => ?_)
    refine xZ.adv (me := xm84) hP_84 1 (pc' := 67) (lv' := [(0, .ref v0), (1, .ref v1)]) (st' := [.int (1 : Int32), .int x2, .ref v1]) rfl ?_
    refine xZ.ic_ne (me := xm84) hP_84 rfl (fun h2 => ?_) (fun h2 => ?_)
    · skip
      refine xZ.adv (me := xm84) hP_84 2 (pc' := 77) (lv' := [(0, .ref v0), (1, .ref v1)]) (st' := [.ref 1000000054, .ref v1]) rfl ?_
      exact (k_f_Rule_writeTo_77 O f d v0 v1 v1 1000000054 M)
    · skip
      refine xZ.adv (me := xm84) hP_84 1 (pc' := 77) (lv' := [(0, .ref v0), (1, .ref v1)]) (st' := [.ref 1000000056, .ref v1]) rfl ?_
      exact (k_f_Rule_writeTo_77 O f d v0 v1 v1 1000000056 M)
def f_Rule_writeTo_48 (O : Nat → Option va_E) (f : Nat) (v0 : Nat) (v1 : Nat) (M : xM) : Option (Unit × xM) :=
  (isO O M v0 9).bind fun _ =>
  xcl (f_Rule_writeUnit O f v0 v1 M) fun _ M1 =>
  f_Rule_writeTo_53 O f v0 v1 M1
set_option maxRecDepth 20000 in
theorem k_f_Rule_writeTo_48 (O : Nat → Option va_E) (f d : Nat) (v0 : Nat) (v1 : Nat) (M : xM) : xZ oU O (d + 9) 84 48 [(0, .ref v0), (1, .ref v1)] [] M (f_Rule_writeTo_48 O f v0 v1 M) := by
  unfold f_Rule_writeTo_48
  refine xZ.adv (me := xm84) hP_84 2 (pc' := 50) (lv' := [(0, .ref v0), (1, .ref v1)]) (st' := [.ref v1, .ref v0]) rfl ?_
  refine xZ.callv (κ := oU) (av := [.ref v1]) (rest := []) (st' := fun _ => []) (k0 := v0) (me := xm84) hP_84 rfl (Or.inl rfl) ⟨rfl, by decide⟩ rfl rfl (Nat.le_of_ble_eq_true rfl) (by decide) hP_85 (Nat.le_of_ble_eq_true rfl) (fun _ => rfl) (k_f_Rule_writeUnit O f (d + 0) v0 v1 M) (fun _ M1 => ?_)
  exact (k_f_Rule_writeTo_53 O f d v0 v1 M1)
def f_Rule_writeTo (O : Nat → Option va_E) (f : Nat) (v0 : Nat) (v1 : Nat) (M : xM) : Option (Unit × xM) :=
  (gI O M v0 9 1).bind fun x1 =>
  if x1 = 0 then (
    (isO O M v1 1).bind fun _ =>
    xcl (f_StringBuilder_append_256 O f v1 1000000040 M) fun x2 M1 =>
    f_Rule_writeTo_53 O f v0 v1 M1
  ) else
  (isO O M v1 1).bind fun _ =>
  xcl (f_StringBuilder_append_256 O f v1 1000000038 M) fun x3 M2 =>
  (gI O M2 v0 9 2).bind fun x4 =>
  if x4 = (1 : Int32) then (
    f_Rule_writeTo_48 O f v0 v1 M2
  ) else
  (gI O M2 v0 9 2).bind fun x5 =>
  (isO O M2 v1 1).bind fun _ =>
  xcl (f_StringBuilder_append_285 O f v1 x5 M2) fun x6 M3 =>
  (isO O M3 v1 1).bind fun _ =>
  xcl (f_StringBuilder_append_299 O f v1 (32 : Int32) M3) fun x7 M4 =>
  f_Rule_writeTo_48 O f v0 v1 M4
set_option maxRecDepth 20000 in
theorem k_f_Rule_writeTo (O : Nat → Option va_E) (f d : Nat) (v0 : Nat) (v1 : Nat) (M : xM) : xZ oU O (d + 9) 84 0 [(0, .ref v0), (1, .ref v1)] [] M (f_Rule_writeTo O f v0 v1 M) := by
  unfold f_Rule_writeTo
  refine xZ.adv (me := xm84) hP_84 1 (pc' := 1) (lv' := [(0, .ref v0), (1, .ref v1)]) (st' := [.ref v0]) rfl ?_
  refine xZ.k_gI (me := xm84) hP_84 rfl (fun x1 => ?_)
  refine xZ.if_ne (me := xm84) hP_84 rfl (fun h1 => ?_) (fun h1 => ?_)
  · skip
    refine xZ.adv (me := xm84) hP_84 2 (pc' := 10) (lv' := [(0, .ref v0), (1, .ref v1)]) (st' := [.ref 1000000040, .ref v1]) rfl ?_
    refine xZ.callv (κ := oR) (av := [.ref 1000000040]) (rest := []) (st' := fun x2 => [.ref x2]) (k0 := v1) (me := xm84) hP_84 rfl (Or.inl rfl) ⟨rfl, by decide⟩ rfl rfl (Nat.le_of_ble_eq_true rfl) (by decide) hP_256 (Nat.le_of_ble_eq_true rfl) (fun _ => rfl) (k_f_StringBuilder_append_256 O f (d + 2) v1 1000000040 M) (fun x2 M1 => ?_)
    refine xZ.adv (me := xm84) hP_84 2 (pc' := 53) (lv' := [(0, .ref v0), (1, .ref v1)]) (st' := []) rfl ?_
    exact (k_f_Rule_writeTo_53 O f d v0 v1 M1)
  · skip
    refine xZ.adv (me := xm84) hP_84 2 (pc' := 20) (lv' := [(0, .ref v0), (1, .ref v1)]) (st' := [.ref 1000000038, .ref v1]) rfl ?_
    refine xZ.callv (κ := oR) (av := [.ref 1000000038]) (rest := []) (st' := fun x3 => [.ref x3]) (k0 := v1) (me := xm84) hP_84 rfl (Or.inl rfl) ⟨rfl, by decide⟩ rfl rfl (Nat.le_of_ble_eq_true rfl) (by decide) hP_256 (Nat.le_of_ble_eq_true rfl) (fun _ => rfl) (k_f_StringBuilder_append_256 O f (d + 2) v1 1000000038 M) (fun x3 M2 => ?_)
    refine xZ.adv (me := xm84) hP_84 2 (pc' := 25) (lv' := [(0, .ref v0), (1, .ref v1)]) (st' := [.ref v0]) rfl ?_
    refine xZ.k_gI (me := xm84) hP_84 rfl (fun x4 => ?_)
    refine xZ.adv (me := xm84) hP_84 1 (pc' := 29) (lv' := [(0, .ref v0), (1, .ref v1)]) (st' := [.int (1 : Int32), .int x4]) rfl ?_
    refine xZ.ic_eq (me := xm84) hP_84 rfl (fun h2 => ?_) (fun h2 => ?_)
    · skip
      exact (k_f_Rule_writeTo_48 O f d v0 v1 M2)
    · skip
      refine xZ.adv (me := xm84) hP_84 2 (pc' := 34) (lv' := [(0, .ref v0), (1, .ref v1)]) (st' := [.ref v0, .ref v1]) rfl ?_
      refine xZ.k_gI (me := xm84) hP_84 rfl (fun x5 => ?_)
      refine xZ.callv (κ := oR) (av := [.int x5]) (rest := []) (st' := fun x6 => [.ref x6]) (k0 := v1) (me := xm84) hP_84 rfl (Or.inl rfl) ⟨rfl, by decide⟩ rfl rfl (Nat.le_of_ble_eq_true rfl) (by decide) hP_285 (Nat.le_of_ble_eq_true rfl) (fun _ => rfl) (k_f_StringBuilder_append_285 O f (d + 3) v1 x5 M2) (fun x6 M3 => ?_)
      refine xZ.adv (me := xm84) hP_84 3 (pc' := 44) (lv' := [(0, .ref v0), (1, .ref v1)]) (st' := [.int (32 : Int32), .ref v1]) rfl ?_
      refine xZ.callv (κ := oR) (av := [.int (32 : Int32)]) (rest := []) (st' := fun x7 => [.ref x7]) (k0 := v1) (me := xm84) hP_84 rfl (Or.inl rfl) ⟨rfl, by decide⟩ rfl rfl (Nat.le_of_ble_eq_true rfl) (by decide) hP_299 (Nat.le_of_ble_eq_true rfl) (fun _ => rfl) (k_f_StringBuilder_append_299 O f (d + 3) v1 (32 : Int32) M3) (fun x7 M4 => ?_)
      refine xZ.adv (me := xm84) hP_84 1 (pc' := 48) (lv' := [(0, .ref v0), (1, .ref v1)]) (st' := []) rfl ?_
      exact (k_f_Rule_writeTo_48 O f d v0 v1 M4)
def f_Arrays_rangeCheck (O : Nat → Option va_E) (f : Nat) (v0 : Int32) (v1 : Int32) (v2 : Int32) (M : xM) : Option (Unit × xM) :=
  if v1 ≤ v2 then (
    if 0 ≤ v1 then (
      if v2 ≤ v0 then (
        some ((), M)
      ) else
      none
    ) else
    none
  ) else
  none
set_option maxRecDepth 20000 in
theorem k_f_Arrays_rangeCheck (O : Nat → Option va_E) (f d : Nat) (v0 : Int32) (v1 : Int32) (v2 : Int32) (M : xM) : xZ oU O (d + 0) 298 0 [(0, .int v0), (1, .int v1), (2, .int v2)] [] M (f_Arrays_rangeCheck O f v0 v1 v2 M) := by
  unfold f_Arrays_rangeCheck
  refine xZ.adv (me := xm298) hP_298 2 (pc' := 2) (lv' := [(0, .int v0), (1, .int v1), (2, .int v2)]) (st' := [.int v2, .int v1]) rfl ?_
  refine xZ.ic_le (me := xm298) hP_298 rfl (fun h1 => ?_) (fun h1 => ?_)
  · skip
    refine xZ.adv (me := xm298) hP_298 1 (pc' := 47) (lv' := [(0, .int v0), (1, .int v1), (2, .int v2)]) (st' := [.int v1]) rfl ?_
    refine xZ.if_ge (me := xm298) hP_298 rfl (fun h2 => ?_) (fun h2 => ?_)
    · skip
      refine xZ.adv (me := xm298) hP_298 2 (pc' := 61) (lv' := [(0, .int v0), (1, .int v1), (2, .int v2)]) (st' := [.int v0, .int v2]) rfl ?_
      refine xZ.ic_le (me := xm298) hP_298 rfl (fun h3 => ?_) (fun h3 => ?_)
      · skip
        exact xZ.retu (me := xm298) hP_298 rfl rfl
      · skip
        exact xZ.no
    · skip
      exact xZ.no
  · skip
    exact xZ.no
def f_Arrays_fill_10 (O : Nat → Option va_E) (f : Nat) : Nat → Nat → Int32 → Int32 → Int32 → xM → Option (Unit × xM)
  | 0, _, _, _, _, _ => none
  | n + 1, v0, v2, v3, v4, M =>
    if v2 ≤ v4 then (
      some ((), M)
    ) else
    (wB M v0 v4 v3).bind fun M1 =>
    f_Arrays_fill_10 O f n v0 v2 v3 (v4 + (1 : Int32)) M1
set_option maxRecDepth 20000 in
theorem k_f_Arrays_fill_10 (O : Nat → Option va_E) (f d : Nat) : ∀ (n : Nat) (v0 : Nat) (v2 : Int32) (v3 : Int32) (v4 : Int32) (M : xM), xZ oU O (d + 1) 297 10 [(0, .ref v0), (2, .int v2), (3, .int v3), (4, .int v4)] [] M (f_Arrays_fill_10 O f n v0 v2 v3 v4 M) := by
  intro n
  induction n with
  | zero =>
    intro v0 v2 v3 v4 M
    exact xZ.no
  | succ n ih =>
    intro v0 v2 v3 v4 M
    unfold f_Arrays_fill_10
    refine xZ.adv (me := xm297) hP_297 2 (pc' := 13) (lv' := [(0, .ref v0), (2, .int v2), (3, .int v3), (4, .int v4)]) (st' := [.int v2, .int v4]) rfl ?_
    refine xZ.ic_ge (me := xm297) hP_297 rfl (fun h1 => ?_) (fun h1 => ?_)
    · skip
      exact xZ.retu (me := xm297) hP_297 rfl rfl
    · skip
      refine xZ.adv (me := xm297) hP_297 3 (pc' := 20) (lv' := [(0, .ref v0), (2, .int v2), (3, .int v3), (4, .int v4)]) (st' := [.int v3, .int v4, .ref v0]) rfl ?_
      refine xZ.k_wB (me := xm297) hP_297 rfl (fun M1 => ?_)
      refine xZ.adv (me := xm297) hP_297 2 (pc' := 10) (lv' := [(4, .int (v4 + (1 : Int32))), (0, .ref v0), (2, .int v2), (3, .int v3)]) (st' := []) rfl ?_
      exact xZ.sub (xsc (.tail _ (.head _)) (xsc (.tail _ (.tail _ (.head _))) (xsc (.tail _ (.tail _ (.tail _ (.head _)))) (xsc (.head _) xsn)))) (show ([4, 0, 2, 3] : List Nat).Nodup from by decide) (ih v0 v2 v3 (v4 + (1 : Int32)) M1)
def f_Arrays_fill (O : Nat → Option va_E) (f : Nat) (v0 : Nat) (v1 : Int32) (v2 : Int32) (v3 : Int32) (M : xM) : Option (Unit × xM) :=
  (aN O M v0).bind fun x1 =>
  xcl (f_Arrays_rangeCheck O f x1 v1 v2 M) fun _ M1 =>
  f_Arrays_fill_10 O f f v0 v2 v3 v1 M1
set_option maxRecDepth 20000 in
theorem k_f_Arrays_fill (O : Nat → Option va_E) (f d : Nat) (v0 : Nat) (v1 : Int32) (v2 : Int32) (v3 : Int32) (M : xM) : xZ oU O (d + 1) 297 0 [(0, .ref v0), (1, .int v1), (2, .int v2), (3, .int v3)] [] M (f_Arrays_fill O f v0 v1 v2 v3 M) := by
  unfold f_Arrays_fill
  refine xZ.adv (me := xm297) hP_297 1 (pc' := 1) (lv' := [(0, .ref v0), (1, .int v1), (2, .int v2), (3, .int v3)]) (st' := [.ref v0]) rfl ?_
  refine xZ.k_aN (me := xm297) hP_297 rfl (fun x1 => ?_)
  refine xZ.adv (me := xm297) hP_297 2 (pc' := 4) (lv' := [(0, .ref v0), (1, .int v1), (2, .int v2), (3, .int v3)]) (st' := [.int v2, .int v1, .int x1]) rfl ?_
  refine xZ.calls (κ := oU) (av := [.int x1, .int v1, .int v2]) (rest := []) (st' := fun _ => []) (me := xm297) hP_297 rfl rfl rfl (Nat.le_of_ble_eq_true rfl) (by decide) hP_298 (Nat.le_of_ble_eq_true rfl) (fun _ => rfl) (k_f_Arrays_rangeCheck O f (d + 0) x1 v1 v2 M) (fun _ M1 => ?_)
  refine xZ.adv (me := xm297) hP_297 2 (pc' := 10) (lv' := [(4, .int v1), (0, .ref v0), (1, .int v1), (2, .int v2), (3, .int v3)]) (st' := []) rfl ?_
  exact xZ.sub (xsc (.tail _ (.head _)) (xsc (.tail _ (.tail _ (.tail _ (.head _)))) (xsc (.tail _ (.tail _ (.tail _ (.tail _ (.head _))))) (xsc (.head _) xsn)))) (show ([4, 0, 1, 2, 3] : List Nat).Nodup from by decide) (k_f_Arrays_fill_10 O f d f v0 v2 v3 v1 M1)
def f_StringLatin1_fillNull (O : Nat → Option va_E) (f : Nat) (v0 : Nat) (v1 : Int32) (v2 : Int32) (M : xM) : Option (Unit × xM) :=
  xcl (f_Arrays_fill O f v0 v1 v2 (0 : Int32) M) fun _ M1 =>
  some ((), M1)
set_option maxRecDepth 20000 in
theorem k_f_StringLatin1_fillNull (O : Nat → Option va_E) (f d : Nat) (v0 : Nat) (v1 : Int32) (v2 : Int32) (M : xM) : xZ oU O (d + 2) 296 0 [(0, .ref v0), (1, .int v1), (2, .int v2)] [] M (f_StringLatin1_fillNull O f v0 v1 v2 M) := by
  unfold f_StringLatin1_fillNull
  refine xZ.adv (me := xm296) hP_296 4 (pc' := 4) (lv' := [(0, .ref v0), (1, .int v1), (2, .int v2)]) (st' := [.int (0 : Int32), .int v2, .int v1, .ref v0]) rfl ?_
  refine xZ.calls (κ := oU) (av := [.ref v0, .int v1, .int v2, .int (0 : Int32)]) (rest := []) (st' := fun _ => []) (me := xm296) hP_296 rfl rfl rfl (Nat.le_of_ble_eq_true rfl) (by decide) hP_297 (Nat.le_of_ble_eq_true rfl) (fun _ => rfl) (k_f_Arrays_fill O f (d + 0) v0 v1 v2 (0 : Int32) M) (fun _ M1 => ?_)
  exact xZ.retu (me := xm296) hP_296 rfl rfl
def f_AbstractStringBuilder_setLength_76 (O : Nat → Option va_E) (f : Nat) (v0 : Nat) (v1 : Int32) (M : xM) : Option (Unit × xM) :=
  (pI M v0 1 3 v1).bind fun M1 =>
  some ((), M1)
set_option maxRecDepth 20000 in
theorem k_f_AbstractStringBuilder_setLength_76 (O : Nat → Option va_E) (f d : Nat) (v0 : Nat) (v1 : Int32) (M : xM) : xZ oU O (d + 4) 295 76 [(0, .ref v0), (1, .int v1)] [] M (f_AbstractStringBuilder_setLength_76 O f v0 v1 M) := by
  unfold f_AbstractStringBuilder_setLength_76
  refine xZ.adv (me := xm295) hP_295 2 (pc' := 78) (lv' := [(0, .ref v0), (1, .int v1)]) (st' := [.int v1, .ref v0]) rfl ?_
  refine xZ.k_pI (me := xm295) hP_295 rfl (fun M1 => ?_)
  exact xZ.retu (me := xm295) hP_295 rfl rfl
def f_AbstractStringBuilder_setLength (O : Nat → Option va_E) (f : Nat) (v0 : Nat) (v1 : Int32) (M : xM) : Option (Unit × xM) :=
  if 0 ≤ v1 then (
    (isO O M v0 1).bind fun _ =>
    xcl (f_AbstractStringBuilder_ensureCapacityInternal O f v0 v1 M) fun _ M1 =>
    (gI O M1 v0 1 3).bind fun x2 =>
    if v1 ≤ x2 then (
      (gI O M1 v0 1 3).bind fun x3 =>
      if x3 ≤ v1 then (
        f_AbstractStringBuilder_setLength_76 O f v0 v1 M1
      ) else
      (pI M1 v0 1 2 (1 : Int32)).bind fun M2 =>
      f_AbstractStringBuilder_setLength_76 O f v0 v1 M2
    ) else
    (isO O M1 v0 1).bind fun _ =>
    xcl (f_AbstractStringBuilder_isLatin1 O f v0 M1) fun x4 M3 =>
    if x4 = 0 then (
      (gR O M3 v0 1 0).bind fun x5 =>
      (gI O M3 v0 1 3).bind fun x6 =>
      none
    ) else
    (gR O M3 v0 1 0).bind fun x7 =>
    (gI O M3 v0 1 3).bind fun x8 =>
    xcl (f_StringLatin1_fillNull O f x7 x8 v1 M3) fun _ M4 =>
    f_AbstractStringBuilder_setLength_76 O f v0 v1 M4
  ) else
  none
set_option maxRecDepth 20000 in
theorem k_f_AbstractStringBuilder_setLength (O : Nat → Option va_E) (f d : Nat) (v0 : Nat) (v1 : Int32) (M : xM) : xZ oU O (d + 4) 295 0 [(0, .ref v0), (1, .int v1)] [] M (f_AbstractStringBuilder_setLength O f v0 v1 M) := by
  unfold f_AbstractStringBuilder_setLength
  refine xZ.adv (me := xm295) hP_295 1 (pc' := 1) (lv' := [(0, .ref v0), (1, .int v1)]) (st' := [.int v1]) rfl ?_
  refine xZ.if_ge (me := xm295) hP_295 rfl (fun h1 => ?_) (fun h1 => ?_)
  · skip
    refine xZ.adv (me := xm295) hP_295 2 (pc' := 15) (lv' := [(0, .ref v0), (1, .int v1)]) (st' := [.int v1, .ref v0]) rfl ?_
    refine xZ.callv (κ := oU) (av := [.int v1]) (rest := []) (st' := fun _ => []) (k0 := v0) (me := xm295) hP_295 rfl (Or.inr (Or.inl rfl)) ⟨rfl, by decide⟩ rfl rfl (Nat.le_of_ble_eq_true rfl) (by decide) hP_259 (Nat.le_of_ble_eq_true rfl) (fun _ => rfl) (k_f_AbstractStringBuilder_ensureCapacityInternal O f (d + 0) v0 v1 M) (fun _ M1 => ?_)
    refine xZ.adv (me := xm295) hP_295 1 (pc' := 19) (lv' := [(0, .ref v0), (1, .int v1)]) (st' := [.ref v0]) rfl ?_
    refine xZ.k_gI (me := xm295) hP_295 rfl (fun x2 => ?_)
    refine xZ.adv (me := xm295) hP_295 1 (pc' := 23) (lv' := [(0, .ref v0), (1, .int v1)]) (st' := [.int v1, .int x2]) rfl ?_
    refine xZ.ic_ge (me := xm295) hP_295 rfl (fun h2 => ?_) (fun h2 => ?_)
    · skip
      refine xZ.adv (me := xm295) hP_295 1 (pc' := 64) (lv' := [(0, .ref v0), (1, .int v1)]) (st' := [.ref v0]) rfl ?_
      refine xZ.k_gI (me := xm295) hP_295 rfl (fun x3 => ?_)
      refine xZ.adv (me := xm295) hP_295 1 (pc' := 68) (lv' := [(0, .ref v0), (1, .int v1)]) (st' := [.int v1, .int x3]) rfl ?_
      refine xZ.ic_le (me := xm295) hP_295 rfl (fun h3 => ?_) (fun h3 => ?_)
      · skip
        exact (k_f_AbstractStringBuilder_setLength_76 O f d v0 v1 M1)
      · skip
        refine xZ.adv (me := xm295) hP_295 2 (pc' := 73) (lv' := [(0, .ref v0), (1, .int v1)]) (st' := [.int (1 : Int32), .ref v0]) rfl ?_
        refine xZ.k_pI (me := xm295) hP_295 rfl (fun M2 => ?_)
        exact (k_f_AbstractStringBuilder_setLength_76 O f d v0 v1 M2)
    · skip
      refine xZ.adv (me := xm295) hP_295 1 (pc' := 27) (lv' := [(0, .ref v0), (1, .int v1)]) (st' := [.ref v0]) rfl ?_
      refine xZ.callv (κ := oI) (av := []) (rest := []) (st' := fun x4 => [.int x4]) (k0 := v0) (me := xm295) hP_295 rfl (Or.inr (Or.inl rfl)) ⟨rfl, by decide⟩ rfl rfl (Nat.le_of_ble_eq_true rfl) (by decide) hP_264 (Nat.le_of_ble_eq_true rfl) (fun _ => rfl) (k_f_AbstractStringBuilder_isLatin1 O f (d + 3) v0 M1) (fun x4 M3 => ?_)
      refine xZ.if_eq (me := xm295) hP_295 rfl (fun h4 => ?_) (fun h4 => ?_)
      · skip
        refine xZ.adv (me := xm295) hP_295 1 (pc' := 49) (lv' := [(0, .ref v0), (1, .int v1)]) (st' := [.ref v0]) rfl ?_
        refine xZ.k_gR (me := xm295) hP_295 rfl (fun x5 => ?_)
        refine xZ.adv (me := xm295) hP_295 1 (pc' := 53) (lv' := [(0, .ref v0), (1, .int v1)]) (st' := [.ref v0, .ref x5]) rfl ?_
        refine xZ.k_gI (me := xm295) hP_295 rfl (fun x6 => ?_)
        refine xZ.adv (me := xm295) hP_295 1 (pc' := 57) (lv' := [(0, .ref v0), (1, .int v1)]) (st' := [.int v1, .int x6, .ref x5]) rfl ?_
        exact xZ.no
      · skip
        refine xZ.adv (me := xm295) hP_295 1 (pc' := 34) (lv' := [(0, .ref v0), (1, .int v1)]) (st' := [.ref v0]) rfl ?_
        refine xZ.k_gR (me := xm295) hP_295 rfl (fun x7 => ?_)
        refine xZ.adv (me := xm295) hP_295 1 (pc' := 38) (lv' := [(0, .ref v0), (1, .int v1)]) (st' := [.ref v0, .ref x7]) rfl ?_
        refine xZ.k_gI (me := xm295) hP_295 rfl (fun x8 => ?_)
        refine xZ.adv (me := xm295) hP_295 1 (pc' := 42) (lv' := [(0, .ref v0), (1, .int v1)]) (st' := [.int v1, .int x8, .ref x7]) rfl ?_
        refine xZ.calls (κ := oU) (av := [.ref x7, .int x8, .int v1]) (rest := []) (st' := fun _ => []) (me := xm295) hP_295 rfl rfl rfl (Nat.le_of_ble_eq_true rfl) (by decide) hP_296 (Nat.le_of_ble_eq_true rfl) (fun _ => rfl) (k_f_StringLatin1_fillNull O f (d + 1) x7 x8 v1 M3) (fun _ M4 => ?_)
        refine xZ.adv (me := xm295) hP_295 1 (pc' := 76) (lv' := [(0, .ref v0), (1, .int v1)]) (st' := []) rfl ?_
        exact (k_f_AbstractStringBuilder_setLength_76 O f d v0 v1 M4)
  · skip
    exact xZ.no
def f_StringBuilder_setLength (O : Nat → Option va_E) (f : Nat) (v0 : Nat) (v1 : Int32) (M : xM) : Option (Unit × xM) :=
  (isO O M v0 1).bind fun _ =>
  xcl (f_AbstractStringBuilder_setLength O f v0 v1 M) fun _ M1 =>
  some ((), M1)
set_option maxRecDepth 20000 in
theorem k_f_StringBuilder_setLength (O : Nat → Option va_E) (f d : Nat) (v0 : Nat) (v1 : Int32) (M : xM) : xZ oU O (d + 5) 294 0 [(0, .ref v0), (1, .int v1)] [] M (f_StringBuilder_setLength O f v0 v1 M) := by
  unfold f_StringBuilder_setLength
  refine xZ.adv (me := xm294) hP_294 2 (pc' := 2) (lv' := [(0, .ref v0), (1, .int v1)]) (st' := [.int v1, .ref v0]) rfl ?_
  refine xZ.callu (κ := oU) (av := [.int v1]) (rest := []) (st' := fun _ => []) (k0 := v0) (me := xm294) hP_294 rfl ⟨rfl, by decide⟩ rfl rfl (Nat.le_of_ble_eq_true rfl) (by decide) hP_295 (Nat.le_of_ble_eq_true rfl) (fun _ => rfl) (k_f_AbstractStringBuilder_setLength O f (d + 0) v0 v1 M) (fun _ M1 => ?_)
  exact xZ.retu (me := xm294) hP_294 rfl rfl
def f_Calendarhall_write (O : Nat → Option va_E) (f : Nat) (v0 : Nat) (v1 : Int32) (M : xM) : Option (Int32 × xM) :=
  (isO O M v0 12).bind fun _ =>
  xcl (f_Calendarhall_seriesNumbered O f v0 v1 M) fun x1 M1 =>
  (gR O M1 v0 12 8).bind fun x2 =>
  (isO O M1 x2 1).bind fun _ =>
  xcl (f_StringBuilder_setLength O f x2 (0 : Int32) M1) fun _ M2 =>
  (gR O M2 x1 10 6).bind fun x4 =>
  (gR O M2 v0 12 8).bind fun x5 =>
  (isO O M2 x4 9).bind fun _ =>
  xcl (f_Rule_writeTo O f x4 x5 M2) fun _ M3 =>
  (gR O M3 v0 12 8).bind fun x7 =>
  (isO O M3 x7 1).bind fun _ =>
  xcl (f_StringBuilder_length O f x7 M3) fun x8 M4 =>
  some (x8, M4)
set_option maxRecDepth 20000 in
theorem k_f_Calendarhall_write (O : Nat → Option va_E) (f d : Nat) (v0 : Nat) (v1 : Int32) (M : xM) : xZ oI O (d + 10) 83 0 [(0, .ref v0), (1, .int v1)] [] M (f_Calendarhall_write O f v0 v1 M) := by
  unfold f_Calendarhall_write
  refine xZ.adv (me := xm83) hP_83 2 (pc' := 2) (lv' := [(0, .ref v0), (1, .int v1)]) (st' := [.int v1, .ref v0]) rfl ?_
  refine xZ.callv (κ := oR) (av := [.int v1]) (rest := []) (st' := fun x1 => [.ref x1]) (k0 := v0) (me := xm83) hP_83 rfl (Or.inl rfl) ⟨rfl, by decide⟩ rfl rfl (Nat.le_of_ble_eq_true rfl) (by decide) hP_79 (Nat.le_of_ble_eq_true rfl) (fun _ => rfl) (k_f_Calendarhall_seriesNumbered O f (d + 8) v0 v1 M) (fun x1 M1 => ?_)
  refine xZ.adv (me := xm83) hP_83 2 (pc' := 7) (lv' := [(2, .ref x1), (0, .ref v0), (1, .int v1)]) (st' := [.ref v0]) rfl ?_
  refine xZ.k_gR (me := xm83) hP_83 rfl (fun x2 => ?_)
  refine xZ.adv (me := xm83) hP_83 1 (pc' := 11) (lv' := [(2, .ref x1), (0, .ref v0), (1, .int v1)]) (st' := [.int (0 : Int32), .ref x2]) rfl ?_
  refine xZ.callv (κ := oU) (av := [.int (0 : Int32)]) (rest := []) (st' := fun _ => []) (k0 := x2) (me := xm83) hP_83 rfl (Or.inl rfl) ⟨rfl, by decide⟩ rfl rfl (Nat.le_of_ble_eq_true rfl) (by decide) hP_294 (Nat.le_of_ble_eq_true rfl) (fun _ => rfl) (k_f_StringBuilder_setLength O f (d + 4) x2 (0 : Int32) M1) (fun _ M2 => ?_)
  refine xZ.adv (me := xm83) hP_83 1 (pc' := 15) (lv' := [(2, .ref x1), (0, .ref v0), (1, .int v1)]) (st' := [.ref x1]) rfl ?_
  refine xZ.k_gR (me := xm83) hP_83 rfl (fun x4 => ?_)
  refine xZ.adv (me := xm83) hP_83 1 (pc' := 19) (lv' := [(2, .ref x1), (0, .ref v0), (1, .int v1)]) (st' := [.ref v0, .ref x4]) rfl ?_
  refine xZ.k_gR (me := xm83) hP_83 rfl (fun x5 => ?_)
  refine xZ.callv (κ := oU) (av := [.ref x5]) (rest := []) (st' := fun _ => []) (k0 := x4) (me := xm83) hP_83 rfl (Or.inl rfl) ⟨rfl, by decide⟩ rfl rfl (Nat.le_of_ble_eq_true rfl) (by decide) hP_84 (Nat.le_of_ble_eq_true rfl) (fun _ => rfl) (k_f_Rule_writeTo O f (d + 0) x4 x5 M2) (fun _ M3 => ?_)
  refine xZ.adv (me := xm83) hP_83 1 (pc' := 26) (lv' := [(2, .ref x1), (0, .ref v0), (1, .int v1)]) (st' := [.ref v0]) rfl ?_
  refine xZ.k_gR (me := xm83) hP_83 rfl (fun x7 => ?_)
  refine xZ.callv (κ := oI) (av := []) (rest := []) (st' := fun x8 => [.int x8]) (k0 := x7) (me := xm83) hP_83 rfl (Or.inl rfl) ⟨rfl, by decide⟩ rfl rfl (Nat.le_of_ble_eq_true rfl) (by decide) hP_280 (Nat.le_of_ble_eq_true rfl) (fun _ => rfl) (k_f_StringBuilder_length O f (d + 8) x7 M3) (fun x8 M4 => ?_)
  exact xZ.reti (me := xm83) hP_83 rfl rfl
def f_AbstractStringBuilder_charAt (O : Nat → Option va_E) (f : Nat) (v0 : Nat) (v1 : Int32) (M : xM) : Option (Int32 × xM) :=
  (gI O M v0 1 1).bind fun x1 =>
  (gR O M v0 1 0).bind fun x2 =>
  (gI O M v0 1 3).bind fun x3 =>
  (aN O M x2).bind fun x4 =>
  xcl (f_Math_min O f x3 (x4 >>> (x1 &&& 31)) M) fun x5 M1 =>
  xcl (f_String_checkIndex O f v1 x5 M1) fun _ M2 =>
  if x1 = 0 then (
    (aB O M2 x2 v1).bind fun x7 =>
    if xfit .char (.int ((Int32.toUInt32 (x7 &&& (255 : Int32)) % 65536).toInt32)) = true then some ((Int32.toUInt32 (x7 &&& (255 : Int32)) % 65536).toInt32, M2) else none
  ) else
  none
set_option maxRecDepth 20000 in
theorem k_f_AbstractStringBuilder_charAt (O : Nat → Option va_E) (f d : Nat) (v0 : Nat) (v1 : Int32) (M : xM) : xZ oI O (d + 2) 303 0 [(0, .ref v0), (1, .int v1)] [] M (f_AbstractStringBuilder_charAt O f v0 v1 M) := by
  unfold f_AbstractStringBuilder_charAt
  refine xZ.adv (me := xm303) hP_303 1 (pc' := 1) (lv' := [(0, .ref v0), (1, .int v1)]) (st' := [.ref v0]) rfl ?_
  refine xZ.k_gI (me := xm303) hP_303 rfl (fun x1 => ?_)
  refine xZ.adv (me := xm303) hP_303 2 (pc' := 6) (lv' := [(2, .int x1), (0, .ref v0), (1, .int v1)]) (st' := [.ref v0]) rfl ?_
  refine xZ.k_gR (me := xm303) hP_303 rfl (fun x2 => ?_)
  refine xZ.adv (me := xm303) hP_303 2 (pc' := 11) (lv' := [(3, .ref x2), (2, .int x1), (0, .ref v0), (1, .int v1)]) (st' := [.ref v0]) rfl ?_
  refine xZ.k_gI (me := xm303) hP_303 rfl (fun x3 => ?_)
  refine xZ.adv (me := xm303) hP_303 1 (pc' := 15) (lv' := [(3, .ref x2), (2, .int x1), (0, .ref v0), (1, .int v1)]) (st' := [.ref x2, .int x3]) rfl ?_
  refine xZ.k_aN (me := xm303) hP_303 rfl (fun x4 => ?_)
  refine xZ.adv (me := xm303) hP_303 2 (pc' := 18) (lv' := [(3, .ref x2), (2, .int x1), (0, .ref v0), (1, .int v1)]) (st' := [.int (x4 >>> (x1 &&& 31)), .int x3]) rfl ?_
  refine xZ.calls (κ := oI) (av := [.int x3, .int (x4 >>> (x1 &&& 31))]) (rest := []) (st' := fun x5 => [.int x5]) (me := xm303) hP_303 rfl rfl rfl (Nat.le_of_ble_eq_true rfl) (by decide) hP_248 (Nat.le_of_ble_eq_true rfl) (fun _ => rfl) (k_f_Math_min O f (d + 1) x3 (x4 >>> (x1 &&& 31)) M) (fun x5 M1 => ?_)
  refine xZ.adv (me := xm303) hP_303 3 (pc' := 26) (lv' := [(4, .int x5), (3, .ref x2), (2, .int x1), (0, .ref v0), (1, .int v1)]) (st' := [.int x5, .int v1]) rfl ?_
  refine xZ.calls (κ := oU) (av := [.int v1, .int x5]) (rest := []) (st' := fun _ => []) (me := xm303) hP_303 rfl rfl rfl (Nat.le_of_ble_eq_true rfl) (by decide) hP_292 (Nat.le_of_ble_eq_true rfl) (fun _ => rfl) (k_f_String_checkIndex O f (d + 0) v1 x5 M1) (fun _ M2 => ?_)
  refine xZ.adv (me := xm303) hP_303 1 (pc' := 30) (lv' := [(4, .int x5), (3, .ref x2), (2, .int x1), (0, .ref v0), (1, .int v1)]) (st' := [.int x1]) rfl ?_
  refine xZ.if_ne (me := xm303) hP_303 rfl (fun h1 => ?_) (fun h1 => ?_)
  · skip
    refine xZ.adv (me := xm303) hP_303 2 (pc' := 35) (lv' := [(4, .int x5), (3, .ref x2), (2, .int x1), (0, .ref v0), (1, .int v1)]) (st' := [.int v1, .ref x2]) rfl ?_
    refine xZ.k_aB (me := xm303) hP_303 rfl (fun x7 => ?_)
    refine xZ.adv (me := xm303) hP_303 3 (pc' := 41) (lv' := [(4, .int x5), (3, .ref x2), (2, .int x1), (0, .ref v0), (1, .int v1)]) (st' := [.int ((Int32.toUInt32 (x7 &&& (255 : Int32)) % 65536).toInt32)]) rfl ?_
    exact xZ.retf (me := xm303) hP_303 rfl rfl
  · skip
    refine xZ.adv (me := xm303) hP_303 2 (pc' := 44) (lv' := [(4, .int x5), (3, .ref x2), (2, .int x1), (0, .ref v0), (1, .int v1)]) (st' := [.int v1, .ref x2]) rfl ?_
    exact xZ.no
def f_StringBuilder_charAt (O : Nat → Option va_E) (f : Nat) (v0 : Nat) (v1 : Int32) (M : xM) : Option (Int32 × xM) :=
  (isO O M v0 1).bind fun _ =>
  xcl (f_AbstractStringBuilder_charAt O f v0 v1 M) fun x1 M1 =>
  if xfit .char (.int x1) = true then some (x1, M1) else none
set_option maxRecDepth 20000 in
theorem k_f_StringBuilder_charAt (O : Nat → Option va_E) (f d : Nat) (v0 : Nat) (v1 : Int32) (M : xM) : xZ oI O (d + 3) 302 0 [(0, .ref v0), (1, .int v1)] [] M (f_StringBuilder_charAt O f v0 v1 M) := by
  unfold f_StringBuilder_charAt
  refine xZ.adv (me := xm302) hP_302 2 (pc' := 2) (lv' := [(0, .ref v0), (1, .int v1)]) (st' := [.int v1, .ref v0]) rfl ?_
  refine xZ.callu (κ := oI) (av := [.int v1]) (rest := []) (st' := fun x1 => [.int x1]) (k0 := v0) (me := xm302) hP_302 rfl ⟨rfl, by decide⟩ rfl rfl (Nat.le_of_ble_eq_true rfl) (by decide) hP_303 (Nat.le_of_ble_eq_true rfl) (fun _ => rfl) (k_f_AbstractStringBuilder_charAt O f (d + 0) v0 v1 M) (fun x1 M1 => ?_)
  exact xZ.retf (me := xm302) hP_302 rfl rfl
def f_Calendarhall_writtenAt (O : Nat → Option va_E) (f : Nat) (v0 : Nat) (v1 : Int32) (M : xM) : Option (Int32 × xM) :=
  if v1 < 0 then (
    none
  ) else
  (gR O M v0 12 8).bind fun x1 =>
  (isO O M x1 1).bind fun _ =>
  xcl (f_StringBuilder_length O f x1 M) fun x2 M1 =>
  if v1 < x2 then (
    (gR O M1 v0 12 8).bind fun x3 =>
    (isO O M1 x3 1).bind fun _ =>
    xcl (f_StringBuilder_charAt O f x3 v1 M1) fun x4 M2 =>
    some (x4, M2)
  ) else
  none
set_option maxRecDepth 20000 in
theorem k_f_Calendarhall_writtenAt (O : Nat → Option va_E) (f d : Nat) (v0 : Nat) (v1 : Int32) (M : xM) : xZ oI O (d + 4) 87 0 [(0, .ref v0), (1, .int v1)] [] M (f_Calendarhall_writtenAt O f v0 v1 M) := by
  unfold f_Calendarhall_writtenAt
  refine xZ.adv (me := xm87) hP_87 1 (pc' := 1) (lv' := [(0, .ref v0), (1, .int v1)]) (st' := [.int v1]) rfl ?_
  refine xZ.if_lt (me := xm87) hP_87 rfl (fun h1 => ?_) (fun h1 => ?_)
  · skip
    exact xZ.no
  · skip
    refine xZ.adv (me := xm87) hP_87 2 (pc' := 6) (lv' := [(0, .ref v0), (1, .int v1)]) (st' := [.ref v0, .int v1]) rfl ?_
    refine xZ.k_gR (me := xm87) hP_87 rfl (fun x1 => ?_)
    refine xZ.callv (κ := oI) (av := []) (rest := [.int v1]) (st' := fun x2 => [.int x2, .int v1]) (k0 := x1) (me := xm87) hP_87 rfl (Or.inl rfl) ⟨rfl, by decide⟩ rfl rfl (Nat.le_of_ble_eq_true rfl) (by decide) hP_280 (Nat.le_of_ble_eq_true rfl) (fun _ => rfl) (k_f_StringBuilder_length O f (d + 2) x1 M) (fun x2 M1 => ?_)
    refine xZ.ic_lt (me := xm87) hP_87 rfl (fun h2 => ?_) (fun h2 => ?_)
    · skip
      refine xZ.adv (me := xm87) hP_87 1 (pc' := 24) (lv' := [(0, .ref v0), (1, .int v1)]) (st' := [.ref v0]) rfl ?_
      refine xZ.k_gR (me := xm87) hP_87 rfl (fun x3 => ?_)
      refine xZ.adv (me := xm87) hP_87 1 (pc' := 28) (lv' := [(0, .ref v0), (1, .int v1)]) (st' := [.int v1, .ref x3]) rfl ?_
      refine xZ.callv (κ := oI) (av := [.int v1]) (rest := []) (st' := fun x4 => [.int x4]) (k0 := x3) (me := xm87) hP_87 rfl (Or.inl rfl) ⟨rfl, by decide⟩ rfl rfl (Nat.le_of_ble_eq_true rfl) (by decide) hP_302 (Nat.le_of_ble_eq_true rfl) (fun _ => rfl) (k_f_StringBuilder_charAt O f (d + 0) x3 v1 M1) (fun x4 M2 => ?_)
      exact xZ.reti (me := xm87) hP_87 rfl rfl
    · skip
      exact xZ.no
def f_LDays_first (O : Nat → Option va_E) (f : Nat) (v0 : Nat) (v1 : Int32) (M : xM) : Option (Int32 × xM) :=
  (gR O M v0 14 2).bind fun x1 =>
  (aI O M x1 v1).bind fun x2 =>
  some (((v1 - x2) + (1 : Int32)), M)
set_option maxRecDepth 20000 in
theorem k_f_LDays_first (O : Nat → Option va_E) (f d : Nat) (v0 : Nat) (v1 : Int32) (M : xM) : xZ oI O (d + 0) 90 0 [(0, .ref v0), (1, .int v1)] [] M (f_LDays_first O f v0 v1 M) := by
  unfold f_LDays_first
  refine xZ.adv (me := xm90) hP_90 2 (pc' := 2) (lv' := [(0, .ref v0), (1, .int v1)]) (st' := [.ref v0, .int v1]) rfl ?_
  refine xZ.k_gR (me := xm90) hP_90 rfl (fun x1 => ?_)
  refine xZ.adv (me := xm90) hP_90 1 (pc' := 6) (lv' := [(0, .ref v0), (1, .int v1)]) (st' := [.int v1, .ref x1, .int v1]) rfl ?_
  refine xZ.k_aI (me := xm90) hP_90 rfl (fun x2 => ?_)
  refine xZ.adv (me := xm90) hP_90 3 (pc' := 10) (lv' := [(0, .ref v0), (1, .int v1)]) (st' := [.int ((v1 - x2) + (1 : Int32))]) rfl ?_
  exact xZ.reti (me := xm90) hP_90 rfl rfl
def f_LDays_last (O : Nat → Option va_E) (f : Nat) (v0 : Nat) (v1 : Int32) (M : xM) : Option (Int32 × xM) :=
  (isO O M v0 14).bind fun _ =>
  xcl (f_LDays_first O f v0 v1 M) fun x1 M1 =>
  (gR O M1 v0 14 0).bind fun x2 =>
  (aI O M1 x2 v1).bind fun x3 =>
  (gR O M1 v0 14 1).bind fun x4 =>
  (aI O M1 x4 v1).bind fun x5 =>
  (isO O M1 v0 14).bind fun _ =>
  xcl (f_LDays_length O f v0 x3 x5 M1) fun x6 M2 =>
  some (((x1 + x6) - (1 : Int32)), M2)
set_option maxRecDepth 20000 in
theorem k_f_LDays_last (O : Nat → Option va_E) (f d : Nat) (v0 : Nat) (v1 : Int32) (M : xM) : xZ oI O (d + 1) 89 0 [(0, .ref v0), (1, .int v1)] [] M (f_LDays_last O f v0 v1 M) := by
  unfold f_LDays_last
  refine xZ.adv (me := xm89) hP_89 2 (pc' := 2) (lv' := [(0, .ref v0), (1, .int v1)]) (st' := [.int v1, .ref v0]) rfl ?_
  refine xZ.callv (κ := oI) (av := [.int v1]) (rest := []) (st' := fun x1 => [.int x1]) (k0 := v0) (me := xm89) hP_89 rfl (Or.inl rfl) ⟨rfl, by decide⟩ rfl rfl (Nat.le_of_ble_eq_true rfl) (by decide) hP_90 (Nat.le_of_ble_eq_true rfl) (fun _ => rfl) (k_f_LDays_first O f (d + 0) v0 v1 M) (fun x1 M1 => ?_)
  refine xZ.adv (me := xm89) hP_89 2 (pc' := 7) (lv' := [(0, .ref v0), (1, .int v1)]) (st' := [.ref v0, .ref v0, .int x1]) rfl ?_
  refine xZ.k_gR (me := xm89) hP_89 rfl (fun x2 => ?_)
  refine xZ.adv (me := xm89) hP_89 1 (pc' := 11) (lv' := [(0, .ref v0), (1, .int v1)]) (st' := [.int v1, .ref x2, .ref v0, .int x1]) rfl ?_
  refine xZ.k_aI (me := xm89) hP_89 rfl (fun x3 => ?_)
  refine xZ.adv (me := xm89) hP_89 1 (pc' := 13) (lv' := [(0, .ref v0), (1, .int v1)]) (st' := [.ref v0, .int x3, .ref v0, .int x1]) rfl ?_
  refine xZ.k_gR (me := xm89) hP_89 rfl (fun x4 => ?_)
  refine xZ.adv (me := xm89) hP_89 1 (pc' := 17) (lv' := [(0, .ref v0), (1, .int v1)]) (st' := [.int v1, .ref x4, .int x3, .ref v0, .int x1]) rfl ?_
  refine xZ.k_aI (me := xm89) hP_89 rfl (fun x5 => ?_)
  refine xZ.callv (κ := oI) (av := [.int x3, .int x5]) (rest := [.int x1]) (st' := fun x6 => [.int x6, .int x1]) (k0 := v0) (me := xm89) hP_89 rfl (Or.inl rfl) ⟨rfl, by decide⟩ rfl rfl (Nat.le_of_ble_eq_true rfl) (by decide) hP_15 (Nat.le_of_ble_eq_true rfl) (fun _ => rfl) (k_f_LDays_length O f (d + 0) v0 x3 x5 M1) (fun x6 M2 => ?_)
  refine xZ.adv (me := xm89) hP_89 3 (pc' := 24) (lv' := [(0, .ref v0), (1, .int v1)]) (st' := [.int ((x1 + x6) - (1 : Int32))]) rfl ?_
  exact xZ.reti (me := xm89) hP_89 rfl rfl
def f_LRule_holds_372 (O : Nat → Option va_E) (f : Nat) (v0 : Nat) (v1 : Nat) (v2 : Int32) (v5 : Int32) (M : xM) : Option (Int32 × xM) :=
  (gI O M v0 16 3).bind fun x1 =>
  (gR O M v1 14 3).bind fun x2 =>
  (aI O M x2 v2).bind fun x3 =>
  if ((x1 >>> (x3 &&& 31)) &&& (1 : Int32)) = (1 : Int32) then (
    (gI O M v0 16 4).bind fun x4 =>
    xcl (f_Math_abs O f x4 M) fun x5 M1 =>
    if v5 = x5 then (
      some ((1 : Int32), M1)
    ) else
    some ((0 : Int32), M1)
  ) else
  some ((0 : Int32), M)
set_option maxRecDepth 20000 in
theorem k_f_LRule_holds_372 (O : Nat → Option va_E) (f d : Nat) (v0 : Nat) (v1 : Nat) (v2 : Int32) (v5 : Int32) (M : xM) : xZ oI O (d + 2) 88 372 [(0, .ref v0), (1, .ref v1), (2, .int v2), (5, .int v5)] [] M (f_LRule_holds_372 O f v0 v1 v2 v5 M) := by
  unfold f_LRule_holds_372
  refine xZ.adv (me := xm88) hP_88 1 (pc' := 373) (lv' := [(0, .ref v0), (1, .ref v1), (2, .int v2), (5, .int v5)]) (st' := [.ref v0]) rfl ?_
  refine xZ.k_gI (me := xm88) hP_88 rfl (fun x1 => ?_)
  refine xZ.adv (me := xm88) hP_88 1 (pc' := 377) (lv' := [(0, .ref v0), (1, .ref v1), (2, .int v2), (5, .int v5)]) (st' := [.ref v1, .int x1]) rfl ?_
  refine xZ.k_gR (me := xm88) hP_88 rfl (fun x2 => ?_)
  refine xZ.adv (me := xm88) hP_88 1 (pc' := 381) (lv' := [(0, .ref v0), (1, .ref v1), (2, .int v2), (5, .int v5)]) (st' := [.int v2, .ref x2, .int x1]) rfl ?_
  refine xZ.k_aI (me := xm88) hP_88 rfl (fun x3 => ?_)
  refine xZ.adv (me := xm88) hP_88 4 (pc' := 386) (lv' := [(0, .ref v0), (1, .ref v1), (2, .int v2), (5, .int v5)]) (st' := [.int (1 : Int32), .int ((x1 >>> (x3 &&& 31)) &&& (1 : Int32))]) rfl ?_
  refine xZ.ic_ne (me := xm88) hP_88 rfl (fun h1 => ?_) (fun h1 => ?_)
  · skip
    refine xZ.adv (me := xm88) hP_88 2 (pc' := 392) (lv' := [(0, .ref v0), (1, .ref v1), (2, .int v2), (5, .int v5)]) (st' := [.ref v0, .int v5]) rfl ?_
    refine xZ.k_gI (me := xm88) hP_88 rfl (fun x4 => ?_)
    refine xZ.calls (κ := oI) (av := [.int x4]) (rest := [.int v5]) (st' := fun x5 => [.int x5, .int v5]) (me := xm88) hP_88 rfl rfl rfl (Nat.le_of_ble_eq_true rfl) (by decide) hP_249 (Nat.le_of_ble_eq_true rfl) (fun _ => rfl) (k_f_Math_abs O f (d + 1) x4 M) (fun x5 M1 => ?_)
    refine xZ.ic_ne (me := xm88) hP_88 rfl (fun h2 => ?_) (fun h2 => ?_)
    · skip
      refine xZ.adv (me := xm88) hP_88 2 (pc' := 406) (lv' := [(0, .ref v0), (1, .ref v1), (2, .int v2), (5, .int v5)]) (st' := [.int (1 : Int32)]) rfl ?_
      exact xZ.rete (me := xm88) hP_88 rfl rfl rfl
    · skip
      refine xZ.adv (me := xm88) hP_88 1 (pc' := 406) (lv' := [(0, .ref v0), (1, .ref v1), (2, .int v2), (5, .int v5)]) (st' := [.int (0 : Int32)]) rfl ?_
      exact xZ.rete (me := xm88) hP_88 rfl rfl rfl
  · skip
    refine xZ.adv (me := xm88) hP_88 1 (pc' := 406) (lv' := [(0, .ref v0), (1, .ref v1), (2, .int v2), (5, .int v5)]) (st' := [.int (0 : Int32)]) rfl ?_
    exact xZ.rete (me := xm88) hP_88 rfl rfl rfl
def f_LRule_holds_337 (O : Nat → Option va_E) (f : Nat) : Nat → Nat → Nat → Int32 → Int32 → Int32 → xM → Option (Int32 × xM)
  | 0, _, _, _, _, _, _ => none
  | n + 1, v0, v1, v2, v5, v6, M =>
    (isO O M v1 14).bind fun _ =>
    xcl (f_LDays_last O f v1 v2 M) fun x1 M1 =>
    if x1 < v6 then (
      f_LRule_holds_372 O f v0 v1 v2 v5 M1
    ) else
    (gI O M1 v0 16 3).bind fun x2 =>
    (gR O M1 v1 14 3).bind fun x3 =>
    (aI O M1 x3 v6).bind fun x4 =>
    xlet (v5 + ((x2 >>> (x4 &&& 31)) &&& (1 : Int32))) fun x5 =>
    f_LRule_holds_337 O f n v0 v1 v2 x5 (v6 + (1 : Int32)) M1
set_option maxRecDepth 20000 in
theorem k_f_LRule_holds_337 (O : Nat → Option va_E) (f d : Nat) : ∀ (n : Nat) (v0 : Nat) (v1 : Nat) (v2 : Int32) (v5 : Int32) (v6 : Int32) (M : xM), xZ oI O (d + 2) 88 337 [(0, .ref v0), (1, .ref v1), (2, .int v2), (5, .int v5), (6, .int v6)] [] M (f_LRule_holds_337 O f n v0 v1 v2 v5 v6 M) := by
  intro n
  induction n with
  | zero =>
    intro v0 v1 v2 v5 v6 M
    exact xZ.no
  | succ n ih =>
    intro v0 v1 v2 v5 v6 M
    unfold f_LRule_holds_337
    refine xZ.adv (me := xm88) hP_88 3 (pc' := 341) (lv' := [(0, .ref v0), (1, .ref v1), (2, .int v2), (5, .int v5), (6, .int v6)]) (st' := [.int v2, .ref v1, .int v6]) rfl ?_
    refine xZ.callv (κ := oI) (av := [.int v2]) (rest := [.int v6]) (st' := fun x1 => [.int x1, .int v6]) (k0 := v1) (me := xm88) hP_88 rfl (Or.inl rfl) ⟨rfl, by decide⟩ rfl rfl (Nat.le_of_ble_eq_true rfl) (by decide) hP_89 (Nat.le_of_ble_eq_true rfl) (fun _ => rfl) (k_f_LDays_last O f (d + 0) v1 v2 M) (fun x1 M1 => ?_)
    refine xZ.ic_gt (me := xm88) hP_88 rfl (fun h1 => ?_) (fun h1 => ?_)
    · skip
      exact xZ.sub (xsc (.head _) (xsc (.tail _ (.head _)) (xsc (.tail _ (.tail _ (.head _))) (xsc (.tail _ (.tail _ (.tail _ (.head _)))) xsn)))) (show ([0, 1, 2, 5, 6] : List Nat).Nodup from by decide) (k_f_LRule_holds_372 O f d v0 v1 v2 v5 M1)
    · skip
      refine xZ.adv (me := xm88) hP_88 2 (pc' := 350) (lv' := [(0, .ref v0), (1, .ref v1), (2, .int v2), (5, .int v5), (6, .int v6)]) (st' := [.ref v0, .int v5]) rfl ?_
      refine xZ.k_gI (me := xm88) hP_88 rfl (fun x2 => ?_)
      refine xZ.adv (me := xm88) hP_88 1 (pc' := 354) (lv' := [(0, .ref v0), (1, .ref v1), (2, .int v2), (5, .int v5), (6, .int v6)]) (st' := [.ref v1, .int x2, .int v5]) rfl ?_
      refine xZ.k_gR (me := xm88) hP_88 rfl (fun x3 => ?_)
      refine xZ.adv (me := xm88) hP_88 1 (pc' := 359) (lv' := [(0, .ref v0), (1, .ref v1), (2, .int v2), (5, .int v5), (6, .int v6)]) (st' := [.int v6, .ref x3, .int x2, .int v5]) rfl ?_
      refine xZ.k_aI (me := xm88) hP_88 rfl (fun x4 => ?_)
      refine xZ.adv (me := xm88) hP_88 5 (pc' := 366) (lv' := [(5, .int (v5 + ((x2 >>> (x4 &&& 31)) &&& (1 : Int32)))), (0, .ref v0), (1, .ref v1), (2, .int v2), (6, .int v6)]) (st' := []) rfl ?_
      refine xZ.letI (v := (v5 + ((x2 >>> (x4 &&& 31)) &&& (1 : Int32)))) (lvf := fun x5 => [(5, .int x5), (0, .ref v0), (1, .ref v1), (2, .int v2), (6, .int v6)]) (stf := fun x5 => []) ?_
      intro x5
      refine xZ.adv (me := xm88) hP_88 2 (pc' := 337) (lv' := [(6, .int (v6 + (1 : Int32))), (5, .int x5), (0, .ref v0), (1, .ref v1), (2, .int v2)]) (st' := []) rfl ?_
      exact xZ.sub (xsc (.tail _ (.tail _ (.head _))) (xsc (.tail _ (.tail _ (.tail _ (.head _)))) (xsc (.tail _ (.tail _ (.tail _ (.tail _ (.head _))))) (xsc (.tail _ (.head _)) (xsc (.head _) xsn))))) (show ([6, 5, 0, 1, 2] : List Nat).Nodup from by decide) (ih v0 v1 v2 x5 (v6 + (1 : Int32)) M1)
def f_LRule_holds_81 (O : Nat → Option va_E) (f : Nat) (K57 : Nat → Nat → Int32 → Int32 → Int32 → xM → Option (Int32 × xM)) (v0 : Nat) (v1 : Nat) (v2 : Int32) (v4 : Int32) (s0 : Int32) (s1 : Int32) (M : xM) : Option (Int32 × xM) :=
  K57 v0 v1 v2 (s0 + s1) (v4 + (1 : Int32)) M
set_option maxRecDepth 20000 in
theorem k_f_LRule_holds_81 (O : Nat → Option va_E) (f d : Nat) (K57 : Nat → Nat → Int32 → Int32 → Int32 → xM → Option (Int32 × xM)) (hK57 : ∀ (v0 : Nat) (v1 : Nat) (v2 : Int32) (v3 : Int32) (v4 : Int32) M, xZ oI O (d + 2) 88 57 [(0, .ref v0), (1, .ref v1), (2, .int v2), (3, .int v3), (4, .int v4)] [] M (K57 v0 v1 v2 v3 v4 M)) (v0 : Nat) (v1 : Nat) (v2 : Int32) (v4 : Int32) (s0 : Int32) (s1 : Int32) (M : xM) : xZ oI O (d + 2) 88 81 [(0, .ref v0), (1, .ref v1), (2, .int v2), (4, .int v4)] [.int s1, .int s0] M (f_LRule_holds_81 O f K57 v0 v1 v2 v4 s0 s1 M) := by
  unfold f_LRule_holds_81
  refine xZ.adv (me := xm88) hP_88 4 (pc' := 57) (lv' := [(4, .int (v4 + (1 : Int32))), (3, .int (s0 + s1)), (0, .ref v0), (1, .ref v1), (2, .int v2)]) (st' := []) rfl ?_
  exact xZ.sub (xsc (.tail _ (.tail _ (.head _))) (xsc (.tail _ (.tail _ (.tail _ (.head _)))) (xsc (.tail _ (.tail _ (.tail _ (.tail _ (.head _))))) (xsc (.tail _ (.head _)) (xsc (.head _) xsn))))) (show ([4, 3, 0, 1, 2] : List Nat).Nodup from by decide) (hK57 v0 v1 v2 (s0 + s1) (v4 + (1 : Int32)) M)
def f_LRule_holds_300 (O : Nat → Option va_E) (f : Nat) : Nat → Nat → Nat → Int32 → Int32 → Int32 → xM → Option (Int32 × xM)
  | 0, _, _, _, _, _, _ => none
  | n + 1, v0, v1, v2, v5, v6, M =>
    if v2 < v6 then (
      f_LRule_holds_372 O f v0 v1 v2 v5 M
    ) else
    (gI O M v0 16 3).bind fun x1 =>
    (gR O M v1 14 3).bind fun x2 =>
    (aI O M x2 v6).bind fun x3 =>
    xlet (v5 + ((x1 >>> (x3 &&& 31)) &&& (1 : Int32))) fun x4 =>
    f_LRule_holds_300 O f n v0 v1 v2 x4 (v6 + (1 : Int32)) M
set_option maxRecDepth 20000 in
theorem k_f_LRule_holds_300 (O : Nat → Option va_E) (f d : Nat) : ∀ (n : Nat) (v0 : Nat) (v1 : Nat) (v2 : Int32) (v5 : Int32) (v6 : Int32) (M : xM), xZ oI O (d + 2) 88 300 [(0, .ref v0), (1, .ref v1), (2, .int v2), (5, .int v5), (6, .int v6)] [] M (f_LRule_holds_300 O f n v0 v1 v2 v5 v6 M) := by
  intro n
  induction n with
  | zero =>
    intro v0 v1 v2 v5 v6 M
    exact xZ.no
  | succ n ih =>
    intro v0 v1 v2 v5 v6 M
    unfold f_LRule_holds_300
    refine xZ.adv (me := xm88) hP_88 2 (pc' := 303) (lv' := [(0, .ref v0), (1, .ref v1), (2, .int v2), (5, .int v5), (6, .int v6)]) (st' := [.int v2, .int v6]) rfl ?_
    refine xZ.ic_gt (me := xm88) hP_88 rfl (fun h1 => ?_) (fun h1 => ?_)
    · skip
      refine xZ.adv (me := xm88) hP_88 1 (pc' := 372) (lv' := [(0, .ref v0), (1, .ref v1), (2, .int v2), (5, .int v5), (6, .int v6)]) (st' := []) rfl ?_
      exact xZ.sub (xsc (.head _) (xsc (.tail _ (.head _)) (xsc (.tail _ (.tail _ (.head _))) (xsc (.tail _ (.tail _ (.tail _ (.head _)))) xsn)))) (show ([0, 1, 2, 5, 6] : List Nat).Nodup from by decide) (k_f_LRule_holds_372 O f d v0 v1 v2 v5 M)
    · skip
      refine xZ.adv (me := xm88) hP_88 2 (pc' := 309) (lv' := [(0, .ref v0), (1, .ref v1), (2, .int v2), (5, .int v5), (6, .int v6)]) (st' := [.ref v0, .int v5]) rfl ?_
      refine xZ.k_gI (me := xm88) hP_88 rfl (fun x1 => ?_)
      refine xZ.adv (me := xm88) hP_88 1 (pc' := 313) (lv' := [(0, .ref v0), (1, .ref v1), (2, .int v2), (5, .int v5), (6, .int v6)]) (st' := [.ref v1, .int x1, .int v5]) rfl ?_
      refine xZ.k_gR (me := xm88) hP_88 rfl (fun x2 => ?_)
      refine xZ.adv (me := xm88) hP_88 1 (pc' := 318) (lv' := [(0, .ref v0), (1, .ref v1), (2, .int v2), (5, .int v5), (6, .int v6)]) (st' := [.int v6, .ref x2, .int x1, .int v5]) rfl ?_
      refine xZ.k_aI (me := xm88) hP_88 rfl (fun x3 => ?_)
      refine xZ.adv (me := xm88) hP_88 5 (pc' := 325) (lv' := [(5, .int (v5 + ((x1 >>> (x3 &&& 31)) &&& (1 : Int32)))), (0, .ref v0), (1, .ref v1), (2, .int v2), (6, .int v6)]) (st' := []) rfl ?_
      refine xZ.letI (v := (v5 + ((x1 >>> (x3 &&& 31)) &&& (1 : Int32)))) (lvf := fun x4 => [(5, .int x4), (0, .ref v0), (1, .ref v1), (2, .int v2), (6, .int v6)]) (stf := fun x4 => []) ?_
      intro x4
      refine xZ.adv (me := xm88) hP_88 2 (pc' := 300) (lv' := [(6, .int (v6 + (1 : Int32))), (5, .int x4), (0, .ref v0), (1, .ref v1), (2, .int v2)]) (st' := []) rfl ?_
      exact xZ.sub (xsc (.tail _ (.tail _ (.head _))) (xsc (.tail _ (.tail _ (.tail _ (.head _)))) (xsc (.tail _ (.tail _ (.tail _ (.tail _ (.head _))))) (xsc (.tail _ (.head _)) (xsc (.head _) xsn))))) (show ([6, 5, 0, 1, 2] : List Nat).Nodup from by decide) (ih v0 v1 v2 x4 (v6 + (1 : Int32)) M)
def f_LRule_holds_57 (O : Nat → Option va_E) (f : Nat) : Nat → Nat → Nat → Int32 → Int32 → Int32 → xM → Option (Int32 × xM)
  | 0, _, _, _, _, _, _ => none
  | n + 1, v0, v1, v2, v3, v4, M =>
    if v2 ≤ v4 then (
      (gI O M v0 16 1).bind fun x1 =>
      if x1 = (2 : Int32) then (
        (gI O M v0 16 2).bind fun x2 =>
        if x2 = 0 then none else xlet (v3 - v3 / x2 * x2) fun x3 =>
        if x3 = 0 then (
          (gI O M v0 16 3).bind fun x4 =>
          (gR O M v1 14 3).bind fun x5 =>
          (aI O M x5 v2).bind fun x6 =>
          if ((x4 >>> (x6 &&& 31)) &&& (1 : Int32)) = (1 : Int32) then (
            some ((1 : Int32), M)
          ) else
          some ((0 : Int32), M)
        ) else
        some ((0 : Int32), M)
      ) else
      (gR O M v1 14 0).bind fun x7 =>
      (aI O M x7 v2).bind fun x8 =>
      (gR O M v1 14 0).bind fun x9 =>
      (gI O M v0 16 0).bind fun x10 =>
      (aI O M x9 x10).bind fun x11 =>
      (gR O M v1 14 1).bind fun x12 =>
      (aI O M x12 v2).bind fun x13 =>
      (gR O M v1 14 1).bind fun x14 =>
      (gI O M v0 16 0).bind fun x15 =>
      (aI O M x14 x15).bind fun x16 =>
      xlet ((((12 : Int32) * (x8 - x11)) + x13) - x16) fun x17 =>
      (gI O M v0 16 1).bind fun x18 =>
      if x18 = (5 : Int32) then (
        (gI O M v0 16 2).bind fun x19 =>
        if ((12 : Int32) * x19) = 0 then none else xlet (x17 - x17 / ((12 : Int32) * x19) * ((12 : Int32) * x19)) fun x20 =>
        if x20 = 0 then (
          (gR O M v1 14 2).bind fun x21 =>
          (aI O M x21 v2).bind fun x22 =>
          (gR O M v1 14 2).bind fun x23 =>
          (gI O M v0 16 0).bind fun x24 =>
          (aI O M x23 x24).bind fun x25 =>
          if x22 = x25 then (
            some ((1 : Int32), M)
          ) else
          some ((0 : Int32), M)
        ) else
        some ((0 : Int32), M)
      ) else
      (gI O M v0 16 2).bind fun x26 =>
      if x26 = 0 then none else xlet (x17 - x17 / x26 * x26) fun x27 =>
      if x27 = 0 then (
        (gI O M v0 16 1).bind fun x28 =>
        if x28 = (3 : Int32) then (
          (gI O M v0 16 4).bind fun x29 =>
          if x29 ≤ 0 then (
            (isO O M v1 14).bind fun _ =>
            xcl (f_LDays_last O f v1 v2 M) fun x30 M1 =>
            (gI O M1 v0 16 4).bind fun x31 =>
            if (x30 - v2) = ((-x31) - (1 : Int32)) then (
              some ((1 : Int32), M1)
            ) else
            some ((0 : Int32), M1)
          ) else
          (gR O M v1 14 2).bind fun x32 =>
          (aI O M x32 v2).bind fun x33 =>
          (gI O M v0 16 4).bind fun x34 =>
          if x33 = x34 then (
            some ((1 : Int32), M)
          ) else
          some ((0 : Int32), M)
        ) else
        (gI O M v0 16 4).bind fun x35 =>
        if x35 ≤ 0 then (
          f_LRule_holds_337 O f f v0 v1 v2 (0 : Int32) v2 M
        ) else
        (isO O M v1 14).bind fun _ =>
        xcl (f_LDays_first O f v1 v2 M) fun x36 M2 =>
        f_LRule_holds_300 O f f v0 v1 v2 (0 : Int32) x36 M2
      ) else
      some ((0 : Int32), M)
    ) else
    (gR O M v1 14 3).bind fun x37 =>
    (aI O M x37 v4).bind fun x38 =>
    if x38 = (6 : Int32) then (
      f_LRule_holds_81 O f (f_LRule_holds_57 O f n) v0 v1 v2 v4 v3 (1 : Int32) M
    ) else
    f_LRule_holds_81 O f (f_LRule_holds_57 O f n) v0 v1 v2 v4 v3 (0 : Int32) M
set_option maxRecDepth 20000 in
theorem k_f_LRule_holds_57 (O : Nat → Option va_E) (f d : Nat) : ∀ (n : Nat) (v0 : Nat) (v1 : Nat) (v2 : Int32) (v3 : Int32) (v4 : Int32) (M : xM), xZ oI O (d + 2) 88 57 [(0, .ref v0), (1, .ref v1), (2, .int v2), (3, .int v3), (4, .int v4)] [] M (f_LRule_holds_57 O f n v0 v1 v2 v3 v4 M) := by
  intro n
  induction n with
  | zero =>
    intro v0 v1 v2 v3 v4 M
    exact xZ.no
  | succ n ih =>
    intro v0 v1 v2 v3 v4 M
    unfold f_LRule_holds_57
    refine xZ.adv (me := xm88) hP_88 2 (pc' := 60) (lv' := [(0, .ref v0), (1, .ref v1), (2, .int v2), (3, .int v3), (4, .int v4)]) (st' := [.int v2, .int v4]) rfl ?_
    refine xZ.ic_ge (me := xm88) hP_88 rfl (fun h1 => ?_) (fun h1 => ?_)
    · skip
      refine xZ.adv (me := xm88) hP_88 1 (pc' := 90) (lv' := [(0, .ref v0), (1, .ref v1), (2, .int v2), (3, .int v3), (4, .int v4)]) (st' := [.ref v0]) rfl ?_
      refine xZ.k_gI (me := xm88) hP_88 rfl (fun x1 => ?_)
      refine xZ.adv (me := xm88) hP_88 1 (pc' := 94) (lv' := [(0, .ref v0), (1, .ref v1), (2, .int v2), (3, .int v3), (4, .int v4)]) (st' := [.int (2 : Int32), .int x1]) rfl ?_
      refine xZ.ic_ne (me := xm88) hP_88 rfl (fun h2 => ?_) (fun h2 => ?_)
      · skip
        refine xZ.adv (me := xm88) hP_88 2 (pc' := 99) (lv' := [(0, .ref v0), (1, .ref v1), (2, .int v2), (3, .int v3), (4, .int v4)]) (st' := [.ref v0, .int v3]) rfl ?_
        refine xZ.k_gI (me := xm88) hP_88 rfl (fun x2 => ?_)
        refine xZ.rem (me := xm88) hP_88 rfl (fun x3 => ?_)
        refine xZ.if_ne (me := xm88) hP_88 rfl (fun h3 => ?_) (fun h3 => ?_)
        · skip
          refine xZ.adv (me := xm88) hP_88 1 (pc' := 107) (lv' := [(0, .ref v0), (1, .ref v1), (2, .int v2), (3, .int v3), (4, .int v4)]) (st' := [.ref v0]) rfl ?_
          refine xZ.k_gI (me := xm88) hP_88 rfl (fun x4 => ?_)
          refine xZ.adv (me := xm88) hP_88 1 (pc' := 111) (lv' := [(0, .ref v0), (1, .ref v1), (2, .int v2), (3, .int v3), (4, .int v4)]) (st' := [.ref v1, .int x4]) rfl ?_
          refine xZ.k_gR (me := xm88) hP_88 rfl (fun x5 => ?_)
          refine xZ.adv (me := xm88) hP_88 1 (pc' := 115) (lv' := [(0, .ref v0), (1, .ref v1), (2, .int v2), (3, .int v3), (4, .int v4)]) (st' := [.int v2, .ref x5, .int x4]) rfl ?_
          refine xZ.k_aI (me := xm88) hP_88 rfl (fun x6 => ?_)
          refine xZ.adv (me := xm88) hP_88 4 (pc' := 120) (lv' := [(0, .ref v0), (1, .ref v1), (2, .int v2), (3, .int v3), (4, .int v4)]) (st' := [.int (1 : Int32), .int ((x4 >>> (x6 &&& 31)) &&& (1 : Int32))]) rfl ?_
          refine xZ.ic_ne (me := xm88) hP_88 rfl (fun h4 => ?_) (fun h4 => ?_)
          · skip
            refine xZ.adv (me := xm88) hP_88 2 (pc' := 128) (lv' := [(0, .ref v0), (1, .ref v1), (2, .int v2), (3, .int v3), (4, .int v4)]) (st' := [.int (1 : Int32)]) rfl ?_
            exact xZ.rete (me := xm88) hP_88 rfl rfl rfl
          · skip
            refine xZ.adv (me := xm88) hP_88 1 (pc' := 128) (lv' := [(0, .ref v0), (1, .ref v1), (2, .int v2), (3, .int v3), (4, .int v4)]) (st' := [.int (0 : Int32)]) rfl ?_
            exact xZ.rete (me := xm88) hP_88 rfl rfl rfl
        · skip
          refine xZ.adv (me := xm88) hP_88 1 (pc' := 128) (lv' := [(0, .ref v0), (1, .ref v1), (2, .int v2), (3, .int v3), (4, .int v4)]) (st' := [.int (0 : Int32)]) rfl ?_
          exact xZ.rete (me := xm88) hP_88 rfl rfl rfl
      · skip
        refine xZ.adv (me := xm88) hP_88 2 (pc' := 132) (lv' := [(0, .ref v0), (1, .ref v1), (2, .int v2), (3, .int v3), (4, .int v4)]) (st' := [.ref v1, .int (12 : Int32)]) rfl ?_
        refine xZ.k_gR (me := xm88) hP_88 rfl (fun x7 => ?_)
        refine xZ.adv (me := xm88) hP_88 1 (pc' := 136) (lv' := [(0, .ref v0), (1, .ref v1), (2, .int v2), (3, .int v3), (4, .int v4)]) (st' := [.int v2, .ref x7, .int (12 : Int32)]) rfl ?_
        refine xZ.k_aI (me := xm88) hP_88 rfl (fun x8 => ?_)
        refine xZ.adv (me := xm88) hP_88 1 (pc' := 138) (lv' := [(0, .ref v0), (1, .ref v1), (2, .int v2), (3, .int v3), (4, .int v4)]) (st' := [.ref v1, .int x8, .int (12 : Int32)]) rfl ?_
        refine xZ.k_gR (me := xm88) hP_88 rfl (fun x9 => ?_)
        refine xZ.adv (me := xm88) hP_88 1 (pc' := 142) (lv' := [(0, .ref v0), (1, .ref v1), (2, .int v2), (3, .int v3), (4, .int v4)]) (st' := [.ref v0, .ref x9, .int x8, .int (12 : Int32)]) rfl ?_
        refine xZ.k_gI (me := xm88) hP_88 rfl (fun x10 => ?_)
        refine xZ.k_aI (me := xm88) hP_88 rfl (fun x11 => ?_)
        refine xZ.adv (me := xm88) hP_88 3 (pc' := 149) (lv' := [(0, .ref v0), (1, .ref v1), (2, .int v2), (3, .int v3), (4, .int v4)]) (st' := [.ref v1, .int ((12 : Int32) * (x8 - x11))]) rfl ?_
        refine xZ.k_gR (me := xm88) hP_88 rfl (fun x12 => ?_)
        refine xZ.adv (me := xm88) hP_88 1 (pc' := 153) (lv' := [(0, .ref v0), (1, .ref v1), (2, .int v2), (3, .int v3), (4, .int v4)]) (st' := [.int v2, .ref x12, .int ((12 : Int32) * (x8 - x11))]) rfl ?_
        refine xZ.k_aI (me := xm88) hP_88 rfl (fun x13 => ?_)
        refine xZ.adv (me := xm88) hP_88 2 (pc' := 156) (lv' := [(0, .ref v0), (1, .ref v1), (2, .int v2), (3, .int v3), (4, .int v4)]) (st' := [.ref v1, .int (((12 : Int32) * (x8 - x11)) + x13)]) rfl ?_
        refine xZ.k_gR (me := xm88) hP_88 rfl (fun x14 => ?_)
        refine xZ.adv (me := xm88) hP_88 1 (pc' := 160) (lv' := [(0, .ref v0), (1, .ref v1), (2, .int v2), (3, .int v3), (4, .int v4)]) (st' := [.ref v0, .ref x14, .int (((12 : Int32) * (x8 - x11)) + x13)]) rfl ?_
        refine xZ.k_gI (me := xm88) hP_88 rfl (fun x15 => ?_)
        refine xZ.k_aI (me := xm88) hP_88 rfl (fun x16 => ?_)
        refine xZ.adv (me := xm88) hP_88 2 (pc' := 167) (lv' := [(4, .int ((((12 : Int32) * (x8 - x11)) + x13) - x16)), (0, .ref v0), (1, .ref v1), (2, .int v2), (3, .int v3)]) (st' := []) rfl ?_
        refine xZ.letI (v := ((((12 : Int32) * (x8 - x11)) + x13) - x16)) (lvf := fun x17 => [(4, .int x17), (0, .ref v0), (1, .ref v1), (2, .int v2), (3, .int v3)]) (stf := fun x17 => []) ?_
        intro x17
        refine xZ.adv (me := xm88) hP_88 1 (pc' := 168) (lv' := [(4, .int x17), (0, .ref v0), (1, .ref v1), (2, .int v2), (3, .int v3)]) (st' := [.ref v0]) rfl ?_
        refine xZ.k_gI (me := xm88) hP_88 rfl (fun x18 => ?_)
        refine xZ.adv (me := xm88) hP_88 1 (pc' := 172) (lv' := [(4, .int x17), (0, .ref v0), (1, .ref v1), (2, .int v2), (3, .int v3)]) (st' := [.int (5 : Int32), .int x18]) rfl ?_
        refine xZ.ic_ne (me := xm88) hP_88 rfl (fun h5 => ?_) (fun h5 => ?_)
        · skip
          refine xZ.adv (me := xm88) hP_88 3 (pc' := 180) (lv' := [(4, .int x17), (0, .ref v0), (1, .ref v1), (2, .int v2), (3, .int v3)]) (st' := [.ref v0, .int (12 : Int32), .int x17]) rfl ?_
          refine xZ.k_gI (me := xm88) hP_88 rfl (fun x19 => ?_)
          refine xZ.adv (me := xm88) hP_88 1 (pc' := 184) (lv' := [(4, .int x17), (0, .ref v0), (1, .ref v1), (2, .int v2), (3, .int v3)]) (st' := [.int ((12 : Int32) * x19), .int x17]) rfl ?_
          refine xZ.rem (me := xm88) hP_88 rfl (fun x20 => ?_)
          refine xZ.if_ne (me := xm88) hP_88 rfl (fun h6 => ?_) (fun h6 => ?_)
          · skip
            refine xZ.adv (me := xm88) hP_88 1 (pc' := 189) (lv' := [(4, .int x17), (0, .ref v0), (1, .ref v1), (2, .int v2), (3, .int v3)]) (st' := [.ref v1]) rfl ?_
            refine xZ.k_gR (me := xm88) hP_88 rfl (fun x21 => ?_)
            refine xZ.adv (me := xm88) hP_88 1 (pc' := 193) (lv' := [(4, .int x17), (0, .ref v0), (1, .ref v1), (2, .int v2), (3, .int v3)]) (st' := [.int v2, .ref x21]) rfl ?_
            refine xZ.k_aI (me := xm88) hP_88 rfl (fun x22 => ?_)
            refine xZ.adv (me := xm88) hP_88 1 (pc' := 195) (lv' := [(4, .int x17), (0, .ref v0), (1, .ref v1), (2, .int v2), (3, .int v3)]) (st' := [.ref v1, .int x22]) rfl ?_
            refine xZ.k_gR (me := xm88) hP_88 rfl (fun x23 => ?_)
            refine xZ.adv (me := xm88) hP_88 1 (pc' := 199) (lv' := [(4, .int x17), (0, .ref v0), (1, .ref v1), (2, .int v2), (3, .int v3)]) (st' := [.ref v0, .ref x23, .int x22]) rfl ?_
            refine xZ.k_gI (me := xm88) hP_88 rfl (fun x24 => ?_)
            refine xZ.k_aI (me := xm88) hP_88 rfl (fun x25 => ?_)
            refine xZ.ic_ne (me := xm88) hP_88 rfl (fun h7 => ?_) (fun h7 => ?_)
            · skip
              refine xZ.adv (me := xm88) hP_88 2 (pc' := 211) (lv' := [(4, .int x17), (0, .ref v0), (1, .ref v1), (2, .int v2), (3, .int v3)]) (st' := [.int (1 : Int32)]) rfl ?_
              exact xZ.rete (me := xm88) hP_88 rfl rfl rfl
            · skip
              refine xZ.adv (me := xm88) hP_88 1 (pc' := 211) (lv' := [(4, .int x17), (0, .ref v0), (1, .ref v1), (2, .int v2), (3, .int v3)]) (st' := [.int (0 : Int32)]) rfl ?_
              exact xZ.rete (me := xm88) hP_88 rfl rfl rfl
          · skip
            refine xZ.adv (me := xm88) hP_88 1 (pc' := 211) (lv' := [(4, .int x17), (0, .ref v0), (1, .ref v1), (2, .int v2), (3, .int v3)]) (st' := [.int (0 : Int32)]) rfl ?_
            exact xZ.rete (me := xm88) hP_88 rfl rfl rfl
        · skip
          refine xZ.adv (me := xm88) hP_88 2 (pc' := 215) (lv' := [(4, .int x17), (0, .ref v0), (1, .ref v1), (2, .int v2), (3, .int v3)]) (st' := [.ref v0, .int x17]) rfl ?_
          refine xZ.k_gI (me := xm88) hP_88 rfl (fun x26 => ?_)
          refine xZ.rem (me := xm88) hP_88 rfl (fun x27 => ?_)
          refine xZ.if_eq (me := xm88) hP_88 rfl (fun h8 => ?_) (fun h8 => ?_)
          · skip
            refine xZ.adv (me := xm88) hP_88 1 (pc' := 225) (lv' := [(4, .int x17), (0, .ref v0), (1, .ref v1), (2, .int v2), (3, .int v3)]) (st' := [.ref v0]) rfl ?_
            refine xZ.k_gI (me := xm88) hP_88 rfl (fun x28 => ?_)
            refine xZ.adv (me := xm88) hP_88 1 (pc' := 229) (lv' := [(4, .int x17), (0, .ref v0), (1, .ref v1), (2, .int v2), (3, .int v3)]) (st' := [.int (3 : Int32), .int x28]) rfl ?_
            refine xZ.ic_ne (me := xm88) hP_88 rfl (fun h9 => ?_) (fun h9 => ?_)
            · skip
              refine xZ.adv (me := xm88) hP_88 1 (pc' := 233) (lv' := [(4, .int x17), (0, .ref v0), (1, .ref v1), (2, .int v2), (3, .int v3)]) (st' := [.ref v0]) rfl ?_
              refine xZ.k_gI (me := xm88) hP_88 rfl (fun x29 => ?_)
              refine xZ.if_le (me := xm88) hP_88 rfl (fun h10 => ?_) (fun h10 => ?_)
              · skip
                refine xZ.adv (me := xm88) hP_88 2 (pc' := 262) (lv' := [(4, .int x17), (0, .ref v0), (1, .ref v1), (2, .int v2), (3, .int v3)]) (st' := [.int v2, .ref v1]) rfl ?_
                refine xZ.callv (κ := oI) (av := [.int v2]) (rest := []) (st' := fun x30 => [.int x30]) (k0 := v1) (me := xm88) hP_88 rfl (Or.inl rfl) ⟨rfl, by decide⟩ rfl rfl (Nat.le_of_ble_eq_true rfl) (by decide) hP_89 (Nat.le_of_ble_eq_true rfl) (fun _ => rfl) (k_f_LDays_last O f (d + 0) v1 v2 M) (fun x30 M1 => ?_)
                refine xZ.adv (me := xm88) hP_88 3 (pc' := 268) (lv' := [(4, .int x17), (0, .ref v0), (1, .ref v1), (2, .int v2), (3, .int v3)]) (st' := [.ref v0, .int (x30 - v2)]) rfl ?_
                refine xZ.k_gI (me := xm88) hP_88 rfl (fun x31 => ?_)
                refine xZ.adv (me := xm88) hP_88 3 (pc' := 274) (lv' := [(4, .int x17), (0, .ref v0), (1, .ref v1), (2, .int v2), (3, .int v3)]) (st' := [.int ((-x31) - (1 : Int32)), .int (x30 - v2)]) rfl ?_
                refine xZ.ic_ne (me := xm88) hP_88 rfl (fun h11 => ?_) (fun h11 => ?_)
                · skip
                  refine xZ.adv (me := xm88) hP_88 2 (pc' := 282) (lv' := [(4, .int x17), (0, .ref v0), (1, .ref v1), (2, .int v2), (3, .int v3)]) (st' := [.int (1 : Int32)]) rfl ?_
                  exact xZ.rete (me := xm88) hP_88 rfl rfl rfl
                · skip
                  refine xZ.adv (me := xm88) hP_88 1 (pc' := 282) (lv' := [(4, .int x17), (0, .ref v0), (1, .ref v1), (2, .int v2), (3, .int v3)]) (st' := [.int (0 : Int32)]) rfl ?_
                  exact xZ.rete (me := xm88) hP_88 rfl rfl rfl
              · skip
                refine xZ.adv (me := xm88) hP_88 1 (pc' := 240) (lv' := [(4, .int x17), (0, .ref v0), (1, .ref v1), (2, .int v2), (3, .int v3)]) (st' := [.ref v1]) rfl ?_
                refine xZ.k_gR (me := xm88) hP_88 rfl (fun x32 => ?_)
                refine xZ.adv (me := xm88) hP_88 1 (pc' := 244) (lv' := [(4, .int x17), (0, .ref v0), (1, .ref v1), (2, .int v2), (3, .int v3)]) (st' := [.int v2, .ref x32]) rfl ?_
                refine xZ.k_aI (me := xm88) hP_88 rfl (fun x33 => ?_)
                refine xZ.adv (me := xm88) hP_88 1 (pc' := 246) (lv' := [(4, .int x17), (0, .ref v0), (1, .ref v1), (2, .int v2), (3, .int v3)]) (st' := [.ref v0, .int x33]) rfl ?_
                refine xZ.k_gI (me := xm88) hP_88 rfl (fun x34 => ?_)
                refine xZ.ic_ne (me := xm88) hP_88 rfl (fun h12 => ?_) (fun h12 => ?_)
                · skip
                  refine xZ.adv (me := xm88) hP_88 2 (pc' := 282) (lv' := [(4, .int x17), (0, .ref v0), (1, .ref v1), (2, .int v2), (3, .int v3)]) (st' := [.int (1 : Int32)]) rfl ?_
                  exact xZ.rete (me := xm88) hP_88 rfl rfl rfl
                · skip
                  refine xZ.adv (me := xm88) hP_88 2 (pc' := 282) (lv' := [(4, .int x17), (0, .ref v0), (1, .ref v1), (2, .int v2), (3, .int v3)]) (st' := [.int (0 : Int32)]) rfl ?_
                  exact xZ.rete (me := xm88) hP_88 rfl rfl rfl
            · skip
              refine xZ.adv (me := xm88) hP_88 3 (pc' := 287) (lv' := [(5, .int (0 : Int32)), (4, .int x17), (0, .ref v0), (1, .ref v1), (2, .int v2), (3, .int v3)]) (st' := [.ref v0]) rfl ?_
              refine xZ.k_gI (me := xm88) hP_88 rfl (fun x35 => ?_)
              refine xZ.if_le (me := xm88) hP_88 rfl (fun h13 => ?_) (fun h13 => ?_)
              · skip
                refine xZ.adv (me := xm88) hP_88 2 (pc' := 337) (lv' := [(6, .int v2), (5, .int (0 : Int32)), (4, .int x17), (0, .ref v0), (1, .ref v1), (2, .int v2), (3, .int v3)]) (st' := []) rfl ?_
                exact xZ.sub (xsc (.tail _ (.tail _ (.tail _ (.head _)))) (xsc (.tail _ (.tail _ (.tail _ (.tail _ (.head _))))) (xsc (.tail _ (.tail _ (.tail _ (.tail _ (.tail _ (.head _)))))) (xsc (.tail _ (.head _)) (xsc (.head _) xsn))))) (show ([6, 5, 4, 0, 1, 2, 3] : List Nat).Nodup from by decide) (k_f_LRule_holds_337 O f d f v0 v1 v2 (0 : Int32) v2 M)
              · skip
                refine xZ.adv (me := xm88) hP_88 2 (pc' := 295) (lv' := [(5, .int (0 : Int32)), (4, .int x17), (0, .ref v0), (1, .ref v1), (2, .int v2), (3, .int v3)]) (st' := [.int v2, .ref v1]) rfl ?_
                refine xZ.callv (κ := oI) (av := [.int v2]) (rest := []) (st' := fun x36 => [.int x36]) (k0 := v1) (me := xm88) hP_88 rfl (Or.inl rfl) ⟨rfl, by decide⟩ rfl rfl (Nat.le_of_ble_eq_true rfl) (by decide) hP_90 (Nat.le_of_ble_eq_true rfl) (fun _ => rfl) (k_f_LDays_first O f (d + 1) v1 v2 M) (fun x36 M2 => ?_)
                refine xZ.adv (me := xm88) hP_88 1 (pc' := 300) (lv' := [(6, .int x36), (5, .int (0 : Int32)), (4, .int x17), (0, .ref v0), (1, .ref v1), (2, .int v2), (3, .int v3)]) (st' := []) rfl ?_
                exact xZ.sub (xsc (.tail _ (.tail _ (.tail _ (.head _)))) (xsc (.tail _ (.tail _ (.tail _ (.tail _ (.head _))))) (xsc (.tail _ (.tail _ (.tail _ (.tail _ (.tail _ (.head _)))))) (xsc (.tail _ (.head _)) (xsc (.head _) xsn))))) (show ([6, 5, 4, 0, 1, 2, 3] : List Nat).Nodup from by decide) (k_f_LRule_holds_300 O f d f v0 v1 v2 (0 : Int32) x36 M2)
          · skip
            refine xZ.adv (me := xm88) hP_88 1 (pc' := 223) (lv' := [(4, .int x17), (0, .ref v0), (1, .ref v1), (2, .int v2), (3, .int v3)]) (st' := [.int (0 : Int32)]) rfl ?_
            exact xZ.rete (me := xm88) hP_88 rfl rfl rfl
    · skip
      refine xZ.adv (me := xm88) hP_88 2 (pc' := 65) (lv' := [(0, .ref v0), (1, .ref v1), (2, .int v2), (3, .int v3), (4, .int v4)]) (st' := [.ref v1, .int v3]) rfl ?_
      refine xZ.k_gR (me := xm88) hP_88 rfl (fun x37 => ?_)
      refine xZ.adv (me := xm88) hP_88 1 (pc' := 70) (lv' := [(0, .ref v0), (1, .ref v1), (2, .int v2), (3, .int v3), (4, .int v4)]) (st' := [.int v4, .ref x37, .int v3]) rfl ?_
      refine xZ.k_aI (me := xm88) hP_88 rfl (fun x38 => ?_)
      refine xZ.adv (me := xm88) hP_88 1 (pc' := 73) (lv' := [(0, .ref v0), (1, .ref v1), (2, .int v2), (3, .int v3), (4, .int v4)]) (st' := [.int (6 : Int32), .int x38, .int v3]) rfl ?_
      refine xZ.ic_ne (me := xm88) hP_88 rfl (fun h14 => ?_) (fun h14 => ?_)
      · skip
        refine xZ.adv (me := xm88) hP_88 2 (pc' := 81) (lv' := [(0, .ref v0), (1, .ref v1), (2, .int v2), (3, .int v3), (4, .int v4)]) (st' := [.int (1 : Int32), .int v3]) rfl ?_
        exact xZ.sub (xsc (.head _) (xsc (.tail _ (.head _)) (xsc (.tail _ (.tail _ (.head _))) (xsc (.tail _ (.tail _ (.tail _ (.tail _ (.head _))))) xsn)))) (show ([0, 1, 2, 3, 4] : List Nat).Nodup from by decide) (k_f_LRule_holds_81 O f d (f_LRule_holds_57 O f n) ih v0 v1 v2 v4 v3 (1 : Int32) M)
      · skip
        refine xZ.adv (me := xm88) hP_88 1 (pc' := 81) (lv' := [(0, .ref v0), (1, .ref v1), (2, .int v2), (3, .int v3), (4, .int v4)]) (st' := [.int (0 : Int32), .int v3]) rfl ?_
        exact xZ.sub (xsc (.head _) (xsc (.tail _ (.head _)) (xsc (.tail _ (.tail _ (.head _))) (xsc (.tail _ (.tail _ (.tail _ (.tail _ (.head _))))) xsn)))) (show ([0, 1, 2, 3, 4] : List Nat).Nodup from by decide) (k_f_LRule_holds_81 O f d (f_LRule_holds_57 O f n) ih v0 v1 v2 v4 v3 (0 : Int32) M)
def f_LRule_holds (O : Nat → Option va_E) (f : Nat) (v0 : Nat) (v1 : Nat) (v2 : Int32) (M : xM) : Option (Int32 × xM) :=
  (gI O M v0 16 1).bind fun x1 =>
  if x1 = 0 then (
    (gI O M v0 16 0).bind fun x2 =>
    if v2 = x2 then (
      some ((1 : Int32), M)
    ) else
    some ((0 : Int32), M)
  ) else
  (gI O M v0 16 1).bind fun x3 =>
  if x3 = (1 : Int32) then (
    (gI O M v0 16 0).bind fun x4 =>
    (gI O M v0 16 2).bind fun x5 =>
    if x5 = 0 then none else xlet ((v2 - x4) - (v2 - x4) / x5 * x5) fun x6 =>
    if x6 = 0 then (
      some ((1 : Int32), M)
    ) else
    some ((0 : Int32), M)
  ) else
  (gI O M v0 16 0).bind fun x7 =>
  f_LRule_holds_57 O f f v0 v1 v2 (0 : Int32) x7 M
set_option maxRecDepth 20000 in
theorem k_f_LRule_holds (O : Nat → Option va_E) (f d : Nat) (v0 : Nat) (v1 : Nat) (v2 : Int32) (M : xM) : xZ oI O (d + 2) 88 0 [(0, .ref v0), (1, .ref v1), (2, .int v2)] [] M (f_LRule_holds O f v0 v1 v2 M) := by
  unfold f_LRule_holds
  refine xZ.adv (me := xm88) hP_88 1 (pc' := 1) (lv' := [(0, .ref v0), (1, .ref v1), (2, .int v2)]) (st' := [.ref v0]) rfl ?_
  refine xZ.k_gI (me := xm88) hP_88 rfl (fun x1 => ?_)
  refine xZ.if_ne (me := xm88) hP_88 rfl (fun h1 => ?_) (fun h1 => ?_)
  · skip
    refine xZ.adv (me := xm88) hP_88 2 (pc' := 9) (lv' := [(0, .ref v0), (1, .ref v1), (2, .int v2)]) (st' := [.ref v0, .int v2]) rfl ?_
    refine xZ.k_gI (me := xm88) hP_88 rfl (fun x2 => ?_)
    refine xZ.ic_ne (me := xm88) hP_88 rfl (fun h2 => ?_) (fun h2 => ?_)
    · skip
      refine xZ.adv (me := xm88) hP_88 2 (pc' := 20) (lv' := [(0, .ref v0), (1, .ref v1), (2, .int v2)]) (st' := [.int (1 : Int32)]) rfl ?_
      exact xZ.rete (me := xm88) hP_88 rfl rfl rfl
    · skip
      refine xZ.adv (me := xm88) hP_88 1 (pc' := 20) (lv' := [(0, .ref v0), (1, .ref v1), (2, .int v2)]) (st' := [.int (0 : Int32)]) rfl ?_
      exact xZ.rete (me := xm88) hP_88 rfl rfl rfl
  · skip
    refine xZ.adv (me := xm88) hP_88 1 (pc' := 22) (lv' := [(0, .ref v0), (1, .ref v1), (2, .int v2)]) (st' := [.ref v0]) rfl ?_
    refine xZ.k_gI (me := xm88) hP_88 rfl (fun x3 => ?_)
    refine xZ.adv (me := xm88) hP_88 1 (pc' := 26) (lv' := [(0, .ref v0), (1, .ref v1), (2, .int v2)]) (st' := [.int (1 : Int32), .int x3]) rfl ?_
    refine xZ.ic_ne (me := xm88) hP_88 rfl (fun h3 => ?_) (fun h3 => ?_)
    · skip
      refine xZ.adv (me := xm88) hP_88 2 (pc' := 31) (lv' := [(0, .ref v0), (1, .ref v1), (2, .int v2)]) (st' := [.ref v0, .int v2]) rfl ?_
      refine xZ.k_gI (me := xm88) hP_88 rfl (fun x4 => ?_)
      refine xZ.adv (me := xm88) hP_88 2 (pc' := 36) (lv' := [(0, .ref v0), (1, .ref v1), (2, .int v2)]) (st' := [.ref v0, .int (v2 - x4)]) rfl ?_
      refine xZ.k_gI (me := xm88) hP_88 rfl (fun x5 => ?_)
      refine xZ.rem (me := xm88) hP_88 rfl (fun x6 => ?_)
      refine xZ.if_ne (me := xm88) hP_88 rfl (fun h4 => ?_) (fun h4 => ?_)
      · skip
        refine xZ.adv (me := xm88) hP_88 2 (pc' := 48) (lv' := [(0, .ref v0), (1, .ref v1), (2, .int v2)]) (st' := [.int (1 : Int32)]) rfl ?_
        exact xZ.rete (me := xm88) hP_88 rfl rfl rfl
      · skip
        refine xZ.adv (me := xm88) hP_88 1 (pc' := 48) (lv' := [(0, .ref v0), (1, .ref v1), (2, .int v2)]) (st' := [.int (0 : Int32)]) rfl ?_
        exact xZ.rete (me := xm88) hP_88 rfl rfl rfl
    · skip
      refine xZ.adv (me := xm88) hP_88 3 (pc' := 52) (lv' := [(3, .int (0 : Int32)), (0, .ref v0), (1, .ref v1), (2, .int v2)]) (st' := [.ref v0]) rfl ?_
      refine xZ.k_gI (me := xm88) hP_88 rfl (fun x7 => ?_)
      refine xZ.adv (me := xm88) hP_88 1 (pc' := 57) (lv' := [(4, .int x7), (3, .int (0 : Int32)), (0, .ref v0), (1, .ref v1), (2, .int v2)]) (st' := []) rfl ?_
      exact xZ.sub (xsc (.tail _ (.tail _ (.head _))) (xsc (.tail _ (.tail _ (.tail _ (.head _)))) (xsc (.tail _ (.tail _ (.tail _ (.tail _ (.head _))))) (xsc (.tail _ (.head _)) (xsc (.head _) xsn))))) (show ([4, 3, 0, 1, 2] : List Nat).Nodup from by decide) (k_f_LRule_holds_57 O f d f v0 v1 v2 (0 : Int32) x7 M)
