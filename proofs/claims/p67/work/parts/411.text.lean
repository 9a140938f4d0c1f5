/-! ===== texts ===== -/
def f_Calendarhall_behindBusy (O : Nat → Option va_E) (f : Nat) (v0 : Nat) (v1 : Int32) (v2 : Int32) (M : xM) : Option (Int32 × xM) :=
  (gR O M v0 12 4).bind fun x1 =>
  (isO O M x1 2).bind fun _ =>
  xcl (f_Dates_onFrom O f x1 v1 M) fun x2 M1 =>
  if (v1 + v2) ≤ x2 then (
    some (v1, M1)
  ) else
  (gR O M1 v0 12 4).bind fun x3 =>
  (isO O M1 x3 2).bind fun _ =>
  xcl (f_Dates_offFrom O f x3 x2 M1) fun x4 M2 =>
  some (x4, M2)
set_option maxRecDepth 20000 in
theorem k_f_Calendarhall_behindBusy (O : Nat → Option va_E) (f d : Nat) (v0 : Nat) (v1 : Int32) (v2 : Int32) (M : xM) : xZ oI O (d + 4) 182 0 [(0, .ref v0), (1, .int v1), (2, .int v2)] [] M (f_Calendarhall_behindBusy O f v0 v1 v2 M) := by
  unfold f_Calendarhall_behindBusy
  refine xZ.adv (me := xm182) hP_182 1 (pc' := 1) (lv' := [(0, .ref v0), (1, .int v1), (2, .int v2)]) (st' := [.ref v0]) rfl ?_
  refine xZ.k_gR (me := xm182) hP_182 rfl (fun x1 => ?_)
  refine xZ.adv (me := xm182) hP_182 1 (pc' := 5) (lv' := [(0, .ref v0), (1, .int v1), (2, .int v2)]) (st' := [.int v1, .ref x1]) rfl ?_
  refine xZ.callv (κ := oI) (av := [.int v1]) (rest := []) (st' := fun x2 => [.int x2]) (k0 := x1) (me := xm182) hP_182 rfl (Or.inl rfl) ⟨rfl, by decide⟩ rfl rfl (Nat.le_of_ble_eq_true rfl) (by decide) hP_169 (Nat.le_of_ble_eq_true rfl) (fun _ => rfl) (k_f_Dates_onFrom O f (d + 0) x1 v1 M) (fun x2 M1 => ?_)
  refine xZ.adv (me := xm182) hP_182 5 (pc' := 13) (lv' := [(3, .int x2), (0, .ref v0), (1, .int v1), (2, .int v2)]) (st' := [.int (v1 + v2), .int x2]) rfl ?_
  refine xZ.ic_ge (me := xm182) hP_182 rfl (fun h1 => ?_) (fun h1 => ?_)
  · skip
    refine xZ.adv (me := xm182) hP_182 1 (pc' := 28) (lv' := [(3, .int x2), (0, .ref v0), (1, .int v1), (2, .int v2)]) (st' := [.int v1]) rfl ?_
    exact xZ.reti (me := xm182) hP_182 rfl rfl
  · skip
    refine xZ.adv (me := xm182) hP_182 1 (pc' := 17) (lv' := [(3, .int x2), (0, .ref v0), (1, .int v1), (2, .int v2)]) (st' := [.ref v0]) rfl ?_
    refine xZ.k_gR (me := xm182) hP_182 rfl (fun x3 => ?_)
    refine xZ.adv (me := xm182) hP_182 1 (pc' := 21) (lv' := [(3, .int x2), (0, .ref v0), (1, .int v1), (2, .int v2)]) (st' := [.int x2, .ref x3]) rfl ?_
    refine xZ.callv (κ := oI) (av := [.int x2]) (rest := []) (st' := fun x4 => [.int x4]) (k0 := x3) (me := xm182) hP_182 rfl (Or.inl rfl) ⟨rfl, by decide⟩ rfl rfl (Nat.le_of_ble_eq_true rfl) (by decide) hP_178 (Nat.le_of_ble_eq_true rfl) (fun _ => rfl) (k_f_Dates_offFrom O f (d + 0) x3 x2 M1) (fun x4 M2 => ?_)
    refine xZ.adv (me := xm182) hP_182 1 (pc' := 28) (lv' := [(3, .int x2), (0, .ref v0), (1, .int v1), (2, .int v2)]) (st' := [.int x4]) rfl ?_
    exact xZ.reti (me := xm182) hP_182 rfl rfl
def f_Calendarhall_behindIdle_3 (O : Nat → Option va_E) (f : Nat) : Nat → Nat → Int32 → Int32 → Int32 → Int32 → Int32 → xM → Option (Int32 × xM)
  | 0, _, _, _, _, _, _, _ => none
  | n + 1, v0, v1, v2, v3, v4, v5, M =>
    if (8 : Int32) ≤ v5 then (
      some (v2, M)
    ) else
    if ((v1 >>> (v5 &&& 31)) &&& (1 : Int32)) = 0 then (
      f_Calendarhall_behindIdle_3 O f n v0 v1 v2 v3 v4 (v5 + (1 : Int32)) M
    ) else
    (gR O M v0 12 0).bind fun x1 =>
    (isO O M x1 4).bind fun _ =>
    xcl (f_Hall_anyPerson O f x1 v5 M) fun x2 M1 =>
    (gR O M1 v0 12 0).bind fun x3 =>
    (gI O M1 x2 6 0).bind fun x4 =>
    (isO O M1 x3 4).bind fun _ =>
    xcl (f_Hall_anyZone O f x3 x4 M1) fun x5 M2 =>
    (isO O M2 x2 6).bind fun _ =>
    xcl (f_Person_idleFrom O f x2 x5 v2 v4 M2) fun x6 M3 =>
    if (v2 + v3) ≤ x6 then (
      f_Calendarhall_behindIdle_3 O f n v0 v1 v2 v3 v4 (v5 + (1 : Int32)) M3
    ) else
    (isO O M3 x2 6).bind fun _ =>
    xcl (f_Person_workFrom O f x2 x5 x6 v4 M3) fun x7 M4 =>
    some (x7, M4)
set_option maxRecDepth 20000 in
theorem k_f_Calendarhall_behindIdle_3 (O : Nat → Option va_E) (f d : Nat) : ∀ (n : Nat) (v0 : Nat) (v1 : Int32) (v2 : Int32) (v3 : Int32) (v4 : Int32) (v5 : Int32) (M : xM), xZ oI O (d + 5) 183 3 [(0, .ref v0), (1, .int v1), (2, .int v2), (3, .int v3), (4, .int v4), (5, .int v5)] [] M (f_Calendarhall_behindIdle_3 O f n v0 v1 v2 v3 v4 v5 M) := by
  intro n
  induction n with
  | zero =>
    intro v0 v1 v2 v3 v4 v5 M
    exact xZ.no
  | succ n ih =>
    intro v0 v1 v2 v3 v4 v5 M
    unfold f_Calendarhall_behindIdle_3
    refine xZ.adv (me := xm183) hP_183 2 (pc' := 7) (lv' := [(0, .ref v0), (1, .int v1), (2, .int v2), (3, .int v3), (4, .int v4), (5, .int v5)]) (st' := [.int (8 : Int32), .int v5]) rfl ?_
    refine xZ.ic_ge (me := xm183) hP_183 rfl (fun h1 => ?_) (fun h1 => ?_)
    · skip
      refine xZ.adv (me := xm183) hP_183 1 (pc' := 86) (lv' := [(0, .ref v0), (1, .int v1), (2, .int v2), (3, .int v3), (4, .int v4), (5, .int v5)]) (st' := [.int v2]) rfl ?_
      exact xZ.reti (me := xm183) hP_183 rfl rfl
    · skip
      refine xZ.adv (me := xm183) hP_183 5 (pc' := 16) (lv' := [(0, .ref v0), (1, .int v1), (2, .int v2), (3, .int v3), (4, .int v4), (5, .int v5)]) (st' := [.int ((v1 >>> (v5 &&& 31)) &&& (1 : Int32))]) rfl ?_
      refine xZ.if_ne (me := xm183) hP_183 rfl (fun h2 => ?_) (fun h2 => ?_)
      · skip
        refine xZ.adv (me := xm183) hP_183 3 (pc' := 3) (lv' := [(5, .int (v5 + (1 : Int32))), (0, .ref v0), (1, .int v1), (2, .int v2), (3, .int v3), (4, .int v4)]) (st' := []) rfl ?_
        exact xZ.sub (xsc (.tail _ (.head _)) (xsc (.tail _ (.tail _ (.head _))) (xsc (.tail _ (.tail _ (.tail _ (.head _)))) (xsc (.tail _ (.tail _ (.tail _ (.tail _ (.head _))))) (xsc (.tail _ (.tail _ (.tail _ (.tail _ (.tail _ (.head _)))))) (xsc (.head _) xsn)))))) (show ([5, 0, 1, 2, 3, 4] : List Nat).Nodup from by decide) (ih v0 v1 v2 v3 v4 (v5 + (1 : Int32)) M)
      · skip
        refine xZ.adv (me := xm183) hP_183 1 (pc' := 23) (lv' := [(0, .ref v0), (1, .int v1), (2, .int v2), (3, .int v3), (4, .int v4), (5, .int v5)]) (st' := [.ref v0]) rfl ?_
        refine xZ.k_gR (me := xm183) hP_183 rfl (fun x1 => ?_)
        refine xZ.adv (me := xm183) hP_183 1 (pc' := 28) (lv' := [(0, .ref v0), (1, .int v1), (2, .int v2), (3, .int v3), (4, .int v4), (5, .int v5)]) (st' := [.int v5, .ref x1]) rfl ?_
        refine xZ.callv (κ := oR) (av := [.int v5]) (rest := []) (st' := fun x2 => [.ref x2]) (k0 := x1) (me := xm183) hP_183 rfl (Or.inl rfl) ⟨rfl, by decide⟩ rfl rfl (Nat.le_of_ble_eq_true rfl) (by decide) hP_26 (Nat.le_of_ble_eq_true rfl) (fun _ => rfl) (k_f_Hall_anyPerson O f (d + 4) x1 v5 M) (fun x2 M1 => ?_)
        refine xZ.adv (me := xm183) hP_183 2 (pc' := 34) (lv' := [(6, .ref x2), (0, .ref v0), (1, .int v1), (2, .int v2), (3, .int v3), (4, .int v4), (5, .int v5)]) (st' := [.ref v0]) rfl ?_
        refine xZ.k_gR (me := xm183) hP_183 rfl (fun x3 => ?_)
        refine xZ.adv (me := xm183) hP_183 1 (pc' := 39) (lv' := [(6, .ref x2), (0, .ref v0), (1, .int v1), (2, .int v2), (3, .int v3), (4, .int v4), (5, .int v5)]) (st' := [.ref x2, .ref x3]) rfl ?_
        refine xZ.k_gI (me := xm183) hP_183 rfl (fun x4 => ?_)
        refine xZ.callv (κ := oR) (av := [.int x4]) (rest := []) (st' := fun x5 => [.ref x5]) (k0 := x3) (me := xm183) hP_183 rfl (Or.inl rfl) ⟨rfl, by decide⟩ rfl rfl (Nat.le_of_ble_eq_true rfl) (by decide) hP_21 (Nat.le_of_ble_eq_true rfl) (fun _ => rfl) (k_f_Hall_anyZone O f (d + 4) x3 x4 M1) (fun x5 M2 => ?_)
        refine xZ.adv (me := xm183) hP_183 5 (pc' := 54) (lv' := [(7, .ref x5), (6, .ref x2), (0, .ref v0), (1, .int v1), (2, .int v2), (3, .int v3), (4, .int v4), (5, .int v5)]) (st' := [.int v4, .int v2, .ref x5, .ref x2]) rfl ?_
        refine xZ.callv (κ := oI) (av := [.ref x5, .int v2, .int v4]) (rest := []) (st' := fun x6 => [.int x6]) (k0 := x2) (me := xm183) hP_183 rfl (Or.inl rfl) ⟨rfl, by decide⟩ rfl rfl (Nat.le_of_ble_eq_true rfl) (by decide) hP_179 (Nat.le_of_ble_eq_true rfl) (fun _ => rfl) (k_f_Person_idleFrom O f (d + 0) x2 x5 v2 v4 M2) (fun x6 M3 => ?_)
        refine xZ.adv (me := xm183) hP_183 5 (pc' := 64) (lv' := [(8, .int x6), (7, .ref x5), (6, .ref x2), (0, .ref v0), (1, .int v1), (2, .int v2), (3, .int v3), (4, .int v4), (5, .int v5)]) (st' := [.int (v2 + v3), .int x6]) rfl ?_
        refine xZ.ic_ge (me := xm183) hP_183 rfl (fun h3 => ?_) (fun h3 => ?_)
        · skip
          refine xZ.adv (me := xm183) hP_183 2 (pc' := 3) (lv' := [(5, .int (v5 + (1 : Int32))), (8, .int x6), (7, .ref x5), (6, .ref x2), (0, .ref v0), (1, .int v1), (2, .int v2), (3, .int v3), (4, .int v4)]) (st' := []) rfl ?_
          exact xZ.sub (xsc (.tail _ (.tail _ (.tail _ (.tail _ (.head _))))) (xsc (.tail _ (.tail _ (.tail _ (.tail _ (.tail _ (.head _)))))) (xsc (.tail _ (.tail _ (.tail _ (.tail _ (.tail _ (.tail _ (.head _))))))) (xsc (.tail _ (.tail _ (.tail _ (.tail _ (.tail _ (.tail _ (.tail _ (.head _)))))))) (xsc (.tail _ (.tail _ (.tail _ (.tail _ (.tail _ (.tail _ (.tail _ (.tail _ (.head _))))))))) (xsc (.head _) xsn)))))) (show ([5, 8, 7, 6, 0, 1, 2, 3, 4] : List Nat).Nodup from by decide) (ih v0 v1 v2 v3 v4 (v5 + (1 : Int32)) M3)
        · skip
          refine xZ.adv (me := xm183) hP_183 4 (pc' := 75) (lv' := [(8, .int x6), (7, .ref x5), (6, .ref x2), (0, .ref v0), (1, .int v1), (2, .int v2), (3, .int v3), (4, .int v4), (5, .int v5)]) (st' := [.int v4, .int x6, .ref x5, .ref x2]) rfl ?_
          refine xZ.callv (κ := oI) (av := [.ref x5, .int x6, .int v4]) (rest := []) (st' := fun x7 => [.int x7]) (k0 := x2) (me := xm183) hP_183 rfl (Or.inl rfl) ⟨rfl, by decide⟩ rfl rfl (Nat.le_of_ble_eq_true rfl) (by decide) hP_175 (Nat.le_of_ble_eq_true rfl) (fun _ => rfl) (k_f_Person_workFrom O f (d + 0) x2 x5 x6 v4 M3) (fun x7 M4 => ?_)
          exact xZ.reti (me := xm183) hP_183 rfl rfl
def f_Calendarhall_behindIdle (O : Nat → Option va_E) (f : Nat) (v0 : Nat) (v1 : Int32) (v2 : Int32) (v3 : Int32) (v4 : Int32) (M : xM) : Option (Int32 × xM) :=
  f_Calendarhall_behindIdle_3 O f f v0 v1 v2 v3 v4 (0 : Int32) M
set_option maxRecDepth 20000 in
theorem k_f_Calendarhall_behindIdle (O : Nat → Option va_E) (f d : Nat) (v0 : Nat) (v1 : Int32) (v2 : Int32) (v3 : Int32) (v4 : Int32) (M : xM) : xZ oI O (d + 5) 183 0 [(0, .ref v0), (1, .int v1), (2, .int v2), (3, .int v3), (4, .int v4)] [] M (f_Calendarhall_behindIdle O f v0 v1 v2 v3 v4 M) := by
  unfold f_Calendarhall_behindIdle
  refine xZ.adv (me := xm183) hP_183 2 (pc' := 3) (lv' := [(5, .int (0 : Int32)), (0, .ref v0), (1, .int v1), (2, .int v2), (3, .int v3), (4, .int v4)]) (st' := []) rfl ?_
  exact xZ.sub (xsc (.tail _ (.head _)) (xsc (.tail _ (.tail _ (.head _))) (xsc (.tail _ (.tail _ (.tail _ (.head _)))) (xsc (.tail _ (.tail _ (.tail _ (.tail _ (.head _))))) (xsc (.tail _ (.tail _ (.tail _ (.tail _ (.tail _ (.head _)))))) (xsc (.head _) xsn)))))) (show ([5, 0, 1, 2, 3, 4] : List Nat).Nodup from by decide) (k_f_Calendarhall_behindIdle_3 O f d f v0 v1 v2 v3 v4 (0 : Int32) M)
def f_Calendarhall_freeNext_103 (O : Nat → Option va_E) (f : Nat) (K52 : Nat → Int32 → Int32 → Int32 → Int32 → Int32 → Int32 → xM → Option (Int32 × xM)) (v0 : Nat) (v1 : Int32) (v3 : Int32) (v4 : Int32) (v5 : Int32) (v6 : Int32) (v7 : Int32) (v8 : Int32) (M : xM) : Option (Int32 × xM) :=
  if v8 = v6 then (
    some (v6, M)
  ) else
  K52 v0 v1 v3 v4 v5 v8 (v7 + (1 : Int32)) M
set_option maxRecDepth 20000 in
theorem k_f_Calendarhall_freeNext_103 (O : Nat → Option va_E) (f d : Nat) (K52 : Nat → Int32 → Int32 → Int32 → Int32 → Int32 → Int32 → xM → Option (Int32 × xM)) (hK52 : ∀ (v0 : Nat) (v1 : Int32) (v3 : Int32) (v4 : Int32) (v5 : Int32) (v6 : Int32) (v7 : Int32) M, xZ oI O (d + 7) 181 52 [(0, .ref v0), (1, .int v1), (3, .int v3), (4, .int v4), (5, .int v5), (6, .int v6), (7, .int v7)] [] M (K52 v0 v1 v3 v4 v5 v6 v7 M)) (v0 : Nat) (v1 : Int32) (v3 : Int32) (v4 : Int32) (v5 : Int32) (v6 : Int32) (v7 : Int32) (v8 : Int32) (M : xM) : xZ oI O (d + 7) 181 103 [(0, .ref v0), (1, .int v1), (3, .int v3), (4, .int v4), (5, .int v5), (6, .int v6), (7, .int v7), (8, .int v8)] [] M (f_Calendarhall_freeNext_103 O f K52 v0 v1 v3 v4 v5 v6 v7 v8 M) := by
  unfold f_Calendarhall_freeNext_103
  refine xZ.adv (me := xm181) hP_181 2 (pc' := 107) (lv' := [(0, .ref v0), (1, .int v1), (3, .int v3), (4, .int v4), (5, .int v5), (6, .int v6), (7, .int v7), (8, .int v8)]) (st' := [.int v6, .int v8]) rfl ?_
  refine xZ.ic_ne (me := xm181) hP_181 rfl (fun h1 => ?_) (fun h1 => ?_)
  · skip
    refine xZ.adv (me := xm181) hP_181 1 (pc' := 112) (lv' := [(0, .ref v0), (1, .int v1), (3, .int v3), (4, .int v4), (5, .int v5), (6, .int v6), (7, .int v7), (8, .int v8)]) (st' := [.int v6]) rfl ?_
    exact xZ.reti (me := xm181) hP_181 rfl rfl
  · skip
    refine xZ.adv (me := xm181) hP_181 4 (pc' := 52) (lv' := [(7, .int (v7 + (1 : Int32))), (6, .int v8), (0, .ref v0), (1, .int v1), (3, .int v3), (4, .int v4), (5, .int v5), (8, .int v8)]) (st' := []) rfl ?_
    exact xZ.sub (xsc (.tail _ (.tail _ (.head _))) (xsc (.tail _ (.tail _ (.tail _ (.head _)))) (xsc (.tail _ (.tail _ (.tail _ (.tail _ (.head _))))) (xsc (.tail _ (.tail _ (.tail _ (.tail _ (.tail _ (.head _)))))) (xsc (.tail _ (.tail _ (.tail _ (.tail _ (.tail _ (.tail _ (.head _))))))) (xsc (.tail _ (.head _)) (xsc (.head _) xsn))))))) (show ([7, 6, 0, 1, 3, 4, 5, 8] : List Nat).Nodup from by decide) (hK52 v0 v1 v3 v4 v5 v8 (v7 + (1 : Int32)) M)
def f_Calendarhall_freeNext_52 (O : Nat → Option va_E) (f : Nat) : Nat → Nat → Int32 → Int32 → Int32 → Int32 → Int32 → Int32 → xM → Option (Int32 × xM)
  | 0, _, _, _, _, _, _, _, _ => none
  | n + 1, v0, v1, v3, v4, v5, v6, v7, M =>
    if (20160 : Int32) < v7 then (
      some ((-1 : Int32), M)
    ) else
    if v3 < (v6 + v4) then (
      some ((-1 : Int32), M)
    ) else
    (isO O M v0 12).bind fun _ =>
    xcl (f_Calendarhall_behindBusy O f v0 v6 v4 M) fun x1 M1 =>
    if x1 = v6 then (
      if v5 = 0 then (
        f_Calendarhall_freeNext_103 O f (f_Calendarhall_freeNext_52 O f n) v0 v1 v3 v4 v5 v6 v7 x1 M1
      ) else
      (isO O M1 v0 12).bind fun _ =>
      xcl (f_Calendarhall_behindIdle O f v0 v1 v6 v4 v3 M1) fun x2 M2 =>
      f_Calendarhall_freeNext_103 O f (f_Calendarhall_freeNext_52 O f n) v0 v1 v3 v4 v5 v6 v7 x2 M2
    ) else
    f_Calendarhall_freeNext_103 O f (f_Calendarhall_freeNext_52 O f n) v0 v1 v3 v4 v5 v6 v7 x1 M1
set_option maxRecDepth 20000 in
theorem k_f_Calendarhall_freeNext_52 (O : Nat → Option va_E) (f d : Nat) : ∀ (n : Nat) (v0 : Nat) (v1 : Int32) (v3 : Int32) (v4 : Int32) (v5 : Int32) (v6 : Int32) (v7 : Int32) (M : xM), xZ oI O (d + 7) 181 52 [(0, .ref v0), (1, .int v1), (3, .int v3), (4, .int v4), (5, .int v5), (6, .int v6), (7, .int v7)] [] M (f_Calendarhall_freeNext_52 O f n v0 v1 v3 v4 v5 v6 v7 M) := by
  intro n
  induction n with
  | zero =>
    intro v0 v1 v3 v4 v5 v6 v7 M
    exact xZ.no
  | succ n ih =>
    intro v0 v1 v3 v4 v5 v6 v7 M
    unfold f_Calendarhall_freeNext_52
    refine xZ.adv (me := xm181) hP_181 2 (pc' := 57) (lv' := [(0, .ref v0), (1, .int v1), (3, .int v3), (4, .int v4), (5, .int v5), (6, .int v6), (7, .int v7)]) (st' := [.int (20160 : Int32), .int v7]) rfl ?_
    refine xZ.ic_gt (me := xm181) hP_181 rfl (fun h1 => ?_) (fun h1 => ?_)
    · skip
      refine xZ.adv (me := xm181) hP_181 1 (pc' := 124) (lv' := [(0, .ref v0), (1, .int v1), (3, .int v3), (4, .int v4), (5, .int v5), (6, .int v6), (7, .int v7)]) (st' := [.int (-1 : Int32)]) rfl ?_
      exact xZ.reti (me := xm181) hP_181 rfl rfl
    · skip
      refine xZ.adv (me := xm181) hP_181 4 (pc' := 66) (lv' := [(0, .ref v0), (1, .int v1), (3, .int v3), (4, .int v4), (5, .int v5), (6, .int v6), (7, .int v7)]) (st' := [.int v3, .int (v6 + v4)]) rfl ?_
      refine xZ.ic_gt (me := xm181) hP_181 rfl (fun h2 => ?_) (fun h2 => ?_)
      · skip
        refine xZ.adv (me := xm181) hP_181 1 (pc' := 124) (lv' := [(0, .ref v0), (1, .int v1), (3, .int v3), (4, .int v4), (5, .int v5), (6, .int v6), (7, .int v7)]) (st' := [.int (-1 : Int32)]) rfl ?_
        exact xZ.reti (me := xm181) hP_181 rfl rfl
      · skip
        refine xZ.adv (me := xm181) hP_181 3 (pc' := 74) (lv' := [(0, .ref v0), (1, .int v1), (3, .int v3), (4, .int v4), (5, .int v5), (6, .int v6), (7, .int v7)]) (st' := [.int v4, .int v6, .ref v0]) rfl ?_
        refine xZ.callv (κ := oI) (av := [.int v6, .int v4]) (rest := []) (st' := fun x1 => [.int x1]) (k0 := v0) (me := xm181) hP_181 rfl (Or.inl rfl) ⟨rfl, by decide⟩ rfl rfl (Nat.le_of_ble_eq_true rfl) (by decide) hP_182 (Nat.le_of_ble_eq_true rfl) (fun _ => rfl) (k_f_Calendarhall_behindBusy O f (d + 2) v0 v6 v4 M) (fun x1 M1 => ?_)
        refine xZ.adv (me := xm181) hP_181 3 (pc' := 83) (lv' := [(8, .int x1), (0, .ref v0), (1, .int v1), (3, .int v3), (4, .int v4), (5, .int v5), (6, .int v6), (7, .int v7)]) (st' := [.int v6, .int x1]) rfl ?_
        refine xZ.ic_ne (me := xm181) hP_181 rfl (fun h3 => ?_) (fun h3 => ?_)
        · skip
          refine xZ.adv (me := xm181) hP_181 1 (pc' := 88) (lv' := [(8, .int x1), (0, .ref v0), (1, .int v1), (3, .int v3), (4, .int v4), (5, .int v5), (6, .int v6), (7, .int v7)]) (st' := [.int v5]) rfl ?_
          refine xZ.if_eq (me := xm181) hP_181 rfl (fun h4 => ?_) (fun h4 => ?_)
          · skip
            exact xZ.sub (xsc (.tail _ (.head _)) (xsc (.tail _ (.tail _ (.head _))) (xsc (.tail _ (.tail _ (.tail _ (.head _)))) (xsc (.tail _ (.tail _ (.tail _ (.tail _ (.head _))))) (xsc (.tail _ (.tail _ (.tail _ (.tail _ (.tail _ (.head _)))))) (xsc (.tail _ (.tail _ (.tail _ (.tail _ (.tail _ (.tail _ (.head _))))))) (xsc (.tail _ (.tail _ (.tail _ (.tail _ (.tail _ (.tail _ (.tail _ (.head _)))))))) (xsc (.head _) xsn)))))))) (show ([8, 0, 1, 3, 4, 5, 6, 7] : List Nat).Nodup from by decide) (k_f_Calendarhall_freeNext_103 O f d (f_Calendarhall_freeNext_52 O f n) ih v0 v1 v3 v4 v5 v6 v7 x1 M1)
          · skip
            refine xZ.adv (me := xm181) hP_181 5 (pc' := 98) (lv' := [(8, .int x1), (0, .ref v0), (1, .int v1), (3, .int v3), (4, .int v4), (5, .int v5), (6, .int v6), (7, .int v7)]) (st' := [.int v3, .int v4, .int v6, .int v1, .ref v0]) rfl ?_
            refine xZ.callv (κ := oI) (av := [.int v1, .int v6, .int v4, .int v3]) (rest := []) (st' := fun x2 => [.int x2]) (k0 := v0) (me := xm181) hP_181 rfl (Or.inl rfl) ⟨rfl, by decide⟩ rfl rfl (Nat.le_of_ble_eq_true rfl) (by decide) hP_183 (Nat.le_of_ble_eq_true rfl) (fun _ => rfl) (k_f_Calendarhall_behindIdle O f (d + 1) v0 v1 v6 v4 v3 M1) (fun x2 M2 => ?_)
            refine xZ.adv (me := xm181) hP_181 1 (pc' := 103) (lv' := [(8, .int x2), (0, .ref v0), (1, .int v1), (3, .int v3), (4, .int v4), (5, .int v5), (6, .int v6), (7, .int v7)]) (st' := []) rfl ?_
            exact xZ.sub (xsc (.tail _ (.head _)) (xsc (.tail _ (.tail _ (.head _))) (xsc (.tail _ (.tail _ (.tail _ (.head _)))) (xsc (.tail _ (.tail _ (.tail _ (.tail _ (.head _))))) (xsc (.tail _ (.tail _ (.tail _ (.tail _ (.tail _ (.head _)))))) (xsc (.tail _ (.tail _ (.tail _ (.tail _ (.tail _ (.tail _ (.head _))))))) (xsc (.tail _ (.tail _ (.tail _ (.tail _ (.tail _ (.tail _ (.tail _ (.head _)))))))) (xsc (.head _) xsn)))))))) (show ([8, 0, 1, 3, 4, 5, 6, 7] : List Nat).Nodup from by decide) (k_f_Calendarhall_freeNext_103 O f d (f_Calendarhall_freeNext_52 O f n) ih v0 v1 v3 v4 v5 v6 v7 x2 M2)
        · skip
          exact xZ.sub (xsc (.tail _ (.head _)) (xsc (.tail _ (.tail _ (.head _))) (xsc (.tail _ (.tail _ (.tail _ (.head _)))) (xsc (.tail _ (.tail _ (.tail _ (.tail _ (.head _))))) (xsc (.tail _ (.tail _ (.tail _ (.tail _ (.tail _ (.head _)))))) (xsc (.tail _ (.tail _ (.tail _ (.tail _ (.tail _ (.tail _ (.head _))))))) (xsc (.tail _ (.tail _ (.tail _ (.tail _ (.tail _ (.tail _ (.tail _ (.head _)))))))) (xsc (.head _) xsn)))))))) (show ([8, 0, 1, 3, 4, 5, 6, 7] : List Nat).Nodup from by decide) (k_f_Calendarhall_freeNext_103 O f d (f_Calendarhall_freeNext_52 O f n) ih v0 v1 v3 v4 v5 v6 v7 x1 M1)
def f_Calendarhall_freeNext (O : Nat → Option va_E) (f : Nat) (v0 : Nat) (v1 : Int32) (v2 : Int32) (v3 : Int32) (v4 : Int32) (v5 : Int32) (M : xM) : Option (Int32 × xM) :=
  xcl (f_Calendarhall_needRange O f v1 (1 : Int32) (255 : Int32) M) fun _ M1 =>
  xcl (f_Calendarhall_needPiece O f v2 v3 (20160 : Int32) M1) fun _ M2 =>
  xcl (f_Calendarhall_needRange O f v4 (1 : Int32) (600 : Int32) M2) fun _ M3 =>
  (gR O M3 v0 12 0).bind fun x4 =>
  (gR O M3 v0 12 4).bind fun x5 =>
  (gR O M3 v0 12 0).bind fun x6 =>
  (isO O M3 x6 4).bind fun _ =>
  xcl (f_Hall_seriesOf O f x6 v1 M3) fun x7 M4 =>
  (isO O M4 x4 4).bind fun _ =>
  xcl (f_Hall_collectOn O f x4 x5 x7 v2 v3 M4) fun _ M5 =>
  f_Calendarhall_freeNext_52 O f f v0 v1 v3 v4 v5 v2 (0 : Int32) M5
set_option maxRecDepth 20000 in
theorem k_f_Calendarhall_freeNext (O : Nat → Option va_E) (f d : Nat) (v0 : Nat) (v1 : Int32) (v2 : Int32) (v3 : Int32) (v4 : Int32) (v5 : Int32) (M : xM) : xZ oI O (d + 7) 181 0 [(0, .ref v0), (1, .int v1), (2, .int v2), (3, .int v3), (4, .int v4), (5, .int v5)] [] M (f_Calendarhall_freeNext O f v0 v1 v2 v3 v4 v5 M) := by
  unfold f_Calendarhall_freeNext
  refine xZ.adv (me := xm181) hP_181 3 (pc' := 5) (lv' := [(0, .ref v0), (1, .int v1), (2, .int v2), (3, .int v3), (4, .int v4), (5, .int v5)]) (st' := [.int (255 : Int32), .int (1 : Int32), .int v1]) rfl ?_
  refine xZ.calls (κ := oU) (av := [.int v1, .int (1 : Int32), .int (255 : Int32)]) (rest := []) (st' := fun _ => []) (me := xm181) hP_181 rfl rfl rfl (Nat.le_of_ble_eq_true rfl) (by decide) hP_22 (Nat.le_of_ble_eq_true rfl) (fun _ => rfl) (k_f_Calendarhall_needRange O f (d + 6) v1 (1 : Int32) (255 : Int32) M) (fun _ M1 => ?_)
  refine xZ.adv (me := xm181) hP_181 3 (pc' := 13) (lv' := [(0, .ref v0), (1, .int v1), (2, .int v2), (3, .int v3), (4, .int v4), (5, .int v5)]) (st' := [.int (20160 : Int32), .int v3, .int v2]) rfl ?_
  refine xZ.calls (κ := oU) (av := [.int v2, .int v3, .int (20160 : Int32)]) (rest := []) (st' := fun _ => []) (me := xm181) hP_181 rfl rfl rfl (Nat.le_of_ble_eq_true rfl) (by decide) hP_114 (Nat.le_of_ble_eq_true rfl) (fun _ => rfl) (k_f_Calendarhall_needPiece O f (d + 5) v2 v3 (20160 : Int32) M1) (fun _ M2 => ?_)
  refine xZ.adv (me := xm181) hP_181 3 (pc' := 22) (lv' := [(0, .ref v0), (1, .int v1), (2, .int v2), (3, .int v3), (4, .int v4), (5, .int v5)]) (st' := [.int (600 : Int32), .int (1 : Int32), .int v4]) rfl ?_
  refine xZ.calls (κ := oU) (av := [.int v4, .int (1 : Int32), .int (600 : Int32)]) (rest := []) (st' := fun _ => []) (me := xm181) hP_181 rfl rfl rfl (Nat.le_of_ble_eq_true rfl) (by decide) hP_22 (Nat.le_of_ble_eq_true rfl) (fun _ => rfl) (k_f_Calendarhall_needRange O f (d + 6) v4 (1 : Int32) (600 : Int32) M2) (fun _ M3 => ?_)
  refine xZ.adv (me := xm181) hP_181 1 (pc' := 26) (lv' := [(0, .ref v0), (1, .int v1), (2, .int v2), (3, .int v3), (4, .int v4), (5, .int v5)]) (st' := [.ref v0]) rfl ?_
  refine xZ.k_gR (me := xm181) hP_181 rfl (fun x4 => ?_)
  refine xZ.adv (me := xm181) hP_181 1 (pc' := 30) (lv' := [(0, .ref v0), (1, .int v1), (2, .int v2), (3, .int v3), (4, .int v4), (5, .int v5)]) (st' := [.ref v0, .ref x4]) rfl ?_
  refine xZ.k_gR (me := xm181) hP_181 rfl (fun x5 => ?_)
  refine xZ.adv (me := xm181) hP_181 1 (pc' := 34) (lv' := [(0, .ref v0), (1, .int v1), (2, .int v2), (3, .int v3), (4, .int v4), (5, .int v5)]) (st' := [.ref v0, .ref x5, .ref x4]) rfl ?_
  refine xZ.k_gR (me := xm181) hP_181 rfl (fun x6 => ?_)
  refine xZ.adv (me := xm181) hP_181 1 (pc' := 38) (lv' := [(0, .ref v0), (1, .int v1), (2, .int v2), (3, .int v3), (4, .int v4), (5, .int v5)]) (st' := [.int v1, .ref x6, .ref x5, .ref x4]) rfl ?_
  refine xZ.callv (κ := oI) (av := [.int v1]) (rest := [.ref x5, .ref x4]) (st' := fun x7 => [.int x7, .ref x5, .ref x4]) (k0 := x6) (me := xm181) hP_181 rfl (Or.inl rfl) ⟨rfl, by decide⟩ rfl rfl (Nat.le_of_ble_eq_true rfl) (by decide) hP_158 (Nat.le_of_ble_eq_true rfl) (fun _ => rfl) (k_f_Hall_seriesOf O f (d + 5) x6 v1 M3) (fun x7 M4 => ?_)
  refine xZ.adv (me := xm181) hP_181 2 (pc' := 43) (lv' := [(0, .ref v0), (1, .int v1), (2, .int v2), (3, .int v3), (4, .int v4), (5, .int v5)]) (st' := [.int v3, .int v2, .int x7, .ref x5, .ref x4]) rfl ?_
  refine xZ.callv (κ := oU) (av := [.ref x5, .int x7, .int v2, .int v3]) (rest := []) (st' := fun _ => []) (k0 := x4) (me := xm181) hP_181 rfl (Or.inl rfl) ⟨rfl, by decide⟩ rfl rfl (Nat.le_of_ble_eq_true rfl) (by decide) hP_162 (Nat.le_of_ble_eq_true rfl) (fun _ => rfl) (k_f_Hall_collectOn O f (d + 0) x4 x5 x7 v2 v3 M4) (fun _ M5 => ?_)
  refine xZ.adv (me := xm181) hP_181 4 (pc' := 52) (lv' := [(7, .int (0 : Int32)), (6, .int v2), (0, .ref v0), (1, .int v1), (2, .int v2), (3, .int v3), (4, .int v4), (5, .int v5)]) (st' := []) rfl ?_
  exact xZ.sub (xsc (.tail _ (.tail _ (.head _))) (xsc (.tail _ (.tail _ (.tail _ (.head _)))) (xsc (.tail _ (.tail _ (.tail _ (.tail _ (.tail _ (.head _)))))) (xsc (.tail _ (.tail _ (.tail _ (.tail _ (.tail _ (.tail _ (.head _))))))) (xsc (.tail _ (.tail _ (.tail _ (.tail _ (.tail _ (.tail _ (.tail _ (.head _)))))))) (xsc (.tail _ (.head _)) (xsc (.head _) xsn))))))) (show ([7, 6, 0, 1, 2, 3, 4, 5] : List Nat).Nodup from by decide) (k_f_Calendarhall_freeNext_52 O f d f v0 v1 v3 v4 v5 v2 (0 : Int32) M5)
def f_Calendarhall_addCosts_112 (O : Nat → Option va_E) (f : Nat) (K28 : Nat → Nat → Int32 → Int32 → Int32 → Int32 → Nat → Int32 → Int32 → Int32 → Int32 → Int32 → xM → Option (Unit × xM)) (v0 : Nat) (v1 : Nat) (v2 : Int32) (v3 : Int32) (v4 : Int32) (v5 : Int32) (v6 : Nat) (v7 : Int32) (v8 : Int32) (v9 : Int32) (v10 : Int32) (v11 : Int32) (v12 : Int32) (M : xM) : Option (Unit × xM) :=
  if (v12 + v4) ≤ v7 then (
    if (v12 + v4) ≤ v9 then (
      K28 v0 v1 v2 v3 v4 v5 v6 v7 v8 v9 v10 (v11 + (1 : Int32)) M
    ) else
    (gR O M v0 12 9).bind fun x1 =>
    (aI O M x1 v11).bind fun x2 =>
    (wI M x1 v11 (x2 + (1 : Int32))).bind fun M1 =>
    K28 v0 v1 v2 v3 v4 v5 v6 v7 v8 v9 v10 (v11 + (1 : Int32)) M1
  ) else
  (gR O M v0 12 9).bind fun x3 =>
  (aI O M x3 v11).bind fun x4 =>
  (wI M x3 v11 (x4 + (3 : Int32))).bind fun M2 =>
  K28 v0 v1 v2 v3 v4 v5 v6 v7 v8 v9 v10 (v11 + (1 : Int32)) M2
set_option maxRecDepth 20000 in
theorem k_f_Calendarhall_addCosts_112 (O : Nat → Option va_E) (f d : Nat) (K28 : Nat → Nat → Int32 → Int32 → Int32 → Int32 → Nat → Int32 → Int32 → Int32 → Int32 → Int32 → xM → Option (Unit × xM)) (hK28 : ∀ (v0 : Nat) (v1 : Nat) (v2 : Int32) (v3 : Int32) (v4 : Int32) (v5 : Int32) (v6 : Nat) (v7 : Int32) (v8 : Int32) (v9 : Int32) (v10 : Int32) (v11 : Int32) M, xZ oU O (d + 5) 185 28 [(0, .ref v0), (1, .ref v1), (2, .int v2), (3, .int v3), (4, .int v4), (5, .int v5), (6, .ref v6), (7, .int v7), (8, .int v8), (9, .int v9), (10, .int v10), (11, .int v11)] [] M (K28 v0 v1 v2 v3 v4 v5 v6 v7 v8 v9 v10 v11 M)) (v0 : Nat) (v1 : Nat) (v2 : Int32) (v3 : Int32) (v4 : Int32) (v5 : Int32) (v6 : Nat) (v7 : Int32) (v8 : Int32) (v9 : Int32) (v10 : Int32) (v11 : Int32) (v12 : Int32) (M : xM) : xZ oU O (d + 5) 185 112 [(0, .ref v0), (1, .ref v1), (2, .int v2), (3, .int v3), (4, .int v4), (5, .int v5), (6, .ref v6), (7, .int v7), (8, .int v8), (9, .int v9), (10, .int v10), (11, .int v11), (12, .int v12)] [] M (f_Calendarhall_addCosts_112 O f K28 v0 v1 v2 v3 v4 v5 v6 v7 v8 v9 v10 v11 v12 M) := by
  unfold f_Calendarhall_addCosts_112
  refine xZ.adv (me := xm185) hP_185 4 (pc' := 119) (lv' := [(0, .ref v0), (1, .ref v1), (2, .int v2), (3, .int v3), (4, .int v4), (5, .int v5), (6, .ref v6), (7, .int v7), (8, .int v8), (9, .int v9), (10, .int v10), (11, .int v11), (12, .int v12)]) (st' := [.int (v12 + v4), .int v7]) rfl ?_
  refine xZ.ic_ge (me := xm185) hP_185 rfl (fun h1 => ?_) (fun h1 => ?_)
  · skip
    refine xZ.adv (me := xm185) hP_185 4 (pc' := 143) (lv' := [(0, .ref v0), (1, .ref v1), (2, .int v2), (3, .int v3), (4, .int v4), (5, .int v5), (6, .ref v6), (7, .int v7), (8, .int v8), (9, .int v9), (10, .int v10), (11, .int v11), (12, .int v12)]) (st' := [.int (v12 + v4), .int v9]) rfl ?_
    refine xZ.ic_ge (me := xm185) hP_185 rfl (fun h2 => ?_) (fun h2 => ?_)
    · skip
      refine xZ.adv (me := xm185) hP_185 2 (pc' := 28) (lv' := [(11, .int (v11 + (1 : Int32))), (0, .ref v0), (1, .ref v1), (2, .int v2), (3, .int v3), (4, .int v4), (5, .int v5), (6, .ref v6), (7, .int v7), (8, .int v8), (9, .int v9), (10, .int v10), (12, .int v12)]) (st' := []) rfl ?_
      exact xZ.sub (xsc (.tail _ (.head _)) (xsc (.tail _ (.tail _ (.head _))) (xsc (.tail _ (.tail _ (.tail _ (.head _)))) (xsc (.tail _ (.tail _ (.tail _ (.tail _ (.head _))))) (xsc (.tail _ (.tail _ (.tail _ (.tail _ (.tail _ (.head _)))))) (xsc (.tail _ (.tail _ (.tail _ (.tail _ (.tail _ (.tail _ (.head _))))))) (xsc (.tail _ (.tail _ (.tail _ (.tail _ (.tail _ (.tail _ (.tail _ (.head _)))))))) (xsc (.tail _ (.tail _ (.tail _ (.tail _ (.tail _ (.tail _ (.tail _ (.tail _ (.head _))))))))) (xsc (.tail _ (.tail _ (.tail _ (.tail _ (.tail _ (.tail _ (.tail _ (.tail _ (.tail _ (.head _)))))))))) (xsc (.tail _ (.tail _ (.tail _ (.tail _ (.tail _ (.tail _ (.tail _ (.tail _ (.tail _ (.tail _ (.head _))))))))))) (xsc (.tail _ (.tail _ (.tail _ (.tail _ (.tail _ (.tail _ (.tail _ (.tail _ (.tail _ (.tail _ (.tail _ (.head _)))))))))))) (xsc (.head _) xsn)))))))))))) (show ([11, 0, 1, 2, 3, 4, 5, 6, 7, 8, 9, 10, 12] : List Nat).Nodup from by decide) (hK28 v0 v1 v2 v3 v4 v5 v6 v7 v8 v9 v10 (v11 + (1 : Int32)) M)
    · skip
      refine xZ.adv (me := xm185) hP_185 1 (pc' := 147) (lv' := [(0, .ref v0), (1, .ref v1), (2, .int v2), (3, .int v3), (4, .int v4), (5, .int v5), (6, .ref v6), (7, .int v7), (8, .int v8), (9, .int v9), (10, .int v10), (11, .int v11), (12, .int v12)]) (st' := [.ref v0]) rfl ?_
      refine xZ.k_gR (me := xm185) hP_185 rfl (fun x1 => ?_)
      refine xZ.adv (me := xm185) hP_185 2 (pc' := 153) (lv' := [(0, .ref v0), (1, .ref v1), (2, .int v2), (3, .int v3), (4, .int v4), (5, .int v5), (6, .ref v6), (7, .int v7), (8, .int v8), (9, .int v9), (10, .int v10), (11, .int v11), (12, .int v12)]) (st' := [.int v11, .ref x1, .int v11, .ref x1]) rfl ?_
      refine xZ.k_aI (me := xm185) hP_185 rfl (fun x2 => ?_)
      refine xZ.adv (me := xm185) hP_185 2 (pc' := 156) (lv' := [(0, .ref v0), (1, .ref v1), (2, .int v2), (3, .int v3), (4, .int v4), (5, .int v5), (6, .ref v6), (7, .int v7), (8, .int v8), (9, .int v9), (10, .int v10), (11, .int v11), (12, .int v12)]) (st' := [.int (x2 + (1 : Int32)), .int v11, .ref x1]) rfl ?_
      refine xZ.k_wI (me := xm185) hP_185 rfl (fun M1 => ?_)
      refine xZ.adv (me := xm185) hP_185 2 (pc' := 28) (lv' := [(11, .int (v11 + (1 : Int32))), (0, .ref v0), (1, .ref v1), (2, .int v2), (3, .int v3), (4, .int v4), (5, .int v5), (6, .ref v6), (7, .int v7), (8, .int v8), (9, .int v9), (10, .int v10), (12, .int v12)]) (st' := []) rfl ?_
      exact xZ.sub (xsc (.tail _ (.head _)) (xsc (.tail _ (.tail _ (.head _))) (xsc (.tail _ (.tail _ (.tail _ (.head _)))) (xsc (.tail _ (.tail _ (.tail _ (.tail _ (.head _))))) (xsc (.tail _ (.tail _ (.tail _ (.tail _ (.tail _ (.head _)))))) (xsc (.tail _ (.tail _ (.tail _ (.tail _ (.tail _ (.tail _ (.head _))))))) (xsc (.tail _ (.tail _ (.tail _ (.tail _ (.tail _ (.tail _ (.tail _ (.head _)))))))) (xsc (.tail _ (.tail _ (.tail _ (.tail _ (.tail _ (.tail _ (.tail _ (.tail _ (.head _))))))))) (xsc (.tail _ (.tail _ (.tail _ (.tail _ (.tail _ (.tail _ (.tail _ (.tail _ (.tail _ (.head _)))))))))) (xsc (.tail _ (.tail _ (.tail _ (.tail _ (.tail _ (.tail _ (.tail _ (.tail _ (.tail _ (.tail _ (.head _))))))))))) (xsc (.tail _ (.tail _ (.tail _ (.tail _ (.tail _ (.tail _ (.tail _ (.tail _ (.tail _ (.tail _ (.tail _ (.head _)))))))))))) (xsc (.head _) xsn)))))))))))) (show ([11, 0, 1, 2, 3, 4, 5, 6, 7, 8, 9, 10, 12] : List Nat).Nodup from by decide) (hK28 v0 v1 v2 v3 v4 v5 v6 v7 v8 v9 v10 (v11 + (1 : Int32)) M1)
  · skip
    refine xZ.adv (me := xm185) hP_185 1 (pc' := 123) (lv' := [(0, .ref v0), (1, .ref v1), (2, .int v2), (3, .int v3), (4, .int v4), (5, .int v5), (6, .ref v6), (7, .int v7), (8, .int v8), (9, .int v9), (10, .int v10), (11, .int v11), (12, .int v12)]) (st' := [.ref v0]) rfl ?_
    refine xZ.k_gR (me := xm185) hP_185 rfl (fun x3 => ?_)
    refine xZ.adv (me := xm185) hP_185 2 (pc' := 129) (lv' := [(0, .ref v0), (1, .ref v1), (2, .int v2), (3, .int v3), (4, .int v4), (5, .int v5), (6, .ref v6), (7, .int v7), (8, .int v8), (9, .int v9), (10, .int v10), (11, .int v11), (12, .int v12)]) (st' := [.int v11, .ref x3, .int v11, .ref x3]) rfl ?_
    refine xZ.k_aI (me := xm185) hP_185 rfl (fun x4 => ?_)
    refine xZ.adv (me := xm185) hP_185 2 (pc' := 132) (lv' := [(0, .ref v0), (1, .ref v1), (2, .int v2), (3, .int v3), (4, .int v4), (5, .int v5), (6, .ref v6), (7, .int v7), (8, .int v8), (9, .int v9), (10, .int v10), (11, .int v11), (12, .int v12)]) (st' := [.int (x4 + (3 : Int32)), .int v11, .ref x3]) rfl ?_
    refine xZ.k_wI (me := xm185) hP_185 rfl (fun M2 => ?_)
    refine xZ.adv (me := xm185) hP_185 3 (pc' := 28) (lv' := [(11, .int (v11 + (1 : Int32))), (0, .ref v0), (1, .ref v1), (2, .int v2), (3, .int v3), (4, .int v4), (5, .int v5), (6, .ref v6), (7, .int v7), (8, .int v8), (9, .int v9), (10, .int v10), (12, .int v12)]) (st' := []) rfl ?_
    exact xZ.sub (xsc (.tail _ (.head _)) (xsc (.tail _ (.tail _ (.head _))) (xsc (.tail _ (.tail _ (.tail _ (.head _)))) (xsc (.tail _ (.tail _ (.tail _ (.tail _ (.head _))))) (xsc (.tail _ (.tail _ (.tail _ (.tail _ (.tail _ (.head _)))))) (xsc (.tail _ (.tail _ (.tail _ (.tail _ (.tail _ (.tail _ (.head _))))))) (xsc (.tail _ (.tail _ (.tail _ (.tail _ (.tail _ (.tail _ (.tail _ (.head _)))))))) (xsc (.tail _ (.tail _ (.tail _ (.tail _ (.tail _ (.tail _ (.tail _ (.tail _ (.head _))))))))) (xsc (.tail _ (.tail _ (.tail _ (.tail _ (.tail _ (.tail _ (.tail _ (.tail _ (.tail _ (.head _)))))))))) (xsc (.tail _ (.tail _ (.tail _ (.tail _ (.tail _ (.tail _ (.tail _ (.tail _ (.tail _ (.tail _ (.head _))))))))))) (xsc (.tail _ (.tail _ (.tail _ (.tail _ (.tail _ (.tail _ (.tail _ (.tail _ (.tail _ (.tail _ (.tail _ (.head _)))))))))))) (xsc (.head _) xsn)))))))))))) (show ([11, 0, 1, 2, 3, 4, 5, 6, 7, 8, 9, 10, 12] : List Nat).Nodup from by decide) (hK28 v0 v1 v2 v3 v4 v5 v6 v7 v8 v9 v10 (v11 + (1 : Int32)) M2)
def f_Calendarhall_addCosts_83 (O : Nat → Option va_E) (f : Nat) (K28 : Nat → Nat → Int32 → Int32 → Int32 → Int32 → Nat → Int32 → Int32 → Int32 → Int32 → Int32 → xM → Option (Unit × xM)) (v0 : Nat) (v1 : Nat) (v2 : Int32) (v3 : Int32) (v4 : Int32) (v5 : Int32) (v6 : Nat) (v7 : Int32) (v8 : Int32) (v9 : Int32) (v10 : Int32) (v11 : Int32) (v12 : Int32) (M : xM) : Option (Unit × xM) :=
  if v12 < v10 then (
    f_Calendarhall_addCosts_112 O f K28 v0 v1 v2 v3 v4 v5 v6 v7 v8 v9 v10 v11 v12 M
  ) else
  (isO O M v1 6).bind fun _ =>
  xcl (f_Person_idleFrom O f v1 v6 v12 v3 M) fun x1 M1 =>
  (isO O M1 v1 6).bind fun _ =>
  xcl (f_Person_workFrom O f v1 v6 x1 v3 M1) fun x2 M2 =>
  f_Calendarhall_addCosts_112 O f K28 v0 v1 v2 v3 v4 v5 v6 v7 v8 x1 x2 v11 v12 M2
set_option maxRecDepth 20000 in
theorem k_f_Calendarhall_addCosts_83 (O : Nat → Option va_E) (f d : Nat) (K28 : Nat → Nat → Int32 → Int32 → Int32 → Int32 → Nat → Int32 → Int32 → Int32 → Int32 → Int32 → xM → Option (Unit × xM)) (hK28 : ∀ (v0 : Nat) (v1 : Nat) (v2 : Int32) (v3 : Int32) (v4 : Int32) (v5 : Int32) (v6 : Nat) (v7 : Int32) (v8 : Int32) (v9 : Int32) (v10 : Int32) (v11 : Int32) M, xZ oU O (d + 5) 185 28 [(0, .ref v0), (1, .ref v1), (2, .int v2), (3, .int v3), (4, .int v4), (5, .int v5), (6, .ref v6), (7, .int v7), (8, .int v8), (9, .int v9), (10, .int v10), (11, .int v11)] [] M (K28 v0 v1 v2 v3 v4 v5 v6 v7 v8 v9 v10 v11 M)) (v0 : Nat) (v1 : Nat) (v2 : Int32) (v3 : Int32) (v4 : Int32) (v5 : Int32) (v6 : Nat) (v7 : Int32) (v8 : Int32) (v9 : Int32) (v10 : Int32) (v11 : Int32) (v12 : Int32) (M : xM) : xZ oU O (d + 5) 185 83 [(0, .ref v0), (1, .ref v1), (2, .int v2), (3, .int v3), (4, .int v4), (5, .int v5), (6, .ref v6), (7, .int v7), (8, .int v8), (9, .int v9), (10, .int v10), (11, .int v11), (12, .int v12)] [] M (f_Calendarhall_addCosts_83 O f K28 v0 v1 v2 v3 v4 v5 v6 v7 v8 v9 v10 v11 v12 M) := by
  unfold f_Calendarhall_addCosts_83
  refine xZ.adv (me := xm185) hP_185 2 (pc' := 87) (lv' := [(0, .ref v0), (1, .ref v1), (2, .int v2), (3, .int v3), (4, .int v4), (5, .int v5), (6, .ref v6), (7, .int v7), (8, .int v8), (9, .int v9), (10, .int v10), (11, .int v11), (12, .int v12)]) (st' := [.int v12, .int v10]) rfl ?_
  refine xZ.ic_gt (me := xm185) hP_185 rfl (fun h1 => ?_) (fun h1 => ?_)
  · skip
    exact (k_f_Calendarhall_addCosts_112 O f d K28 hK28 v0 v1 v2 v3 v4 v5 v6 v7 v8 v9 v10 v11 v12 M)
  · skip
    refine xZ.adv (me := xm185) hP_185 4 (pc' := 96) (lv' := [(0, .ref v0), (1, .ref v1), (2, .int v2), (3, .int v3), (4, .int v4), (5, .int v5), (6, .ref v6), (7, .int v7), (8, .int v8), (9, .int v9), (10, .int v10), (11, .int v11), (12, .int v12)]) (st' := [.int v3, .int v12, .ref v6, .ref v1]) rfl ?_
    refine xZ.callv (κ := oI) (av := [.ref v6, .int v12, .int v3]) (rest := []) (st' := fun x1 => [.int x1]) (k0 := v1) (me := xm185) hP_185 rfl (Or.inl rfl) ⟨rfl, by decide⟩ rfl rfl (Nat.le_of_ble_eq_true rfl) (by decide) hP_179 (Nat.le_of_ble_eq_true rfl) (fun _ => rfl) (k_f_Person_idleFrom O f (d + 0) v1 v6 v12 v3 M) (fun x1 M1 => ?_)
    refine xZ.adv (me := xm185) hP_185 5 (pc' := 107) (lv' := [(9, .int x1), (0, .ref v0), (1, .ref v1), (2, .int v2), (3, .int v3), (4, .int v4), (5, .int v5), (6, .ref v6), (7, .int v7), (8, .int v8), (10, .int v10), (11, .int v11), (12, .int v12)]) (st' := [.int v3, .int x1, .ref v6, .ref v1]) rfl ?_
    refine xZ.callv (κ := oI) (av := [.ref v6, .int x1, .int v3]) (rest := []) (st' := fun x2 => [.int x2]) (k0 := v1) (me := xm185) hP_185 rfl (Or.inl rfl) ⟨rfl, by decide⟩ rfl rfl (Nat.le_of_ble_eq_true rfl) (by decide) hP_175 (Nat.le_of_ble_eq_true rfl) (fun _ => rfl) (k_f_Person_workFrom O f (d + 0) v1 v6 x1 v3 M1) (fun x2 M2 => ?_)
    refine xZ.adv (me := xm185) hP_185 1 (pc' := 112) (lv' := [(10, .int x2), (9, .int x1), (0, .ref v0), (1, .ref v1), (2, .int v2), (3, .int v3), (4, .int v4), (5, .int v5), (6, .ref v6), (7, .int v7), (8, .int v8), (11, .int v11), (12, .int v12)]) (st' := []) rfl ?_
    exact xZ.sub (xsc (.tail _ (.tail _ (.head _))) (xsc (.tail _ (.tail _ (.tail _ (.head _)))) (xsc (.tail _ (.tail _ (.tail _ (.tail _ (.head _))))) (xsc (.tail _ (.tail _ (.tail _ (.tail _ (.tail _ (.head _)))))) (xsc (.tail _ (.tail _ (.tail _ (.tail _ (.tail _ (.tail _ (.head _))))))) (xsc (.tail _ (.tail _ (.tail _ (.tail _ (.tail _ (.tail _ (.tail _ (.head _)))))))) (xsc (.tail _ (.tail _ (.tail _ (.tail _ (.tail _ (.tail _ (.tail _ (.tail _ (.head _))))))))) (xsc (.tail _ (.tail _ (.tail _ (.tail _ (.tail _ (.tail _ (.tail _ (.tail _ (.tail _ (.head _)))))))))) (xsc (.tail _ (.tail _ (.tail _ (.tail _ (.tail _ (.tail _ (.tail _ (.tail _ (.tail _ (.tail _ (.head _))))))))))) (xsc (.tail _ (.head _)) (xsc (.head _) (xsc (.tail _ (.tail _ (.tail _ (.tail _ (.tail _ (.tail _ (.tail _ (.tail _ (.tail _ (.tail _ (.tail _ (.head _)))))))))))) (xsc (.tail _ (.tail _ (.tail _ (.tail _ (.tail _ (.tail _ (.tail _ (.tail _ (.tail _ (.tail _ (.tail _ (.tail _ (.head _))))))))))))) xsn))))))))))))) (show ([10, 9, 0, 1, 2, 3, 4, 5, 6, 7, 8, 11, 12] : List Nat).Nodup from by decide) (k_f_Calendarhall_addCosts_112 O f d K28 hK28 v0 v1 v2 v3 v4 v5 v6 v7 v8 x1 x2 v11 v12 M2)
def f_Calendarhall_addCosts_28 (O : Nat → Option va_E) (f : Nat) : Nat → Nat → Nat → Int32 → Int32 → Int32 → Int32 → Nat → Int32 → Int32 → Int32 → Int32 → Int32 → xM → Option (Unit × xM)
  | 0, _, _, _, _, _, _, _, _, _, _, _, _, _ => none
  | n + 1, v0, v1, v2, v3, v4, v5, v6, v7, v8, v9, v10, v11, M =>
    if v5 ≤ v11 then (
      some ((), M)
    ) else
    (gR O M v0 12 9).bind fun x1 =>
    (aN O M x1).bind fun x2 =>
    if x2 ≤ v11 then (
      some ((), M)
    ) else
    if (v2 + ((15 : Int32) * v11)) < v8 then (
      f_Calendarhall_addCosts_83 O f (f_Calendarhall_addCosts_28 O f n) v0 v1 v2 v3 v4 v5 v6 v7 v8 v9 v10 v11 (v2 + ((15 : Int32) * v11)) M
    ) else
    (gR O M v0 12 4).bind fun x3 =>
    (isO O M x3 2).bind fun _ =>
    xcl (f_Dates_onFrom O f x3 (v2 + ((15 : Int32) * v11)) M) fun x4 M1 =>
    (gR O M1 v0 12 4).bind fun x5 =>
    (isO O M1 x5 2).bind fun _ =>
    xcl (f_Dates_offFrom O f x5 x4 M1) fun x6 M2 =>
    f_Calendarhall_addCosts_83 O f (f_Calendarhall_addCosts_28 O f n) v0 v1 v2 v3 v4 v5 v6 x4 x6 v9 v10 v11 (v2 + ((15 : Int32) * v11)) M2
set_option maxRecDepth 20000 in
theorem k_f_Calendarhall_addCosts_28 (O : Nat → Option va_E) (f d : Nat) : ∀ (n : Nat) (v0 : Nat) (v1 : Nat) (v2 : Int32) (v3 : Int32) (v4 : Int32) (v5 : Int32) (v6 : Nat) (v7 : Int32) (v8 : Int32) (v9 : Int32) (v10 : Int32) (v11 : Int32) (M : xM), xZ oU O (d + 5) 185 28 [(0, .ref v0), (1, .ref v1), (2, .int v2), (3, .int v3), (4, .int v4), (5, .int v5), (6, .ref v6), (7, .int v7), (8, .int v8), (9, .int v9), (10, .int v10), (11, .int v11)] [] M (f_Calendarhall_addCosts_28 O f n v0 v1 v2 v3 v4 v5 v6 v7 v8 v9 v10 v11 M) := by
  intro n
  induction n with
  | zero =>
    intro v0 v1 v2 v3 v4 v5 v6 v7 v8 v9 v10 v11 M
    exact xZ.no
  | succ n ih =>
    intro v0 v1 v2 v3 v4 v5 v6 v7 v8 v9 v10 v11 M
    unfold f_Calendarhall_addCosts_28
    refine xZ.adv (me := xm185) hP_185 2 (pc' := 32) (lv' := [(0, .ref v0), (1, .ref v1), (2, .int v2), (3, .int v3), (4, .int v4), (5, .int v5), (6, .ref v6), (7, .int v7), (8, .int v8), (9, .int v9), (10, .int v10), (11, .int v11)]) (st' := [.int v5, .int v11]) rfl ?_
    refine xZ.ic_ge (me := xm185) hP_185 rfl (fun h1 => ?_) (fun h1 => ?_)
    · skip
      exact xZ.retu (me := xm185) hP_185 rfl rfl
    · skip
      refine xZ.adv (me := xm185) hP_185 2 (pc' := 38) (lv' := [(0, .ref v0), (1, .ref v1), (2, .int v2), (3, .int v3), (4, .int v4), (5, .int v5), (6, .ref v6), (7, .int v7), (8, .int v8), (9, .int v9), (10, .int v10), (11, .int v11)]) (st' := [.ref v0, .int v11]) rfl ?_
      refine xZ.k_gR (me := xm185) hP_185 rfl (fun x1 => ?_)
      refine xZ.k_aN (me := xm185) hP_185 rfl (fun x2 => ?_)
      refine xZ.ic_ge (me := xm185) hP_185 rfl (fun h2 => ?_) (fun h2 => ?_)
      · skip
        exact xZ.retu (me := xm185) hP_185 rfl rfl
      · skip
        refine xZ.adv (me := xm185) hP_185 8 (pc' := 58) (lv' := [(12, .int (v2 + ((15 : Int32) * v11))), (0, .ref v0), (1, .ref v1), (2, .int v2), (3, .int v3), (4, .int v4), (5, .int v5), (6, .ref v6), (7, .int v7), (8, .int v8), (9, .int v9), (10, .int v10), (11, .int v11)]) (st' := [.int (v2 + ((15 : Int32) * v11)), .int v8]) rfl ?_
        refine xZ.ic_gt (me := xm185) hP_185 rfl (fun h3 => ?_) (fun h3 => ?_)
        · skip
          exact xZ.sub (xsc (.tail _ (.head _)) (xsc (.tail _ (.tail _ (.head _))) (xsc (.tail _ (.tail _ (.tail _ (.head _)))) (xsc (.tail _ (.tail _ (.tail _ (.tail _ (.head _))))) (xsc (.tail _ (.tail _ (.tail _ (.tail _ (.tail _ (.head _)))))) (xsc (.tail _ (.tail _ (.tail _ (.tail _ (.tail _ (.tail _ (.head _))))))) (xsc (.tail _ (.tail _ (.tail _ (.tail _ (.tail _ (.tail _ (.tail _ (.head _)))))))) (xsc (.tail _ (.tail _ (.tail _ (.tail _ (.tail _ (.tail _ (.tail _ (.tail _ (.head _))))))))) (xsc (.tail _ (.tail _ (.tail _ (.tail _ (.tail _ (.tail _ (.tail _ (.tail _ (.tail _ (.head _)))))))))) (xsc (.tail _ (.tail _ (.tail _ (.tail _ (.tail _ (.tail _ (.tail _ (.tail _ (.tail _ (.tail _ (.head _))))))))))) (xsc (.tail _ (.tail _ (.tail _ (.tail _ (.tail _ (.tail _ (.tail _ (.tail _ (.tail _ (.tail _ (.tail _ (.head _)))))))))))) (xsc (.tail _ (.tail _ (.tail _ (.tail _ (.tail _ (.tail _ (.tail _ (.tail _ (.tail _ (.tail _ (.tail _ (.tail _ (.head _))))))))))))) (xsc (.head _) xsn))))))))))))) (show ([12, 0, 1, 2, 3, 4, 5, 6, 7, 8, 9, 10, 11] : List Nat).Nodup from by decide) (k_f_Calendarhall_addCosts_83 O f d (f_Calendarhall_addCosts_28 O f n) ih v0 v1 v2 v3 v4 v5 v6 v7 v8 v9 v10 v11 (v2 + ((15 : Int32) * v11)) M)
        · skip
          refine xZ.adv (me := xm185) hP_185 1 (pc' := 62) (lv' := [(12, .int (v2 + ((15 : Int32) * v11))), (0, .ref v0), (1, .ref v1), (2, .int v2), (3, .int v3), (4, .int v4), (5, .int v5), (6, .ref v6), (7, .int v7), (8, .int v8), (9, .int v9), (10, .int v10), (11, .int v11)]) (st' := [.ref v0]) rfl ?_
          refine xZ.k_gR (me := xm185) hP_185 rfl (fun x3 => ?_)
          refine xZ.adv (me := xm185) hP_185 1 (pc' := 67) (lv' := [(12, .int (v2 + ((15 : Int32) * v11))), (0, .ref v0), (1, .ref v1), (2, .int v2), (3, .int v3), (4, .int v4), (5, .int v5), (6, .ref v6), (7, .int v7), (8, .int v8), (9, .int v9), (10, .int v10), (11, .int v11)]) (st' := [.int (v2 + ((15 : Int32) * v11)), .ref x3]) rfl ?_
          refine xZ.callv (κ := oI) (av := [.int (v2 + ((15 : Int32) * v11))]) (rest := []) (st' := fun x4 => [.int x4]) (k0 := x3) (me := xm185) hP_185 rfl (Or.inl rfl) ⟨rfl, by decide⟩ rfl rfl (Nat.le_of_ble_eq_true rfl) (by decide) hP_169 (Nat.le_of_ble_eq_true rfl) (fun _ => rfl) (k_f_Dates_onFrom O f (d + 1) x3 (v2 + ((15 : Int32) * v11)) M) (fun x4 M1 => ?_)
          refine xZ.adv (me := xm185) hP_185 2 (pc' := 73) (lv' := [(7, .int x4), (12, .int (v2 + ((15 : Int32) * v11))), (0, .ref v0), (1, .ref v1), (2, .int v2), (3, .int v3), (4, .int v4), (5, .int v5), (6, .ref v6), (8, .int v8), (9, .int v9), (10, .int v10), (11, .int v11)]) (st' := [.ref v0]) rfl ?_
          refine xZ.k_gR (me := xm185) hP_185 rfl (fun x5 => ?_)
          refine xZ.adv (me := xm185) hP_185 1 (pc' := 78) (lv' := [(7, .int x4), (12, .int (v2 + ((15 : Int32) * v11))), (0, .ref v0), (1, .ref v1), (2, .int v2), (3, .int v3), (4, .int v4), (5, .int v5), (6, .ref v6), (8, .int v8), (9, .int v9), (10, .int v10), (11, .int v11)]) (st' := [.int x4, .ref x5]) rfl ?_
          refine xZ.callv (κ := oI) (av := [.int x4]) (rest := []) (st' := fun x6 => [.int x6]) (k0 := x5) (me := xm185) hP_185 rfl (Or.inl rfl) ⟨rfl, by decide⟩ rfl rfl (Nat.le_of_ble_eq_true rfl) (by decide) hP_178 (Nat.le_of_ble_eq_true rfl) (fun _ => rfl) (k_f_Dates_offFrom O f (d + 1) x5 x4 M1) (fun x6 M2 => ?_)
          refine xZ.adv (me := xm185) hP_185 1 (pc' := 83) (lv' := [(8, .int x6), (7, .int x4), (12, .int (v2 + ((15 : Int32) * v11))), (0, .ref v0), (1, .ref v1), (2, .int v2), (3, .int v3), (4, .int v4), (5, .int v5), (6, .ref v6), (9, .int v9), (10, .int v10), (11, .int v11)]) (st' := []) rfl ?_
          exact xZ.sub (xsc (.tail _ (.tail _ (.tail _ (.head _)))) (xsc (.tail _ (.tail _ (.tail _ (.tail _ (.head _))))) (xsc (.tail _ (.tail _ (.tail _ (.tail _ (.tail _ (.head _)))))) (xsc (.tail _ (.tail _ (.tail _ (.tail _ (.tail _ (.tail _ (.head _))))))) (xsc (.tail _ (.tail _ (.tail _ (.tail _ (.tail _ (.tail _ (.tail _ (.head _)))))))) (xsc (.tail _ (.tail _ (.tail _ (.tail _ (.tail _ (.tail _ (.tail _ (.tail _ (.head _))))))))) (xsc (.tail _ (.tail _ (.tail _ (.tail _ (.tail _ (.tail _ (.tail _ (.tail _ (.tail _ (.head _)))))))))) (xsc (.tail _ (.head _)) (xsc (.head _) (xsc (.tail _ (.tail _ (.tail _ (.tail _ (.tail _ (.tail _ (.tail _ (.tail _ (.tail _ (.tail _ (.head _))))))))))) (xsc (.tail _ (.tail _ (.tail _ (.tail _ (.tail _ (.tail _ (.tail _ (.tail _ (.tail _ (.tail _ (.tail _ (.head _)))))))))))) (xsc (.tail _ (.tail _ (.tail _ (.tail _ (.tail _ (.tail _ (.tail _ (.tail _ (.tail _ (.tail _ (.tail _ (.tail _ (.head _))))))))))))) (xsc (.tail _ (.tail _ (.head _))) xsn))))))))))))) (show ([8, 7, 12, 0, 1, 2, 3, 4, 5, 6, 9, 10, 11] : List Nat).Nodup from by decide) (k_f_Calendarhall_addCosts_83 O f d (f_Calendarhall_addCosts_28 O f n) ih v0 v1 v2 v3 v4 v5 v6 x4 x6 v9 v10 v11 (v2 + ((15 : Int32) * v11)) M2)
def f_Calendarhall_addCosts (O : Nat → Option va_E) (f : Nat) (v0 : Nat) (v1 : Nat) (v2 : Int32) (v3 : Int32) (v4 : Int32) (v5 : Int32) (M : xM) : Option (Unit × xM) :=
  (gR O M v0 12 0).bind fun x1 =>
  (gI O M v1 6 0).bind fun x2 =>
  (isO O M x1 4).bind fun _ =>
  xcl (f_Hall_anyZone O f x1 x2 M) fun x3 M1 =>
  f_Calendarhall_addCosts_28 O f f v0 v1 v2 v3 v4 v5 x3 v2 v2 v2 v2 (0 : Int32) M1
set_option maxRecDepth 20000 in
theorem k_f_Calendarhall_addCosts (O : Nat → Option va_E) (f d : Nat) (v0 : Nat) (v1 : Nat) (v2 : Int32) (v3 : Int32) (v4 : Int32) (v5 : Int32) (M : xM) : xZ oU O (d + 5) 185 0 [(0, .ref v0), (1, .ref v1), (2, .int v2), (3, .int v3), (4, .int v4), (5, .int v5)] [] M (f_Calendarhall_addCosts O f v0 v1 v2 v3 v4 v5 M) := by
  unfold f_Calendarhall_addCosts
  refine xZ.adv (me := xm185) hP_185 1 (pc' := 1) (lv' := [(0, .ref v0), (1, .ref v1), (2, .int v2), (3, .int v3), (4, .int v4), (5, .int v5)]) (st' := [.ref v0]) rfl ?_
  refine xZ.k_gR (me := xm185) hP_185 rfl (fun x1 => ?_)
  refine xZ.adv (me := xm185) hP_185 1 (pc' := 5) (lv' := [(0, .ref v0), (1, .ref v1), (2, .int v2), (3, .int v3), (4, .int v4), (5, .int v5)]) (st' := [.ref v1, .ref x1]) rfl ?_
  refine xZ.k_gI (me := xm185) hP_185 rfl (fun x2 => ?_)
  refine xZ.callv (κ := oR) (av := [.int x2]) (rest := []) (st' := fun x3 => [.ref x3]) (k0 := x1) (me := xm185) hP_185 rfl (Or.inl rfl) ⟨rfl, by decide⟩ rfl rfl (Nat.le_of_ble_eq_true rfl) (by decide) hP_21 (Nat.le_of_ble_eq_true rfl) (fun _ => rfl) (k_f_Hall_anyZone O f (d + 4) x1 x2 M) (fun x3 M1 => ?_)
  refine xZ.adv (me := xm185) hP_185 11 (pc' := 28) (lv' := [(11, .int (0 : Int32)), (10, .int v2), (9, .int v2), (8, .int v2), (7, .int v2), (6, .ref x3), (0, .ref v0), (1, .ref v1), (2, .int v2), (3, .int v3), (4, .int v4), (5, .int v5)]) (st' := []) rfl ?_
  exact xZ.sub (xsc (.tail _ (.tail _ (.tail _ (.tail _ (.tail _ (.tail _ (.head _))))))) (xsc (.tail _ (.tail _ (.tail _ (.tail _ (.tail _ (.tail _ (.tail _ (.head _)))))))) (xsc (.tail _ (.tail _ (.tail _ (.tail _ (.tail _ (.tail _ (.tail _ (.tail _ (.head _))))))))) (xsc (.tail _ (.tail _ (.tail _ (.tail _ (.tail _ (.tail _ (.tail _ (.tail _ (.tail _ (.head _)))))))))) (xsc (.tail _ (.tail _ (.tail _ (.tail _ (.tail _ (.tail _ (.tail _ (.tail _ (.tail _ (.tail _ (.head _))))))))))) (xsc (.tail _ (.tail _ (.tail _ (.tail _ (.tail _ (.tail _ (.tail _ (.tail _ (.tail _ (.tail _ (.tail _ (.head _)))))))))))) (xsc (.tail _ (.tail _ (.tail _ (.tail _ (.tail _ (.head _)))))) (xsc (.tail _ (.tail _ (.tail _ (.tail _ (.head _))))) (xsc (.tail _ (.tail _ (.tail _ (.head _)))) (xsc (.tail _ (.tail _ (.head _))) (xsc (.tail _ (.head _)) (xsc (.head _) xsn)))))))))))) (show ([11, 10, 9, 8, 7, 6, 0, 1, 2, 3, 4, 5] : List Nat).Nodup from by decide) (k_f_Calendarhall_addCosts_28 O f d f v0 v1 v2 v3 v4 v5 x3 v2 v2 v2 v2 (0 : Int32) M1)
def f_Calendarhall_best_157 (O : Nat → Option va_E) (f : Nat) : Nat → Nat → Int32 → Int32 → Int32 → Int32 → Int32 → xM → Option (Int32 × xM)
  | 0, _, _, _, _, _, _, _ => none
  | n + 1, v0, v2, v5, v6, v7, v8, M =>
    if v6 ≤ v8 then (
      if v5 = 0 then (
        some ((v2 + ((15 : Int32) * v7)), M)
      ) else
      (gR O M v0 12 9).bind fun x1 =>
      (aI O M x1 v7).bind fun x2 =>
      some (x2, M)
    ) else
    (gR O M v0 12 9).bind fun x3 =>
    (aI O M x3 v8).bind fun x4 =>
    (gR O M v0 12 9).bind fun x5 =>
    (aI O M x5 v7).bind fun x6 =>
    if x6 ≤ x4 then (
      f_Calendarhall_best_157 O f n v0 v2 v5 v6 v7 (v8 + (1 : Int32)) M
    ) else
    f_Calendarhall_best_157 O f n v0 v2 v5 v6 v8 (v8 + (1 : Int32)) M
set_option maxRecDepth 20000 in
theorem k_f_Calendarhall_best_157 (O : Nat → Option va_E) (f d : Nat) : ∀ (n : Nat) (v0 : Nat) (v2 : Int32) (v5 : Int32) (v6 : Int32) (v7 : Int32) (v8 : Int32) (M : xM), xZ oI O (d + 7) 184 157 [(0, .ref v0), (2, .int v2), (5, .int v5), (6, .int v6), (7, .int v7), (8, .int v8)] [] M (f_Calendarhall_best_157 O f n v0 v2 v5 v6 v7 v8 M) := by
  intro n
  induction n with
  | zero =>
    intro v0 v2 v5 v6 v7 v8 M
    exact xZ.no
  | succ n ih =>
    intro v0 v2 v5 v6 v7 v8 M
    unfold f_Calendarhall_best_157
    refine xZ.adv (me := xm184) hP_184 2 (pc' := 161) (lv' := [(0, .ref v0), (2, .int v2), (5, .int v5), (6, .int v6), (7, .int v7), (8, .int v8)]) (st' := [.int v6, .int v8]) rfl ?_
    refine xZ.ic_ge (me := xm184) hP_184 rfl (fun h1 => ?_) (fun h1 => ?_)
    · skip
      refine xZ.adv (me := xm184) hP_184 1 (pc' := 193) (lv' := [(0, .ref v0), (2, .int v2), (5, .int v5), (6, .int v6), (7, .int v7), (8, .int v8)]) (st' := [.int v5]) rfl ?_
      refine xZ.if_eq (me := xm184) hP_184 rfl (fun h2 => ?_) (fun h2 => ?_)
      · skip
        refine xZ.adv (me := xm184) hP_184 5 (pc' := 213) (lv' := [(0, .ref v0), (2, .int v2), (5, .int v5), (6, .int v6), (7, .int v7), (8, .int v8)]) (st' := [.int (v2 + ((15 : Int32) * v7))]) rfl ?_
        exact xZ.reti (me := xm184) hP_184 rfl rfl
      · skip
        refine xZ.adv (me := xm184) hP_184 1 (pc' := 197) (lv' := [(0, .ref v0), (2, .int v2), (5, .int v5), (6, .int v6), (7, .int v7), (8, .int v8)]) (st' := [.ref v0]) rfl ?_
        refine xZ.k_gR (me := xm184) hP_184 rfl (fun x1 => ?_)
        refine xZ.adv (me := xm184) hP_184 1 (pc' := 202) (lv' := [(0, .ref v0), (2, .int v2), (5, .int v5), (6, .int v6), (7, .int v7), (8, .int v8)]) (st' := [.int v7, .ref x1]) rfl ?_
        refine xZ.k_aI (me := xm184) hP_184 rfl (fun x2 => ?_)
        refine xZ.adv (me := xm184) hP_184 1 (pc' := 213) (lv' := [(0, .ref v0), (2, .int v2), (5, .int v5), (6, .int v6), (7, .int v7), (8, .int v8)]) (st' := [.int x2]) rfl ?_
        exact xZ.reti (me := xm184) hP_184 rfl rfl
    · skip
      refine xZ.adv (me := xm184) hP_184 1 (pc' := 165) (lv' := [(0, .ref v0), (2, .int v2), (5, .int v5), (6, .int v6), (7, .int v7), (8, .int v8)]) (st' := [.ref v0]) rfl ?_
      refine xZ.k_gR (me := xm184) hP_184 rfl (fun x3 => ?_)
      refine xZ.adv (me := xm184) hP_184 1 (pc' := 170) (lv' := [(0, .ref v0), (2, .int v2), (5, .int v5), (6, .int v6), (7, .int v7), (8, .int v8)]) (st' := [.int v8, .ref x3]) rfl ?_
      refine xZ.k_aI (me := xm184) hP_184 rfl (fun x4 => ?_)
      refine xZ.adv (me := xm184) hP_184 1 (pc' := 172) (lv' := [(0, .ref v0), (2, .int v2), (5, .int v5), (6, .int v6), (7, .int v7), (8, .int v8)]) (st' := [.ref v0, .int x4]) rfl ?_
      refine xZ.k_gR (me := xm184) hP_184 rfl (fun x5 => ?_)
      refine xZ.adv (me := xm184) hP_184 1 (pc' := 177) (lv' := [(0, .ref v0), (2, .int v2), (5, .int v5), (6, .int v6), (7, .int v7), (8, .int v8)]) (st' := [.int v7, .ref x5, .int x4]) rfl ?_
      refine xZ.k_aI (me := xm184) hP_184 rfl (fun x6 => ?_)
      refine xZ.ic_ge (me := xm184) hP_184 rfl (fun h3 => ?_) (fun h3 => ?_)
      · skip
        refine xZ.adv (me := xm184) hP_184 2 (pc' := 157) (lv' := [(8, .int (v8 + (1 : Int32))), (0, .ref v0), (2, .int v2), (5, .int v5), (6, .int v6), (7, .int v7)]) (st' := []) rfl ?_
        exact xZ.sub (xsc (.tail _ (.head _)) (xsc (.tail _ (.tail _ (.head _))) (xsc (.tail _ (.tail _ (.tail _ (.head _)))) (xsc (.tail _ (.tail _ (.tail _ (.tail _ (.head _))))) (xsc (.tail _ (.tail _ (.tail _ (.tail _ (.tail _ (.head _)))))) (xsc (.head _) xsn)))))) (show ([8, 0, 2, 5, 6, 7] : List Nat).Nodup from by decide) (ih v0 v2 v5 v6 v7 (v8 + (1 : Int32)) M)
      · skip
        refine xZ.adv (me := xm184) hP_184 4 (pc' := 157) (lv' := [(8, .int (v8 + (1 : Int32))), (7, .int v8), (0, .ref v0), (2, .int v2), (5, .int v5), (6, .int v6)]) (st' := []) rfl ?_
        exact xZ.sub (xsc (.tail _ (.tail _ (.head _))) (xsc (.tail _ (.tail _ (.tail _ (.head _)))) (xsc (.tail _ (.tail _ (.tail _ (.tail _ (.head _))))) (xsc (.tail _ (.tail _ (.tail _ (.tail _ (.tail _ (.head _)))))) (xsc (.tail _ (.head _)) (xsc (.head _) xsn)))))) (show ([8, 7, 0, 2, 5, 6] : List Nat).Nodup from by decide) (ih v0 v2 v5 v6 v8 (v8 + (1 : Int32)) M)
def f_Calendarhall_best_83 (O : Nat → Option va_E) (f : Nat) : Nat → Nat → Int32 → Int32 → Int32 → Int32 → Int32 → Int32 → Int32 → xM → Option (Int32 × xM)
  | 0, _, _, _, _, _, _, _, _, _ => none
  | n + 1, v0, v1, v2, v3, v4, v5, v6, v7, M =>
    if (8 : Int32) ≤ v7 then (
      f_Calendarhall_best_157 O f f v0 v2 v5 v6 (0 : Int32) (1 : Int32) M
    ) else
    if ((v1 >>> (v7 &&& 31)) &&& (1 : Int32)) = 0 then (
      f_Calendarhall_best_83 O f n v0 v1 v2 v3 v4 v5 v6 (v7 + (1 : Int32)) M
    ) else
    (gR O M v0 12 0).bind fun x1 =>
    (gR O M v0 12 4).bind fun x2 =>
    (gR O M v0 12 0).bind fun x3 =>
    (isO O M x3 4).bind fun _ =>
    xcl (f_Hall_seriesOf O f x3 ((1 : Int32) <<< (v7 &&& 31)) M) fun x4 M1 =>
    (isO O M1 x1 4).bind fun _ =>
    xcl (f_Hall_collectOn O f x1 x2 x4 v2 v3 M1) fun _ M2 =>
    (gR O M2 v0 12 0).bind fun x6 =>
    (isO O M2 x6 4).bind fun _ =>
    xcl (f_Hall_anyPerson O f x6 v7 M2) fun x7 M3 =>
    (isO O M3 v0 12).bind fun _ =>
    xcl (f_Calendarhall_addCosts O f v0 x7 v2 v3 v4 v6 M3) fun _ M4 =>
    f_Calendarhall_best_83 O f n v0 v1 v2 v3 v4 v5 v6 (v7 + (1 : Int32)) M4
set_option maxRecDepth 20000 in
theorem k_f_Calendarhall_best_83 (O : Nat → Option va_E) (f d : Nat) : ∀ (n : Nat) (v0 : Nat) (v1 : Int32) (v2 : Int32) (v3 : Int32) (v4 : Int32) (v5 : Int32) (v6 : Int32) (v7 : Int32) (M : xM), xZ oI O (d + 7) 184 83 [(0, .ref v0), (1, .int v1), (2, .int v2), (3, .int v3), (4, .int v4), (5, .int v5), (6, .int v6), (7, .int v7)] [] M (f_Calendarhall_best_83 O f n v0 v1 v2 v3 v4 v5 v6 v7 M) := by
  intro n
  induction n with
  | zero =>
    intro v0 v1 v2 v3 v4 v5 v6 v7 M
    exact xZ.no
  | succ n ih =>
    intro v0 v1 v2 v3 v4 v5 v6 v7 M
    unfold f_Calendarhall_best_83
    refine xZ.adv (me := xm184) hP_184 2 (pc' := 87) (lv' := [(0, .ref v0), (1, .int v1), (2, .int v2), (3, .int v3), (4, .int v4), (5, .int v5), (6, .int v6), (7, .int v7)]) (st' := [.int (8 : Int32), .int v7]) rfl ?_
    refine xZ.ic_ge (me := xm184) hP_184 rfl (fun h1 => ?_) (fun h1 => ?_)
    · skip
      refine xZ.adv (me := xm184) hP_184 4 (pc' := 157) (lv' := [(8, .int (1 : Int32)), (7, .int (0 : Int32)), (0, .ref v0), (1, .int v1), (2, .int v2), (3, .int v3), (4, .int v4), (5, .int v5), (6, .int v6)]) (st' := []) rfl ?_
      exact xZ.sub (xsc (.tail _ (.tail _ (.head _))) (xsc (.tail _ (.tail _ (.tail _ (.tail _ (.head _))))) (xsc (.tail _ (.tail _ (.tail _ (.tail _ (.tail _ (.tail _ (.tail _ (.head _)))))))) (xsc (.tail _ (.tail _ (.tail _ (.tail _ (.tail _ (.tail _ (.tail _ (.tail _ (.head _))))))))) (xsc (.tail _ (.head _)) (xsc (.head _) xsn)))))) (show ([8, 7, 0, 1, 2, 3, 4, 5, 6] : List Nat).Nodup from by decide) (k_f_Calendarhall_best_157 O f d f v0 v2 v5 v6 (0 : Int32) (1 : Int32) M)
    · skip
      refine xZ.adv (me := xm184) hP_184 5 (pc' := 96) (lv' := [(0, .ref v0), (1, .int v1), (2, .int v2), (3, .int v3), (4, .int v4), (5, .int v5), (6, .int v6), (7, .int v7)]) (st' := [.int ((v1 >>> (v7 &&& 31)) &&& (1 : Int32))]) rfl ?_
      refine xZ.if_ne (me := xm184) hP_184 rfl (fun h2 => ?_) (fun h2 => ?_)
      · skip
        refine xZ.adv (me := xm184) hP_184 3 (pc' := 83) (lv' := [(7, .int (v7 + (1 : Int32))), (0, .ref v0), (1, .int v1), (2, .int v2), (3, .int v3), (4, .int v4), (5, .int v5), (6, .int v6)]) (st' := []) rfl ?_
        exact xZ.sub (xsc (.tail _ (.head _)) (xsc (.tail _ (.tail _ (.head _))) (xsc (.tail _ (.tail _ (.tail _ (.head _)))) (xsc (.tail _ (.tail _ (.tail _ (.tail _ (.head _))))) (xsc (.tail _ (.tail _ (.tail _ (.tail _ (.tail _ (.head _)))))) (xsc (.tail _ (.tail _ (.tail _ (.tail _ (.tail _ (.tail _ (.head _))))))) (xsc (.tail _ (.tail _ (.tail _ (.tail _ (.tail _ (.tail _ (.tail _ (.head _)))))))) (xsc (.head _) xsn)))))))) (show ([7, 0, 1, 2, 3, 4, 5, 6] : List Nat).Nodup from by decide) (ih v0 v1 v2 v3 v4 v5 v6 (v7 + (1 : Int32)) M)
      · skip
        refine xZ.adv (me := xm184) hP_184 1 (pc' := 103) (lv' := [(0, .ref v0), (1, .int v1), (2, .int v2), (3, .int v3), (4, .int v4), (5, .int v5), (6, .int v6), (7, .int v7)]) (st' := [.ref v0]) rfl ?_
        refine xZ.k_gR (me := xm184) hP_184 rfl (fun x1 => ?_)
        refine xZ.adv (me := xm184) hP_184 1 (pc' := 107) (lv' := [(0, .ref v0), (1, .int v1), (2, .int v2), (3, .int v3), (4, .int v4), (5, .int v5), (6, .int v6), (7, .int v7)]) (st' := [.ref v0, .ref x1]) rfl ?_
        refine xZ.k_gR (me := xm184) hP_184 rfl (fun x2 => ?_)
        refine xZ.adv (me := xm184) hP_184 1 (pc' := 111) (lv' := [(0, .ref v0), (1, .int v1), (2, .int v2), (3, .int v3), (4, .int v4), (5, .int v5), (6, .int v6), (7, .int v7)]) (st' := [.ref v0, .ref x2, .ref x1]) rfl ?_
        refine xZ.k_gR (me := xm184) hP_184 rfl (fun x3 => ?_)
        refine xZ.adv (me := xm184) hP_184 3 (pc' := 118) (lv' := [(0, .ref v0), (1, .int v1), (2, .int v2), (3, .int v3), (4, .int v4), (5, .int v5), (6, .int v6), (7, .int v7)]) (st' := [.int ((1 : Int32) <<< (v7 &&& 31)), .ref x3, .ref x2, .ref x1]) rfl ?_
        refine xZ.callv (κ := oI) (av := [.int ((1 : Int32) <<< (v7 &&& 31))]) (rest := [.ref x2, .ref x1]) (st' := fun x4 => [.int x4, .ref x2, .ref x1]) (k0 := x3) (me := xm184) hP_184 rfl (Or.inl rfl) ⟨rfl, by decide⟩ rfl rfl (Nat.le_of_ble_eq_true rfl) (by decide) hP_158 (Nat.le_of_ble_eq_true rfl) (fun _ => rfl) (k_f_Hall_seriesOf O f (d + 5) x3 ((1 : Int32) <<< (v7 &&& 31)) M) (fun x4 M1 => ?_)
        refine xZ.adv (me := xm184) hP_184 2 (pc' := 123) (lv' := [(0, .ref v0), (1, .int v1), (2, .int v2), (3, .int v3), (4, .int v4), (5, .int v5), (6, .int v6), (7, .int v7)]) (st' := [.int v3, .int v2, .int x4, .ref x2, .ref x1]) rfl ?_
        refine xZ.callv (κ := oU) (av := [.ref x2, .int x4, .int v2, .int v3]) (rest := []) (st' := fun _ => []) (k0 := x1) (me := xm184) hP_184 rfl (Or.inl rfl) ⟨rfl, by decide⟩ rfl rfl (Nat.le_of_ble_eq_true rfl) (by decide) hP_162 (Nat.le_of_ble_eq_true rfl) (fun _ => rfl) (k_f_Hall_collectOn O f (d + 0) x1 x2 x4 v2 v3 M1) (fun _ M2 => ?_)
        refine xZ.adv (me := xm184) hP_184 2 (pc' := 128) (lv' := [(0, .ref v0), (1, .int v1), (2, .int v2), (3, .int v3), (4, .int v4), (5, .int v5), (6, .int v6), (7, .int v7)]) (st' := [.ref v0, .ref v0]) rfl ?_
        refine xZ.k_gR (me := xm184) hP_184 rfl (fun x6 => ?_)
        refine xZ.adv (me := xm184) hP_184 1 (pc' := 133) (lv' := [(0, .ref v0), (1, .int v1), (2, .int v2), (3, .int v3), (4, .int v4), (5, .int v5), (6, .int v6), (7, .int v7)]) (st' := [.int v7, .ref x6, .ref v0]) rfl ?_
        refine xZ.callv (κ := oR) (av := [.int v7]) (rest := [.ref v0]) (st' := fun x7 => [.ref x7, .ref v0]) (k0 := x6) (me := xm184) hP_184 rfl (Or.inl rfl) ⟨rfl, by decide⟩ rfl rfl (Nat.le_of_ble_eq_true rfl) (by decide) hP_26 (Nat.le_of_ble_eq_true rfl) (fun _ => rfl) (k_f_Hall_anyPerson O f (d + 6) x6 v7 M2) (fun x7 M3 => ?_)
        refine xZ.adv (me := xm184) hP_184 4 (pc' := 142) (lv' := [(0, .ref v0), (1, .int v1), (2, .int v2), (3, .int v3), (4, .int v4), (5, .int v5), (6, .int v6), (7, .int v7)]) (st' := [.int v6, .int v4, .int v3, .int v2, .ref x7, .ref v0]) rfl ?_
        refine xZ.callv (κ := oU) (av := [.ref x7, .int v2, .int v3, .int v4, .int v6]) (rest := []) (st' := fun _ => []) (k0 := v0) (me := xm184) hP_184 rfl (Or.inl rfl) ⟨rfl, by decide⟩ rfl rfl (Nat.le_of_ble_eq_true rfl) (by decide) hP_185 (Nat.le_of_ble_eq_true rfl) (fun _ => rfl) (k_f_Calendarhall_addCosts O f (d + 1) v0 x7 v2 v3 v4 v6 M3) (fun _ M4 => ?_)
        refine xZ.adv (me := xm184) hP_184 2 (pc' := 83) (lv' := [(7, .int (v7 + (1 : Int32))), (0, .ref v0), (1, .int v1), (2, .int v2), (3, .int v3), (4, .int v4), (5, .int v5), (6, .int v6)]) (st' := []) rfl ?_
        exact xZ.sub (xsc (.tail _ (.head _)) (xsc (.tail _ (.tail _ (.head _))) (xsc (.tail _ (.tail _ (.tail _ (.head _)))) (xsc (.tail _ (.tail _ (.tail _ (.tail _ (.head _))))) (xsc (.tail _ (.tail _ (.tail _ (.tail _ (.tail _ (.head _)))))) (xsc (.tail _ (.tail _ (.tail _ (.tail _ (.tail _ (.tail _ (.head _))))))) (xsc (.tail _ (.tail _ (.tail _ (.tail _ (.tail _ (.tail _ (.tail _ (.head _)))))))) (xsc (.head _) xsn)))))))) (show ([7, 0, 1, 2, 3, 4, 5, 6] : List Nat).Nodup from by decide) (ih v0 v1 v2 v3 v4 v5 v6 (v7 + (1 : Int32)) M4)
def f_Calendarhall_best_59 (O : Nat → Option va_E) (f : Nat) : Nat → Nat → Int32 → Int32 → Int32 → Int32 → Int32 → Int32 → Int32 → xM → Option (Int32 × xM)
  | 0, _, _, _, _, _, _, _, _, _ => none
  | n + 1, v0, v1, v2, v3, v4, v5, v6, v7, M =>
    if v6 ≤ v7 then (
      f_Calendarhall_best_83 O f f v0 v1 v2 v3 v4 v5 v6 (0 : Int32) M
    ) else
    (gR O M v0 12 9).bind fun x1 =>
    (wI M x1 v7 (0 : Int32)).bind fun M1 =>
    f_Calendarhall_best_59 O f n v0 v1 v2 v3 v4 v5 v6 (v7 + (1 : Int32)) M1
set_option maxRecDepth 20000 in
theorem k_f_Calendarhall_best_59 (O : Nat → Option va_E) (f d : Nat) : ∀ (n : Nat) (v0 : Nat) (v1 : Int32) (v2 : Int32) (v3 : Int32) (v4 : Int32) (v5 : Int32) (v6 : Int32) (v7 : Int32) (M : xM), xZ oI O (d + 7) 184 59 [(0, .ref v0), (1, .int v1), (2, .int v2), (3, .int v3), (4, .int v4), (5, .int v5), (6, .int v6), (7, .int v7)] [] M (f_Calendarhall_best_59 O f n v0 v1 v2 v3 v4 v5 v6 v7 M) := by
  intro n
  induction n with
  | zero =>
    intro v0 v1 v2 v3 v4 v5 v6 v7 M
    exact xZ.no
  | succ n ih =>
    intro v0 v1 v2 v3 v4 v5 v6 v7 M
    unfold f_Calendarhall_best_59
    refine xZ.adv (me := xm184) hP_184 2 (pc' := 63) (lv' := [(0, .ref v0), (1, .int v1), (2, .int v2), (3, .int v3), (4, .int v4), (5, .int v5), (6, .int v6), (7, .int v7)]) (st' := [.int v6, .int v7]) rfl ?_
    refine xZ.ic_ge (me := xm184) hP_184 rfl (fun h1 => ?_) (fun h1 => ?_)
    · skip
      refine xZ.adv (me := xm184) hP_184 2 (pc' := 83) (lv' := [(7, .int (0 : Int32)), (0, .ref v0), (1, .int v1), (2, .int v2), (3, .int v3), (4, .int v4), (5, .int v5), (6, .int v6)]) (st' := []) rfl ?_
      exact xZ.sub (xsc (.tail _ (.head _)) (xsc (.tail _ (.tail _ (.head _))) (xsc (.tail _ (.tail _ (.tail _ (.head _)))) (xsc (.tail _ (.tail _ (.tail _ (.tail _ (.head _))))) (xsc (.tail _ (.tail _ (.tail _ (.tail _ (.tail _ (.head _)))))) (xsc (.tail _ (.tail _ (.tail _ (.tail _ (.tail _ (.tail _ (.head _))))))) (xsc (.tail _ (.tail _ (.tail _ (.tail _ (.tail _ (.tail _ (.tail _ (.head _)))))))) (xsc (.head _) xsn)))))))) (show ([7, 0, 1, 2, 3, 4, 5, 6] : List Nat).Nodup from by decide) (k_f_Calendarhall_best_83 O f d f v0 v1 v2 v3 v4 v5 v6 (0 : Int32) M)
    · skip
      refine xZ.adv (me := xm184) hP_184 1 (pc' := 67) (lv' := [(0, .ref v0), (1, .int v1), (2, .int v2), (3, .int v3), (4, .int v4), (5, .int v5), (6, .int v6), (7, .int v7)]) (st' := [.ref v0]) rfl ?_
      refine xZ.k_gR (me := xm184) hP_184 rfl (fun x1 => ?_)
      refine xZ.adv (me := xm184) hP_184 2 (pc' := 73) (lv' := [(0, .ref v0), (1, .int v1), (2, .int v2), (3, .int v3), (4, .int v4), (5, .int v5), (6, .int v6), (7, .int v7)]) (st' := [.int (0 : Int32), .int v7, .ref x1]) rfl ?_
      refine xZ.k_wI (me := xm184) hP_184 rfl (fun M1 => ?_)
      refine xZ.adv (me := xm184) hP_184 2 (pc' := 59) (lv' := [(7, .int (v7 + (1 : Int32))), (0, .ref v0), (1, .int v1), (2, .int v2), (3, .int v3), (4, .int v4), (5, .int v5), (6, .int v6)]) (st' := []) rfl ?_
      exact xZ.sub (xsc (.tail _ (.head _)) (xsc (.tail _ (.tail _ (.head _))) (xsc (.tail _ (.tail _ (.tail _ (.head _)))) (xsc (.tail _ (.tail _ (.tail _ (.tail _ (.head _))))) (xsc (.tail _ (.tail _ (.tail _ (.tail _ (.tail _ (.head _)))))) (xsc (.tail _ (.tail _ (.tail _ (.tail _ (.tail _ (.tail _ (.head _))))))) (xsc (.tail _ (.tail _ (.tail _ (.tail _ (.tail _ (.tail _ (.tail _ (.head _)))))))) (xsc (.head _) xsn)))))))) (show ([7, 0, 1, 2, 3, 4, 5, 6] : List Nat).Nodup from by decide) (ih v0 v1 v2 v3 v4 v5 v6 (v7 + (1 : Int32)) M1)
def f_Calendarhall_best (O : Nat → Option va_E) (f : Nat) (v0 : Nat) (v1 : Int32) (v2 : Int32) (v3 : Int32) (v4 : Int32) (v5 : Int32) (M : xM) : Option (Int32 × xM) :=
  xcl (f_Calendarhall_needRange O f v1 (1 : Int32) (255 : Int32) M) fun _ M1 =>
  xcl (f_Calendarhall_needPiece O f v2 v3 (10080 : Int32) M1) fun _ M2 =>
  xcl (f_Calendarhall_needRange O f v4 (1 : Int32) (600 : Int32) M2) fun _ M3 =>
  if v4 ≤ (v3 - v2) then (
    (gR O M3 v0 12 9).bind fun x4 =>
    (aN O M3 x4).bind fun x5 =>
    xcl (f_Math_min O f ((((v3 - v2) - v4) / (15 : Int32)) + (1 : Int32)) x5 M3) fun x6 M4 =>
    f_Calendarhall_best_59 O f f v0 v1 v2 v3 v4 v5 x6 (0 : Int32) M4
  ) else
  some ((-1 : Int32), M3)
set_option maxRecDepth 20000 in
theorem k_f_Calendarhall_best (O : Nat → Option va_E) (f d : Nat) (v0 : Nat) (v1 : Int32) (v2 : Int32) (v3 : Int32) (v4 : Int32) (v5 : Int32) (M : xM) : xZ oI O (d + 7) 184 0 [(0, .ref v0), (1, .int v1), (2, .int v2), (3, .int v3), (4, .int v4), (5, .int v5)] [] M (f_Calendarhall_best O f v0 v1 v2 v3 v4 v5 M) := by
  unfold f_Calendarhall_best
  refine xZ.adv (me := xm184) hP_184 3 (pc' := 5) (lv' := [(0, .ref v0), (1, .int v1), (2, .int v2), (3, .int v3), (4, .int v4), (5, .int v5)]) (st' := [.int (255 : Int32), .int (1 : Int32), .int v1]) rfl ?_
  refine xZ.calls (κ := oU) (av := [.int v1, .int (1 : Int32), .int (255 : Int32)]) (rest := []) (st' := fun _ => []) (me := xm184) hP_184 rfl rfl rfl (Nat.le_of_ble_eq_true rfl) (by decide) hP_22 (Nat.le_of_ble_eq_true rfl) (fun _ => rfl) (k_f_Calendarhall_needRange O f (d + 6) v1 (1 : Int32) (255 : Int32) M) (fun _ M1 => ?_)
  refine xZ.adv (me := xm184) hP_184 3 (pc' := 13) (lv' := [(0, .ref v0), (1, .int v1), (2, .int v2), (3, .int v3), (4, .int v4), (5, .int v5)]) (st' := [.int (10080 : Int32), .int v3, .int v2]) rfl ?_
  refine xZ.calls (κ := oU) (av := [.int v2, .int v3, .int (10080 : Int32)]) (rest := []) (st' := fun _ => []) (me := xm184) hP_184 rfl rfl rfl (Nat.le_of_ble_eq_true rfl) (by decide) hP_114 (Nat.le_of_ble_eq_true rfl) (fun _ => rfl) (k_f_Calendarhall_needPiece O f (d + 5) v2 v3 (10080 : Int32) M1) (fun _ M2 => ?_)
  refine xZ.adv (me := xm184) hP_184 3 (pc' := 22) (lv' := [(0, .ref v0), (1, .int v1), (2, .int v2), (3, .int v3), (4, .int v4), (5, .int v5)]) (st' := [.int (600 : Int32), .int (1 : Int32), .int v4]) rfl ?_
  refine xZ.calls (κ := oU) (av := [.int v4, .int (1 : Int32), .int (600 : Int32)]) (rest := []) (st' := fun _ => []) (me := xm184) hP_184 rfl rfl rfl (Nat.le_of_ble_eq_true rfl) (by decide) hP_22 (Nat.le_of_ble_eq_true rfl) (fun _ => rfl) (k_f_Calendarhall_needRange O f (d + 6) v4 (1 : Int32) (600 : Int32) M2) (fun _ M3 => ?_)
  refine xZ.adv (me := xm184) hP_184 4 (pc' := 30) (lv' := [(0, .ref v0), (1, .int v1), (2, .int v2), (3, .int v3), (4, .int v4), (5, .int v5)]) (st' := [.int v4, .int (v3 - v2)]) rfl ?_
  refine xZ.ic_ge (me := xm184) hP_184 rfl (fun h1 => ?_) (fun h1 => ?_)
  · skip
    refine xZ.adv (me := xm184) hP_184 10 (pc' := 47) (lv' := [(0, .ref v0), (1, .int v1), (2, .int v2), (3, .int v3), (4, .int v4), (5, .int v5)]) (st' := [.ref v0, .int ((((v3 - v2) - v4) / (15 : Int32)) + (1 : Int32))]) rfl ?_
    refine xZ.k_gR (me := xm184) hP_184 rfl (fun x4 => ?_)
    refine xZ.k_aN (me := xm184) hP_184 rfl (fun x5 => ?_)
    refine xZ.calls (κ := oI) (av := [.int ((((v3 - v2) - v4) / (15 : Int32)) + (1 : Int32)), .int x5]) (rest := []) (st' := fun x6 => [.int x6]) (me := xm184) hP_184 rfl rfl rfl (Nat.le_of_ble_eq_true rfl) (by decide) hP_248 (Nat.le_of_ble_eq_true rfl) (fun _ => rfl) (k_f_Math_min O f (d + 6) ((((v3 - v2) - v4) / (15 : Int32)) + (1 : Int32)) x5 M3) (fun x6 M4 => ?_)
    refine xZ.adv (me := xm184) hP_184 3 (pc' := 59) (lv' := [(7, .int (0 : Int32)), (6, .int x6), (0, .ref v0), (1, .int v1), (2, .int v2), (3, .int v3), (4, .int v4), (5, .int v5)]) (st' := []) rfl ?_
    exact xZ.sub (xsc (.tail _ (.tail _ (.head _))) (xsc (.tail _ (.tail _ (.tail _ (.head _)))) (xsc (.tail _ (.tail _ (.tail _ (.tail _ (.head _))))) (xsc (.tail _ (.tail _ (.tail _ (.tail _ (.tail _ (.head _)))))) (xsc (.tail _ (.tail _ (.tail _ (.tail _ (.tail _ (.tail _ (.head _))))))) (xsc (.tail _ (.tail _ (.tail _ (.tail _ (.tail _ (.tail _ (.tail _ (.head _)))))))) (xsc (.tail _ (.head _)) (xsc (.head _) xsn)))))))) (show ([7, 6, 0, 1, 2, 3, 4, 5] : List Nat).Nodup from by decide) (k_f_Calendarhall_best_59 O f d f v0 v1 v2 v3 v4 v5 x6 (0 : Int32) M4)
  · skip
    refine xZ.adv (me := xm184) hP_184 1 (pc' := 34) (lv' := [(0, .ref v0), (1, .int v1), (2, .int v2), (3, .int v3), (4, .int v4), (5, .int v5)]) (st' := [.int (-1 : Int32)]) rfl ?_
    exact xZ.reti (me := xm184) hP_184 rfl rfl
def f_Law_areFree_425 (O : Nat → Option va_E) (f : Nat) (K360 : Nat → Nat → Int32 → Int32 → Nat → Int32 → Int32 → Int32 → Nat → Nat → Int32 → Int32 → Int32 → Int32 → Int32 → Int32 → Int32 → Int32 → xM → Option (Int32 × xM)) (v0 : Nat) (v4 : Nat) (v5 : Int32) (v6 : Int32) (v7 : Nat) (v8 : Int32) (v9 : Int32) (v10 : Int32) (v11 : Nat) (v12 : Nat) (v13 : Int32) (v14 : Int32) (v15 : Int32) (v16 : Int32) (v17 : Int32) (v18 : Int32) (v20 : Int32) (s0 : Int32) (s1 : Int32) (M : xM) : Option (Int32 × xM) :=
  K360 v0 v4 v5 v6 v7 v8 v9 v10 v11 v12 v13 v14 v15 v16 v17 v18 (s0 + s1) (v20 + (1 : Int32)) M
set_option maxRecDepth 20000 in
theorem k_f_Law_areFree_425 (O : Nat → Option va_E) (f d : Nat) (K360 : Nat → Nat → Int32 → Int32 → Nat → Int32 → Int32 → Int32 → Nat → Nat → Int32 → Int32 → Int32 → Int32 → Int32 → Int32 → Int32 → Int32 → xM → Option (Int32 × xM)) (hK360 : ∀ (v0 : Nat) (v4 : Nat) (v5 : Int32) (v6 : Int32) (v7 : Nat) (v8 : Int32) (v9 : Int32) (v10 : Int32) (v11 : Nat) (v12 : Nat) (v13 : Int32) (v14 : Int32) (v15 : Int32) (v16 : Int32) (v17 : Int32) (v18 : Int32) (v19 : Int32) (v20 : Int32) M, xZ oI O (d + 9) 145 360 [(0, .ref v0), (4, .ref v4), (5, .int v5), (6, .int v6), (7, .ref v7), (8, .int v8), (9, .int v9), (10, .int v10), (11, .ref v11), (12, .ref v12), (13, .int v13), (14, .int v14), (15, .int v15), (16, .int v16), (17, .int v17), (18, .int v18), (19, .int v19), (20, .int v20)] [] M (K360 v0 v4 v5 v6 v7 v8 v9 v10 v11 v12 v13 v14 v15 v16 v17 v18 v19 v20 M)) (v0 : Nat) (v4 : Nat) (v5 : Int32) (v6 : Int32) (v7 : Nat) (v8 : Int32) (v9 : Int32) (v10 : Int32) (v11 : Nat) (v12 : Nat) (v13 : Int32) (v14 : Int32) (v15 : Int32) (v16 : Int32) (v17 : Int32) (v18 : Int32) (v20 : Int32) (s0 : Int32) (s1 : Int32) (M : xM) : xZ oI O (d + 9) 145 425 [(0, .ref v0), (4, .ref v4), (5, .int v5), (6, .int v6), (7, .ref v7), (8, .int v8), (9, .int v9), (10, .int v10), (11, .ref v11), (12, .ref v12), (13, .int v13), (14, .int v14), (15, .int v15), (16, .int v16), (17, .int v17), (18, .int v18), (20, .int v20)] [.int s1, .int s0] M (f_Law_areFree_425 O f K360 v0 v4 v5 v6 v7 v8 v9 v10 v11 v12 v13 v14 v15 v16 v17 v18 v20 s0 s1 M) := by
  unfold f_Law_areFree_425
  refine xZ.adv (me := xm145) hP_145 4 (pc' := 360) (lv' := [(20, .int (v20 + (1 : Int32))), (19, .int (s0 + s1)), (0, .ref v0), (4, .ref v4), (5, .int v5), (6, .int v6), (7, .ref v7), (8, .int v8), (9, .int v9), (10, .int v10), (11, .ref v11), (12, .ref v12), (13, .int v13), (14, .int v14), (15, .int v15), (16, .int v16), (17, .int v17), (18, .int v18)]) (st' := []) rfl ?_
  exact xZ.sub (xsc (.tail _ (.tail _ (.head _))) (xsc (.tail _ (.tail _ (.tail _ (.head _)))) (xsc (.tail _ (.tail _ (.tail _ (.tail _ (.head _))))) (xsc (.tail _ (.tail _ (.tail _ (.tail _ (.tail _ (.head _)))))) (xsc (.tail _ (.tail _ (.tail _ (.tail _ (.tail _ (.tail _ (.head _))))))) (xsc (.tail _ (.tail _ (.tail _ (.tail _ (.tail _ (.tail _ (.tail _ (.head _)))))))) (xsc (.tail _ (.tail _ (.tail _ (.tail _ (.tail _ (.tail _ (.tail _ (.tail _ (.head _))))))))) (xsc (.tail _ (.tail _ (.tail _ (.tail _ (.tail _ (.tail _ (.tail _ (.tail _ (.tail _ (.head _)))))))))) (xsc (.tail _ (.tail _ (.tail _ (.tail _ (.tail _ (.tail _ (.tail _ (.tail _ (.tail _ (.tail _ (.head _))))))))))) (xsc (.tail _ (.tail _ (.tail _ (.tail _ (.tail _ (.tail _ (.tail _ (.tail _ (.tail _ (.tail _ (.tail _ (.head _)))))))))))) (xsc (.tail _ (.tail _ (.tail _ (.tail _ (.tail _ (.tail _ (.tail _ (.tail _ (.tail _ (.tail _ (.tail _ (.tail _ (.head _))))))))))))) (xsc (.tail _ (.tail _ (.tail _ (.tail _ (.tail _ (.tail _ (.tail _ (.tail _ (.tail _ (.tail _ (.tail _ (.tail _ (.tail _ (.head _)))))))))))))) (xsc (.tail _ (.tail _ (.tail _ (.tail _ (.tail _ (.tail _ (.tail _ (.tail _ (.tail _ (.tail _ (.tail _ (.tail _ (.tail _ (.tail _ (.head _))))))))))))))) (xsc (.tail _ (.tail _ (.tail _ (.tail _ (.tail _ (.tail _ (.tail _ (.tail _ (.tail _ (.tail _ (.tail _ (.tail _ (.tail _ (.tail _ (.tail _ (.head _)))))))))))))))) (xsc (.tail _ (.tail _ (.tail _ (.tail _ (.tail _ (.tail _ (.tail _ (.tail _ (.tail _ (.tail _ (.tail _ (.tail _ (.tail _ (.tail _ (.tail _ (.tail _ (.head _))))))))))))))))) (xsc (.tail _ (.tail _ (.tail _ (.tail _ (.tail _ (.tail _ (.tail _ (.tail _ (.tail _ (.tail _ (.tail _ (.tail _ (.tail _ (.tail _ (.tail _ (.tail _ (.tail _ (.head _)))))))))))))))))) (xsc (.tail _ (.head _)) (xsc (.head _) xsn)))))))))))))))))) (show ([20, 19, 0, 4, 5, 6, 7, 8, 9, 10, 11, 12, 13, 14, 15, 16, 17, 18] : List Nat).Nodup from by decide) (hK360 v0 v4 v5 v6 v7 v8 v9 v10 v11 v12 v13 v14 v15 v16 v17 v18 (s0 + s1) (v20 + (1 : Int32)) M)
def f_Law_areFree_424 (O : Nat → Option va_E) (f : Nat) (K360 : Nat → Nat → Int32 → Int32 → Nat → Int32 → Int32 → Int32 → Nat → Nat → Int32 → Int32 → Int32 → Int32 → Int32 → Int32 → Int32 → Int32 → xM → Option (Int32 × xM)) (v0 : Nat) (v4 : Nat) (v5 : Int32) (v6 : Int32) (v7 : Nat) (v8 : Int32) (v9 : Int32) (v10 : Int32) (v11 : Nat) (v12 : Nat) (v13 : Int32) (v14 : Int32) (v15 : Int32) (v16 : Int32) (v17 : Int32) (v18 : Int32) (v20 : Int32) (s0 : Int32) (M : xM) : Option (Int32 × xM) :=
  f_Law_areFree_425 O f K360 v0 v4 v5 v6 v7 v8 v9 v10 v11 v12 v13 v14 v15 v16 v17 v18 v20 s0 (0 : Int32) M
set_option maxRecDepth 20000 in
theorem k_f_Law_areFree_424 (O : Nat → Option va_E) (f d : Nat) (K360 : Nat → Nat → Int32 → Int32 → Nat → Int32 → Int32 → Int32 → Nat → Nat → Int32 → Int32 → Int32 → Int32 → Int32 → Int32 → Int32 → Int32 → xM → Option (Int32 × xM)) (hK360 : ∀ (v0 : Nat) (v4 : Nat) (v5 : Int32) (v6 : Int32) (v7 : Nat) (v8 : Int32) (v9 : Int32) (v10 : Int32) (v11 : Nat) (v12 : Nat) (v13 : Int32) (v14 : Int32) (v15 : Int32) (v16 : Int32) (v17 : Int32) (v18 : Int32) (v19 : Int32) (v20 : Int32) M, xZ oI O (d + 9) 145 360 [(0, .ref v0), (4, .ref v4), (5, .int v5), (6, .int v6), (7, .ref v7), (8, .int v8), (9, .int v9), (10, .int v10), (11, .ref v11), (12, .ref v12), (13, .int v13), (14, .int v14), (15, .int v15), (16, .int v16), (17, .int v17), (18, .int v18), (19, .int v19), (20, .int v20)] [] M (K360 v0 v4 v5 v6 v7 v8 v9 v10 v11 v12 v13 v14 v15 v16 v17 v18 v19 v20 M)) (v0 : Nat) (v4 : Nat) (v5 : Int32) (v6 : Int32) (v7 : Nat) (v8 : Int32) (v9 : Int32) (v10 : Int32) (v11 : Nat) (v12 : Nat) (v13 : Int32) (v14 : Int32) (v15 : Int32) (v16 : Int32) (v17 : Int32) (v18 : Int32) (v20 : Int32) (s0 : Int32) (M : xM) : xZ oI O (d + 9) 145 424 [(0, .ref v0), (4, .ref v4), (5, .int v5), (6, .int v6), (7, .ref v7), (8, .int v8), (9, .int v9), (10, .int v10), (11, .ref v11), (12, .ref v12), (13, .int v13), (14, .int v14), (15, .int v15), (16, .int v16), (17, .int v17), (18, .int v18), (20, .int v20)] [.int s0] M (f_Law_areFree_424 O f K360 v0 v4 v5 v6 v7 v8 v9 v10 v11 v12 v13 v14 v15 v16 v17 v18 v20 s0 M) := by
  unfold f_Law_areFree_424
  refine xZ.adv (me := xm145) hP_145 1 (pc' := 425) (lv' := [(0, .ref v0), (4, .ref v4), (5, .int v5), (6, .int v6), (7, .ref v7), (8, .int v8), (9, .int v9), (10, .int v10), (11, .ref v11), (12, .ref v12), (13, .int v13), (14, .int v14), (15, .int v15), (16, .int v16), (17, .int v17), (18, .int v18), (20, .int v20)]) (st' := [.int (0 : Int32), .int s0]) rfl ?_
  exact (k_f_Law_areFree_425 O f d K360 hK360 v0 v4 v5 v6 v7 v8 v9 v10 v11 v12 v13 v14 v15 v16 v17 v18 v20 s0 (0 : Int32) M)
def f_Law_areFree_608 (O : Nat → Option va_E) (f : Nat) (K347 : Nat → Nat → Int32 → Int32 → Nat → Int32 → Int32 → Int32 → Nat → Nat → Int32 → Int32 → Int32 → Int32 → Int32 → Int32 → xM → Option (Int32 × xM)) (v0 : Nat) (v4 : Nat) (v5 : Int32) (v6 : Int32) (v7 : Nat) (v8 : Int32) (v9 : Int32) (v10 : Int32) (v11 : Nat) (v12 : Nat) (v13 : Int32) (v14 : Int32) (v15 : Int32) (v16 : Int32) (v17 : Int32) (v18 : Int32) (s0 : Nat) (s1 : Int32) (s2 : Int32) (s3 : Int32) (M : xM) : Option (Int32 × xM) :=
  (wB M s0 s1 (s2 ||| s3)).bind fun M1 =>
  K347 v0 v4 v5 v6 v7 v8 v9 v10 v11 v12 v13 v14 v15 v16 v17 (v18 + (1 : Int32)) M1
set_option maxRecDepth 20000 in
theorem k_f_Law_areFree_608 (O : Nat → Option va_E) (f d : Nat) (K347 : Nat → Nat → Int32 → Int32 → Nat → Int32 → Int32 → Int32 → Nat → Nat → Int32 → Int32 → Int32 → Int32 → Int32 → Int32 → xM → Option (Int32 × xM)) (hK347 : ∀ (v0 : Nat) (v4 : Nat) (v5 : Int32) (v6 : Int32) (v7 : Nat) (v8 : Int32) (v9 : Int32) (v10 : Int32) (v11 : Nat) (v12 : Nat) (v13 : Int32) (v14 : Int32) (v15 : Int32) (v16 : Int32) (v17 : Int32) (v18 : Int32) M, xZ oI O (d + 9) 145 347 [(0, .ref v0), (4, .ref v4), (5, .int v5), (6, .int v6), (7, .ref v7), (8, .int v8), (9, .int v9), (10, .int v10), (11, .ref v11), (12, .ref v12), (13, .int v13), (14, .int v14), (15, .int v15), (16, .int v16), (17, .int v17), (18, .int v18)] [] M (K347 v0 v4 v5 v6 v7 v8 v9 v10 v11 v12 v13 v14 v15 v16 v17 v18 M)) (v0 : Nat) (v4 : Nat) (v5 : Int32) (v6 : Int32) (v7 : Nat) (v8 : Int32) (v9 : Int32) (v10 : Int32) (v11 : Nat) (v12 : Nat) (v13 : Int32) (v14 : Int32) (v15 : Int32) (v16 : Int32) (v17 : Int32) (v18 : Int32) (s0 : Nat) (s1 : Int32) (s2 : Int32) (s3 : Int32) (M : xM) : xZ oI O (d + 9) 145 608 [(0, .ref v0), (4, .ref v4), (5, .int v5), (6, .int v6), (7, .ref v7), (8, .int v8), (9, .int v9), (10, .int v10), (11, .ref v11), (12, .ref v12), (13, .int v13), (14, .int v14), (15, .int v15), (16, .int v16), (17, .int v17), (18, .int v18)] [.int s3, .int s2, .int s1, .ref s0] M (f_Law_areFree_608 O f K347 v0 v4 v5 v6 v7 v8 v9 v10 v11 v12 v13 v14 v15 v16 v17 v18 s0 s1 s2 s3 M) := by
  unfold f_Law_areFree_608
  refine xZ.adv (me := xm145) hP_145 1 (pc' := 609) (lv' := [(0, .ref v0), (4, .ref v4), (5, .int v5), (6, .int v6), (7, .ref v7), (8, .int v8), (9, .int v9), (10, .int v10), (11, .ref v11), (12, .ref v12), (13, .int v13), (14, .int v14), (15, .int v15), (16, .int v16), (17, .int v17), (18, .int v18)]) (st' := [.int (s2 ||| s3), .int s1, .ref s0]) rfl ?_
  refine xZ.k_wB (me := xm145) hP_145 rfl (fun M1 => ?_)
  refine xZ.adv (me := xm145) hP_145 2 (pc' := 347) (lv' := [(18, .int (v18 + (1 : Int32))), (0, .ref v0), (4, .ref v4), (5, .int v5), (6, .int v6), (7, .ref v7), (8, .int v8), (9, .int v9), (10, .int v10), (11, .ref v11), (12, .ref v12), (13, .int v13), (14, .int v14), (15, .int v15), (16, .int v16), (17, .int v17)]) (st' := []) rfl ?_
  exact xZ.sub (xsc (.tail _ (.head _)) (xsc (.tail _ (.tail _ (.head _))) (xsc (.tail _ (.tail _ (.tail _ (.head _)))) (xsc (.tail _ (.tail _ (.tail _ (.tail _ (.head _))))) (xsc (.tail _ (.tail _ (.tail _ (.tail _ (.tail _ (.head _)))))) (xsc (.tail _ (.tail _ (.tail _ (.tail _ (.tail _ (.tail _ (.head _))))))) (xsc (.tail _ (.tail _ (.tail _ (.tail _ (.tail _ (.tail _ (.tail _ (.head _)))))))) (xsc (.tail _ (.tail _ (.tail _ (.tail _ (.tail _ (.tail _ (.tail _ (.tail _ (.head _))))))))) (xsc (.tail _ (.tail _ (.tail _ (.tail _ (.tail _ (.tail _ (.tail _ (.tail _ (.tail _ (.head _)))))))))) (xsc (.tail _ (.tail _ (.tail _ (.tail _ (.tail _ (.tail _ (.tail _ (.tail _ (.tail _ (.tail _ (.head _))))))))))) (xsc (.tail _ (.tail _ (.tail _ (.tail _ (.tail _ (.tail _ (.tail _ (.tail _ (.tail _ (.tail _ (.tail _ (.head _)))))))))))) (xsc (.tail _ (.tail _ (.tail _ (.tail _ (.tail _ (.tail _ (.tail _ (.tail _ (.tail _ (.tail _ (.tail _ (.tail _ (.head _))))))))))))) (xsc (.tail _ (.tail _ (.tail _ (.tail _ (.tail _ (.tail _ (.tail _ (.tail _ (.tail _ (.tail _ (.tail _ (.tail _ (.tail _ (.head _)))))))))))))) (xsc (.tail _ (.tail _ (.tail _ (.tail _ (.tail _ (.tail _ (.tail _ (.tail _ (.tail _ (.tail _ (.tail _ (.tail _ (.tail _ (.tail _ (.head _))))))))))))))) (xsc (.tail _ (.tail _ (.tail _ (.tail _ (.tail _ (.tail _ (.tail _ (.tail _ (.tail _ (.tail _ (.tail _ (.tail _ (.tail _ (.tail _ (.tail _ (.head _)))))))))))))))) (xsc (.head _) xsn)))))))))))))))) (show ([18, 0, 4, 5, 6, 7, 8, 9, 10, 11, 12, 13, 14, 15, 16, 17] : List Nat).Nodup from by decide) (hK347 v0 v4 v5 v6 v7 v8 v9 v10 v11 v12 v13 v14 v15 v16 v17 (v18 + (1 : Int32)) M1)
def f_Law_areFree_603 (O : Nat → Option va_E) (f : Nat) (K347 : Nat → Nat → Int32 → Int32 → Nat → Int32 → Int32 → Int32 → Nat → Nat → Int32 → Int32 → Int32 → Int32 → Int32 → Int32 → xM → Option (Int32 × xM)) (v0 : Nat) (v4 : Nat) (v5 : Int32) (v6 : Int32) (v7 : Nat) (v8 : Int32) (v9 : Int32) (v10 : Int32) (v11 : Nat) (v12 : Nat) (v13 : Int32) (v14 : Int32) (v15 : Int32) (v16 : Int32) (v17 : Int32) (v18 : Int32) (s0 : Nat) (s1 : Int32) (s2 : Int32) (M : xM) : Option (Int32 × xM) :=
  f_Law_areFree_608 O f K347 v0 v4 v5 v6 v7 v8 v9 v10 v11 v12 v13 v14 v15 v16 v17 v18 s0 s1 s2 (1 : Int32) M
set_option maxRecDepth 20000 in
theorem k_f_Law_areFree_603 (O : Nat → Option va_E) (f d : Nat) (K347 : Nat → Nat → Int32 → Int32 → Nat → Int32 → Int32 → Int32 → Nat → Nat → Int32 → Int32 → Int32 → Int32 → Int32 → Int32 → xM → Option (Int32 × xM)) (hK347 : ∀ (v0 : Nat) (v4 : Nat) (v5 : Int32) (v6 : Int32) (v7 : Nat) (v8 : Int32) (v9 : Int32) (v10 : Int32) (v11 : Nat) (v12 : Nat) (v13 : Int32) (v14 : Int32) (v15 : Int32) (v16 : Int32) (v17 : Int32) (v18 : Int32) M, xZ oI O (d + 9) 145 347 [(0, .ref v0), (4, .ref v4), (5, .int v5), (6, .int v6), (7, .ref v7), (8, .int v8), (9, .int v9), (10, .int v10), (11, .ref v11), (12, .ref v12), (13, .int v13), (14, .int v14), (15, .int v15), (16, .int v16), (17, .int v17), (18, .int v18)] [] M (K347 v0 v4 v5 v6 v7 v8 v9 v10 v11 v12 v13 v14 v15 v16 v17 v18 M)) (v0 : Nat) (v4 : Nat) (v5 : Int32) (v6 : Int32) (v7 : Nat) (v8 : Int32) (v9 : Int32) (v10 : Int32) (v11 : Nat) (v12 : Nat) (v13 : Int32) (v14 : Int32) (v15 : Int32) (v16 : Int32) (v17 : Int32) (v18 : Int32) (s0 : Nat) (s1 : Int32) (s2 : Int32) (M : xM) : xZ oI O (d + 9) 145 603 [(0, .ref v0), (4, .ref v4), (5, .int v5), (6, .int v6), (7, .ref v7), (8, .int v8), (9, .int v9), (10, .int v10), (11, .ref v11), (12, .ref v12), (13, .int v13), (14, .int v14), (15, .int v15), (16, .int v16), (17, .int v17), (18, .int v18)] [.int s2, .int s1, .ref s0] M (f_Law_areFree_603 O f K347 v0 v4 v5 v6 v7 v8 v9 v10 v11 v12 v13 v14 v15 v16 v17 v18 s0 s1 s2 M) := by
  unfold f_Law_areFree_603
  refine xZ.adv (me := xm145) hP_145 2 (pc' := 608) (lv' := [(0, .ref v0), (4, .ref v4), (5, .int v5), (6, .int v6), (7, .ref v7), (8, .int v8), (9, .int v9), (10, .int v10), (11, .ref v11), (12, .ref v12), (13, .int v13), (14, .int v14), (15, .int v15), (16, .int v16), (17, .int v17), (18, .int v18)]) (st' := [.int (1 : Int32), .int s2, .int s1, .ref s0]) rfl ?_
  exact (k_f_Law_areFree_608 O f d K347 hK347 v0 v4 v5 v6 v7 v8 v9 v10 v11 v12 v13 v14 v15 v16 v17 v18 s0 s1 s2 (1 : Int32) M)
def f_Law_areFree_607 (O : Nat → Option va_E) (f : Nat) (K347 : Nat → Nat → Int32 → Int32 → Nat → Int32 → Int32 → Int32 → Nat → Nat → Int32 → Int32 → Int32 → Int32 → Int32 → Int32 → xM → Option (Int32 × xM)) (v0 : Nat) (v4 : Nat) (v5 : Int32) (v6 : Int32) (v7 : Nat) (v8 : Int32) (v9 : Int32) (v10 : Int32) (v11 : Nat) (v12 : Nat) (v13 : Int32) (v14 : Int32) (v15 : Int32) (v16 : Int32) (v17 : Int32) (v18 : Int32) (s0 : Nat) (s1 : Int32) (s2 : Int32) (M : xM) : Option (Int32 × xM) :=
  f_Law_areFree_608 O f K347 v0 v4 v5 v6 v7 v8 v9 v10 v11 v12 v13 v14 v15 v16 v17 v18 s0 s1 s2 (0 : Int32) M
set_option maxRecDepth 20000 in
theorem k_f_Law_areFree_607 (O : Nat → Option va_E) (f d : Nat) (K347 : Nat → Nat → Int32 → Int32 → Nat → Int32 → Int32 → Int32 → Nat → Nat → Int32 → Int32 → Int32 → Int32 → Int32 → Int32 → xM → Option (Int32 × xM)) (hK347 : ∀ (v0 : Nat) (v4 : Nat) (v5 : Int32) (v6 : Int32) (v7 : Nat) (v8 : Int32) (v9 : Int32) (v10 : Int32) (v11 : Nat) (v12 : Nat) (v13 : Int32) (v14 : Int32) (v15 : Int32) (v16 : Int32) (v17 : Int32) (v18 : Int32) M, xZ oI O (d + 9) 145 347 [(0, .ref v0), (4, .ref v4), (5, .int v5), (6, .int v6), (7, .ref v7), (8, .int v8), (9, .int v9), (10, .int v10), (11, .ref v11), (12, .ref v12), (13, .int v13), (14, .int v14), (15, .int v15), (16, .int v16), (17, .int v17), (18, .int v18)] [] M (K347 v0 v4 v5 v6 v7 v8 v9 v10 v11 v12 v13 v14 v15 v16 v17 v18 M)) (v0 : Nat) (v4 : Nat) (v5 : Int32) (v6 : Int32) (v7 : Nat) (v8 : Int32) (v9 : Int32) (v10 : Int32) (v11 : Nat) (v12 : Nat) (v13 : Int32) (v14 : Int32) (v15 : Int32) (v16 : Int32) (v17 : Int32) (v18 : Int32) (s0 : Nat) (s1 : Int32) (s2 : Int32) (M : xM) : xZ oI O (d + 9) 145 607 [(0, .ref v0), (4, .ref v4), (5, .int v5), (6, .int v6), (7, .ref v7), (8, .int v8), (9, .int v9), (10, .int v10), (11, .ref v11), (12, .ref v12), (13, .int v13), (14, .int v14), (15, .int v15), (16, .int v16), (17, .int v17), (18, .int v18)] [.int s2, .int s1, .ref s0] M (f_Law_areFree_607 O f K347 v0 v4 v5 v6 v7 v8 v9 v10 v11 v12 v13 v14 v15 v16 v17 v18 s0 s1 s2 M) := by
  unfold f_Law_areFree_607
  refine xZ.adv (me := xm145) hP_145 1 (pc' := 608) (lv' := [(0, .ref v0), (4, .ref v4), (5, .int v5), (6, .int v6), (7, .ref v7), (8, .int v8), (9, .int v9), (10, .int v10), (11, .ref v11), (12, .ref v12), (13, .int v13), (14, .int v14), (15, .int v15), (16, .int v16), (17, .int v17), (18, .int v18)]) (st' := [.int (0 : Int32), .int s2, .int s1, .ref s0]) rfl ?_
  exact (k_f_Law_areFree_608 O f d K347 hK347 v0 v4 v5 v6 v7 v8 v9 v10 v11 v12 v13 v14 v15 v16 v17 v18 s0 s1 s2 (0 : Int32) M)
def f_Law_areFree_570 (O : Nat → Option va_E) (f : Nat) (K347 : Nat → Nat → Int32 → Int32 → Nat → Int32 → Int32 → Int32 → Nat → Nat → Int32 → Int32 → Int32 → Int32 → Int32 → Int32 → xM → Option (Int32 × xM)) (v0 : Nat) (v4 : Nat) (v5 : Int32) (v6 : Int32) (v7 : Nat) (v8 : Int32) (v9 : Int32) (v10 : Int32) (v11 : Nat) (v12 : Nat) (v13 : Int32) (v14 : Int32) (v15 : Int32) (v16 : Int32) (v17 : Int32) (v18 : Int32) (v19 : Int32) (s0 : Nat) (s1 : Int32) (s2 : Int32) (M : xM) : Option (Int32 × xM) :=
  (wI M s0 s1 s2).bind fun M1 =>
  (aB O M1 v11 v18).bind fun x1 =>
  if ((v8 >>> (v13 &&& 31)) &&& (1 : Int32)) = (1 : Int32) then (
    if 0 < v19 then (
      f_Law_areFree_603 O f K347 v0 v4 v5 v6 v7 v8 v9 v10 v11 v12 v13 v14 v15 v16 v17 v18 v11 v18 x1 M1
    ) else
    if v10 = 0 then (
      f_Law_areFree_607 O f K347 v0 v4 v5 v6 v7 v8 v9 v10 v11 v12 v13 v14 v15 v16 v17 v18 v11 v18 x1 M1
    ) else
    if v17 = 0 then (
      f_Law_areFree_603 O f K347 v0 v4 v5 v6 v7 v8 v9 v10 v11 v12 v13 v14 v15 v16 v17 v18 v11 v18 x1 M1
    ) else
    f_Law_areFree_607 O f K347 v0 v4 v5 v6 v7 v8 v9 v10 v11 v12 v13 v14 v15 v16 v17 v18 v11 v18 x1 M1
  ) else
  f_Law_areFree_607 O f K347 v0 v4 v5 v6 v7 v8 v9 v10 v11 v12 v13 v14 v15 v16 v17 v18 v11 v18 x1 M1
set_option maxRecDepth 20000 in
theorem k_f_Law_areFree_570 (O : Nat → Option va_E) (f d : Nat) (K347 : Nat → Nat → Int32 → Int32 → Nat → Int32 → Int32 → Int32 → Nat → Nat → Int32 → Int32 → Int32 → Int32 → Int32 → Int32 → xM → Option (Int32 × xM)) (hK347 : ∀ (v0 : Nat) (v4 : Nat) (v5 : Int32) (v6 : Int32) (v7 : Nat) (v8 : Int32) (v9 : Int32) (v10 : Int32) (v11 : Nat) (v12 : Nat) (v13 : Int32) (v14 : Int32) (v15 : Int32) (v16 : Int32) (v17 : Int32) (v18 : Int32) M, xZ oI O (d + 9) 145 347 [(0, .ref v0), (4, .ref v4), (5, .int v5), (6, .int v6), (7, .ref v7), (8, .int v8), (9, .int v9), (10, .int v10), (11, .ref v11), (12, .ref v12), (13, .int v13), (14, .int v14), (15, .int v15), (16, .int v16), (17, .int v17), (18, .int v18)] [] M (K347 v0 v4 v5 v6 v7 v8 v9 v10 v11 v12 v13 v14 v15 v16 v17 v18 M)) (v0 : Nat) (v4 : Nat) (v5 : Int32) (v6 : Int32) (v7 : Nat) (v8 : Int32) (v9 : Int32) (v10 : Int32) (v11 : Nat) (v12 : Nat) (v13 : Int32) (v14 : Int32) (v15 : Int32) (v16 : Int32) (v17 : Int32) (v18 : Int32) (v19 : Int32) (s0 : Nat) (s1 : Int32) (s2 : Int32) (M : xM) : xZ oI O (d + 9) 145 570 [(0, .ref v0), (4, .ref v4), (5, .int v5), (6, .int v6), (7, .ref v7), (8, .int v8), (9, .int v9), (10, .int v10), (11, .ref v11), (12, .ref v12), (13, .int v13), (14, .int v14), (15, .int v15), (16, .int v16), (17, .int v17), (18, .int v18), (19, .int v19)] [.int s2, .int s1, .ref s0] M (f_Law_areFree_570 O f K347 v0 v4 v5 v6 v7 v8 v9 v10 v11 v12 v13 v14 v15 v16 v17 v18 v19 s0 s1 s2 M) := by
  unfold f_Law_areFree_570
  refine xZ.k_wI (me := xm145) hP_145 rfl (fun M1 => ?_)
  refine xZ.adv (me := xm145) hP_145 3 (pc' := 576) (lv' := [(0, .ref v0), (4, .ref v4), (5, .int v5), (6, .int v6), (7, .ref v7), (8, .int v8), (9, .int v9), (10, .int v10), (11, .ref v11), (12, .ref v12), (13, .int v13), (14, .int v14), (15, .int v15), (16, .int v16), (17, .int v17), (18, .int v18), (19, .int v19)]) (st' := [.int v18, .ref v11, .int v18, .ref v11]) rfl ?_
  refine xZ.k_aB (me := xm145) hP_145 rfl (fun x1 => ?_)
  refine xZ.adv (me := xm145) hP_145 6 (pc' := 585) (lv' := [(0, .ref v0), (4, .ref v4), (5, .int v5), (6, .int v6), (7, .ref v7), (8, .int v8), (9, .int v9), (10, .int v10), (11, .ref v11), (12, .ref v12), (13, .int v13), (14, .int v14), (15, .int v15), (16, .int v16), (17, .int v17), (18, .int v18), (19, .int v19)]) (st' := [.int (1 : Int32), .int ((v8 >>> (v13 &&& 31)) &&& (1 : Int32)), .int x1, .int v18, .ref v11]) rfl ?_
  refine xZ.ic_ne (me := xm145) hP_145 rfl (fun h1 => ?_) (fun h1 => ?_)
  · skip
    refine xZ.adv (me := xm145) hP_145 1 (pc' := 590) (lv' := [(0, .ref v0), (4, .ref v4), (5, .int v5), (6, .int v6), (7, .ref v7), (8, .int v8), (9, .int v9), (10, .int v10), (11, .ref v11), (12, .ref v12), (13, .int v13), (14, .int v14), (15, .int v15), (16, .int v16), (17, .int v17), (18, .int v18), (19, .int v19)]) (st' := [.int v19, .int x1, .int v18, .ref v11]) rfl ?_
    refine xZ.if_gt (me := xm145) hP_145 rfl (fun h2 => ?_) (fun h2 => ?_)
    · skip
      exact xZ.sub (xsc (.head _) (xsc (.tail _ (.head _)) (xsc (.tail _ (.tail _ (.head _))) (xsc (.tail _ (.tail _ (.tail _ (.head _)))) (xsc (.tail _ (.tail _ (.tail _ (.tail _ (.head _))))) (xsc (.tail _ (.tail _ (.tail _ (.tail _ (.tail _ (.head _)))))) (xsc (.tail _ (.tail _ (.tail _ (.tail _ (.tail _ (.tail _ (.head _))))))) (xsc (.tail _ (.tail _ (.tail _ (.tail _ (.tail _ (.tail _ (.tail _ (.head _)))))))) (xsc (.tail _ (.tail _ (.tail _ (.tail _ (.tail _ (.tail _ (.tail _ (.tail _ (.head _))))))))) (xsc (.tail _ (.tail _ (.tail _ (.tail _ (.tail _ (.tail _ (.tail _ (.tail _ (.tail _ (.head _)))))))))) (xsc (.tail _ (.tail _ (.tail _ (.tail _ (.tail _ (.tail _ (.tail _ (.tail _ (.tail _ (.tail _ (.head _))))))))))) (xsc (.tail _ (.tail _ (.tail _ (.tail _ (.tail _ (.tail _ (.tail _ (.tail _ (.tail _ (.tail _ (.tail _ (.head _)))))))))))) (xsc (.tail _ (.tail _ (.tail _ (.tail _ (.tail _ (.tail _ (.tail _ (.tail _ (.tail _ (.tail _ (.tail _ (.tail _ (.head _))))))))))))) (xsc (.tail _ (.tail _ (.tail _ (.tail _ (.tail _ (.tail _ (.tail _ (.tail _ (.tail _ (.tail _ (.tail _ (.tail _ (.tail _ (.head _)))))))))))))) (xsc (.tail _ (.tail _ (.tail _ (.tail _ (.tail _ (.tail _ (.tail _ (.tail _ (.tail _ (.tail _ (.tail _ (.tail _ (.tail _ (.tail _ (.head _))))))))))))))) (xsc (.tail _ (.tail _ (.tail _ (.tail _ (.tail _ (.tail _ (.tail _ (.tail _ (.tail _ (.tail _ (.tail _ (.tail _ (.tail _ (.tail _ (.tail _ (.head _)))))))))))))))) xsn)))))))))))))))) (show ([0, 4, 5, 6, 7, 8, 9, 10, 11, 12, 13, 14, 15, 16, 17, 18, 19] : List Nat).Nodup from by decide) (k_f_Law_areFree_603 O f d K347 hK347 v0 v4 v5 v6 v7 v8 v9 v10 v11 v12 v13 v14 v15 v16 v17 v18 v11 v18 x1 M1)
    · skip
      refine xZ.adv (me := xm145) hP_145 1 (pc' := 595) (lv' := [(0, .ref v0), (4, .ref v4), (5, .int v5), (6, .int v6), (7, .ref v7), (8, .int v8), (9, .int v9), (10, .int v10), (11, .ref v11), (12, .ref v12), (13, .int v13), (14, .int v14), (15, .int v15), (16, .int v16), (17, .int v17), (18, .int v18), (19, .int v19)]) (st' := [.int v10, .int x1, .int v18, .ref v11]) rfl ?_
      refine xZ.if_eq (me := xm145) hP_145 rfl (fun h3 => ?_) (fun h3 => ?_)
      · skip
        exact xZ.sub (xsc (.head _) (xsc (.tail _ (.head _)) (xsc (.tail _ (.tail _ (.head _))) (xsc (.tail _ (.tail _ (.tail _ (.head _)))) (xsc (.tail _ (.tail _ (.tail _ (.tail _ (.head _))))) (xsc (.tail _ (.tail _ (.tail _ (.tail _ (.tail _ (.head _)))))) (xsc (.tail _ (.tail _ (.tail _ (.tail _ (.tail _ (.tail _ (.head _))))))) (xsc (.tail _ (.tail _ (.tail _ (.tail _ (.tail _ (.tail _ (.tail _ (.head _)))))))) (xsc (.tail _ (.tail _ (.tail _ (.tail _ (.tail _ (.tail _ (.tail _ (.tail _ (.head _))))))))) (xsc (.tail _ (.tail _ (.tail _ (.tail _ (.tail _ (.tail _ (.tail _ (.tail _ (.tail _ (.head _)))))))))) (xsc (.tail _ (.tail _ (.tail _ (.tail _ (.tail _ (.tail _ (.tail _ (.tail _ (.tail _ (.tail _ (.head _))))))))))) (xsc (.tail _ (.tail _ (.tail _ (.tail _ (.tail _ (.tail _ (.tail _ (.tail _ (.tail _ (.tail _ (.tail _ (.head _)))))))))))) (xsc (.tail _ (.tail _ (.tail _ (.tail _ (.tail _ (.tail _ (.tail _ (.tail _ (.tail _ (.tail _ (.tail _ (.tail _ (.head _))))))))))))) (xsc (.tail _ (.tail _ (.tail _ (.tail _ (.tail _ (.tail _ (.tail _ (.tail _ (.tail _ (.tail _ (.tail _ (.tail _ (.tail _ (.head _)))))))))))))) (xsc (.tail _ (.tail _ (.tail _ (.tail _ (.tail _ (.tail _ (.tail _ (.tail _ (.tail _ (.tail _ (.tail _ (.tail _ (.tail _ (.tail _ (.head _))))))))))))))) (xsc (.tail _ (.tail _ (.tail _ (.tail _ (.tail _ (.tail _ (.tail _ (.tail _ (.tail _ (.tail _ (.tail _ (.tail _ (.tail _ (.tail _ (.tail _ (.head _)))))))))))))))) xsn)))))))))))))))) (show ([0, 4, 5, 6, 7, 8, 9, 10, 11, 12, 13, 14, 15, 16, 17, 18, 19] : List Nat).Nodup from by decide) (k_f_Law_areFree_607 O f d K347 hK347 v0 v4 v5 v6 v7 v8 v9 v10 v11 v12 v13 v14 v15 v16 v17 v18 v11 v18 x1 M1)
      · skip
        refine xZ.adv (me := xm145) hP_145 1 (pc' := 600) (lv' := [(0, .ref v0), (4, .ref v4), (5, .int v5), (6, .int v6), (7, .ref v7), (8, .int v8), (9, .int v9), (10, .int v10), (11, .ref v11), (12, .ref v12), (13, .int v13), (14, .int v14), (15, .int v15), (16, .int v16), (17, .int v17), (18, .int v18), (19, .int v19)]) (st' := [.int v17, .int x1, .int v18, .ref v11]) rfl ?_
        refine xZ.if_ne (me := xm145) hP_145 rfl (fun h4 => ?_) (fun h4 => ?_)
        · skip
          exact xZ.sub (xsc (.head _) (xsc (.tail _ (.head _)) (xsc (.tail _ (.tail _ (.head _))) (xsc (.tail _ (.tail _ (.tail _ (.head _)))) (xsc (.tail _ (.tail _ (.tail _ (.tail _ (.head _))))) (xsc (.tail _ (.tail _ (.tail _ (.tail _ (.tail _ (.head _)))))) (xsc (.tail _ (.tail _ (.tail _ (.tail _ (.tail _ (.tail _ (.head _))))))) (xsc (.tail _ (.tail _ (.tail _ (.tail _ (.tail _ (.tail _ (.tail _ (.head _)))))))) (xsc (.tail _ (.tail _ (.tail _ (.tail _ (.tail _ (.tail _ (.tail _ (.tail _ (.head _))))))))) (xsc (.tail _ (.tail _ (.tail _ (.tail _ (.tail _ (.tail _ (.tail _ (.tail _ (.tail _ (.head _)))))))))) (xsc (.tail _ (.tail _ (.tail _ (.tail _ (.tail _ (.tail _ (.tail _ (.tail _ (.tail _ (.tail _ (.head _))))))))))) (xsc (.tail _ (.tail _ (.tail _ (.tail _ (.tail _ (.tail _ (.tail _ (.tail _ (.tail _ (.tail _ (.tail _ (.head _)))))))))))) (xsc (.tail _ (.tail _ (.tail _ (.tail _ (.tail _ (.tail _ (.tail _ (.tail _ (.tail _ (.tail _ (.tail _ (.tail _ (.head _))))))))))))) (xsc (.tail _ (.tail _ (.tail _ (.tail _ (.tail _ (.tail _ (.tail _ (.tail _ (.tail _ (.tail _ (.tail _ (.tail _ (.tail _ (.head _)))))))))))))) (xsc (.tail _ (.tail _ (.tail _ (.tail _ (.tail _ (.tail _ (.tail _ (.tail _ (.tail _ (.tail _ (.tail _ (.tail _ (.tail _ (.tail _ (.head _))))))))))))))) (xsc (.tail _ (.tail _ (.tail _ (.tail _ (.tail _ (.tail _ (.tail _ (.tail _ (.tail _ (.tail _ (.tail _ (.tail _ (.tail _ (.tail _ (.tail _ (.head _)))))))))))))))) xsn)))))))))))))))) (show ([0, 4, 5, 6, 7, 8, 9, 10, 11, 12, 13, 14, 15, 16, 17, 18, 19] : List Nat).Nodup from by decide) (k_f_Law_areFree_603 O f d K347 hK347 v0 v4 v5 v6 v7 v8 v9 v10 v11 v12 v13 v14 v15 v16 v17 v18 v11 v18 x1 M1)
        · skip
          exact xZ.sub (xsc (.head _) (xsc (.tail _ (.head _)) (xsc (.tail _ (.tail _ (.head _))) (xsc (.tail _ (.tail _ (.tail _ (.head _)))) (xsc (.tail _ (.tail _ (.tail _ (.tail _ (.head _))))) (xsc (.tail _ (.tail _ (.tail _ (.tail _ (.tail _ (.head _)))))) (xsc (.tail _ (.tail _ (.tail _ (.tail _ (.tail _ (.tail _ (.head _))))))) (xsc (.tail _ (.tail _ (.tail _ (.tail _ (.tail _ (.tail _ (.tail _ (.head _)))))))) (xsc (.tail _ (.tail _ (.tail _ (.tail _ (.tail _ (.tail _ (.tail _ (.tail _ (.head _))))))))) (xsc (.tail _ (.tail _ (.tail _ (.tail _ (.tail _ (.tail _ (.tail _ (.tail _ (.tail _ (.head _)))))))))) (xsc (.tail _ (.tail _ (.tail _ (.tail _ (.tail _ (.tail _ (.tail _ (.tail _ (.tail _ (.tail _ (.head _))))))))))) (xsc (.tail _ (.tail _ (.tail _ (.tail _ (.tail _ (.tail _ (.tail _ (.tail _ (.tail _ (.tail _ (.tail _ (.head _)))))))))))) (xsc (.tail _ (.tail _ (.tail _ (.tail _ (.tail _ (.tail _ (.tail _ (.tail _ (.tail _ (.tail _ (.tail _ (.tail _ (.head _))))))))))))) (xsc (.tail _ (.tail _ (.tail _ (.tail _ (.tail _ (.tail _ (.tail _ (.tail _ (.tail _ (.tail _ (.tail _ (.tail _ (.tail _ (.head _)))))))))))))) (xsc (.tail _ (.tail _ (.tail _ (.tail _ (.tail _ (.tail _ (.tail _ (.tail _ (.tail _ (.tail _ (.tail _ (.tail _ (.tail _ (.tail _ (.head _))))))))))))))) (xsc (.tail _ (.tail _ (.tail _ (.tail _ (.tail _ (.tail _ (.tail _ (.tail _ (.tail _ (.tail _ (.tail _ (.tail _ (.tail _ (.tail _ (.tail _ (.head _)))))))))))))))) xsn)))))))))))))))) (show ([0, 4, 5, 6, 7, 8, 9, 10, 11, 12, 13, 14, 15, 16, 17, 18, 19] : List Nat).Nodup from by decide) (k_f_Law_areFree_607 O f d K347 hK347 v0 v4 v5 v6 v7 v8 v9 v10 v11 v12 v13 v14 v15 v16 v17 v18 v11 v18 x1 M1)
  · skip
    exact xZ.sub (xsc (.head _) (xsc (.tail _ (.head _)) (xsc (.tail _ (.tail _ (.head _))) (xsc (.tail _ (.tail _ (.tail _ (.head _)))) (xsc (.tail _ (.tail _ (.tail _ (.tail _ (.head _))))) (xsc (.tail _ (.tail _ (.tail _ (.tail _ (.tail _ (.head _)))))) (xsc (.tail _ (.tail _ (.tail _ (.tail _ (.tail _ (.tail _ (.head _))))))) (xsc (.tail _ (.tail _ (.tail _ (.tail _ (.tail _ (.tail _ (.tail _ (.head _)))))))) (xsc (.tail _ (.tail _ (.tail _ (.tail _ (.tail _ (.tail _ (.tail _ (.tail _ (.head _))))))))) (xsc (.tail _ (.tail _ (.tail _ (.tail _ (.tail _ (.tail _ (.tail _ (.tail _ (.tail _ (.head _)))))))))) (xsc (.tail _ (.tail _ (.tail _ (.tail _ (.tail _ (.tail _ (.tail _ (.tail _ (.tail _ (.tail _ (.head _))))))))))) (xsc (.tail _ (.tail _ (.tail _ (.tail _ (.tail _ (.tail _ (.tail _ (.tail _ (.tail _ (.tail _ (.tail _ (.head _)))))))))))) (xsc (.tail _ (.tail _ (.tail _ (.tail _ (.tail _ (.tail _ (.tail _ (.tail _ (.tail _ (.tail _ (.tail _ (.tail _ (.head _))))))))))))) (xsc (.tail _ (.tail _ (.tail _ (.tail _ (.tail _ (.tail _ (.tail _ (.tail _ (.tail _ (.tail _ (.tail _ (.tail _ (.tail _ (.head _)))))))))))))) (xsc (.tail _ (.tail _ (.tail _ (.tail _ (.tail _ (.tail _ (.tail _ (.tail _ (.tail _ (.tail _ (.tail _ (.tail _ (.tail _ (.tail _ (.head _))))))))))))))) (xsc (.tail _ (.tail _ (.tail _ (.tail _ (.tail _ (.tail _ (.tail _ (.tail _ (.tail _ (.tail _ (.tail _ (.tail _ (.tail _ (.tail _ (.tail _ (.head _)))))))))))))))) xsn)))))))))))))))) (show ([0, 4, 5, 6, 7, 8, 9, 10, 11, 12, 13, 14, 15, 16, 17, 18, 19] : List Nat).Nodup from by decide) (k_f_Law_areFree_607 O f d K347 hK347 v0 v4 v5 v6 v7 v8 v9 v10 v11 v12 v13 v14 v15 v16 v17 v18 v11 v18 x1 M1)
def f_Law_areFree_541 (O : Nat → Option va_E) (f : Nat) (K347 : Nat → Nat → Int32 → Int32 → Nat → Int32 → Int32 → Int32 → Nat → Nat → Int32 → Int32 → Int32 → Int32 → Int32 → Int32 → xM → Option (Int32 × xM)) (v0 : Nat) (v4 : Nat) (v5 : Int32) (v6 : Int32) (v7 : Nat) (v8 : Int32) (v9 : Int32) (v10 : Int32) (v11 : Nat) (v12 : Nat) (v13 : Int32) (v14 : Int32) (v16 : Int32) (v17 : Int32) (v18 : Int32) (v19 : Int32) (s0 : Int32) (s1 : Int32) (M : xM) : Option (Int32 × xM) :=
  (aR O M v12 v13).bind fun x1 =>
  if v19 ≤ 0 then (
    if v17 = 0 then (
      f_Law_areFree_570 O f K347 v0 v4 v5 v6 v7 v8 v9 v10 v11 v12 v13 v14 (s0 + s1) v16 v17 v18 v19 x1 v18 (1 : Int32) M
    ) else
    f_Law_areFree_570 O f K347 v0 v4 v5 v6 v7 v8 v9 v10 v11 v12 v13 v14 (s0 + s1) v16 v17 v18 v19 x1 v18 (0 : Int32) M
  ) else
  f_Law_areFree_570 O f K347 v0 v4 v5 v6 v7 v8 v9 v10 v11 v12 v13 v14 (s0 + s1) v16 v17 v18 v19 x1 v18 (3 : Int32) M
set_option maxRecDepth 20000 in
theorem k_f_Law_areFree_541 (O : Nat → Option va_E) (f d : Nat) (K347 : Nat → Nat → Int32 → Int32 → Nat → Int32 → Int32 → Int32 → Nat → Nat → Int32 → Int32 → Int32 → Int32 → Int32 → Int32 → xM → Option (Int32 × xM)) (hK347 : ∀ (v0 : Nat) (v4 : Nat) (v5 : Int32) (v6 : Int32) (v7 : Nat) (v8 : Int32) (v9 : Int32) (v10 : Int32) (v11 : Nat) (v12 : Nat) (v13 : Int32) (v14 : Int32) (v15 : Int32) (v16 : Int32) (v17 : Int32) (v18 : Int32) M, xZ oI O (d + 9) 145 347 [(0, .ref v0), (4, .ref v4), (5, .int v5), (6, .int v6), (7, .ref v7), (8, .int v8), (9, .int v9), (10, .int v10), (11, .ref v11), (12, .ref v12), (13, .int v13), (14, .int v14), (15, .int v15), (16, .int v16), (17, .int v17), (18, .int v18)] [] M (K347 v0 v4 v5 v6 v7 v8 v9 v10 v11 v12 v13 v14 v15 v16 v17 v18 M)) (v0 : Nat) (v4 : Nat) (v5 : Int32) (v6 : Int32) (v7 : Nat) (v8 : Int32) (v9 : Int32) (v10 : Int32) (v11 : Nat) (v12 : Nat) (v13 : Int32) (v14 : Int32) (v16 : Int32) (v17 : Int32) (v18 : Int32) (v19 : Int32) (s0 : Int32) (s1 : Int32) (M : xM) : xZ oI O (d + 9) 145 541 [(0, .ref v0), (4, .ref v4), (5, .int v5), (6, .int v6), (7, .ref v7), (8, .int v8), (9, .int v9), (10, .int v10), (11, .ref v11), (12, .ref v12), (13, .int v13), (14, .int v14), (16, .int v16), (17, .int v17), (18, .int v18), (19, .int v19)] [.int s1, .int s0] M (f_Law_areFree_541 O f K347 v0 v4 v5 v6 v7 v8 v9 v10 v11 v12 v13 v14 v16 v17 v18 v19 s0 s1 M) := by
  unfold f_Law_areFree_541
  refine xZ.adv (me := xm145) hP_145 4 (pc' := 548) (lv' := [(15, .int (s0 + s1)), (0, .ref v0), (4, .ref v4), (5, .int v5), (6, .int v6), (7, .ref v7), (8, .int v8), (9, .int v9), (10, .int v10), (11, .ref v11), (12, .ref v12), (13, .int v13), (14, .int v14), (16, .int v16), (17, .int v17), (18, .int v18), (19, .int v19)]) (st' := [.int v13, .ref v12]) rfl ?_
  refine xZ.k_aR (me := xm145) hP_145 rfl (fun x1 => ?_)
  refine xZ.adv (me := xm145) hP_145 2 (pc' := 553) (lv' := [(15, .int (s0 + s1)), (0, .ref v0), (4, .ref v4), (5, .int v5), (6, .int v6), (7, .ref v7), (8, .int v8), (9, .int v9), (10, .int v10), (11, .ref v11), (12, .ref v12), (13, .int v13), (14, .int v14), (16, .int v16), (17, .int v17), (18, .int v18), (19, .int v19)]) (st' := [.int v19, .int v18, .ref x1]) rfl ?_
  refine xZ.if_le (me := xm145) hP_145 rfl (fun h1 => ?_) (fun h1 => ?_)
  · skip
    refine xZ.adv (me := xm145) hP_145 1 (pc' := 562) (lv' := [(15, .int (s0 + s1)), (0, .ref v0), (4, .ref v4), (5, .int v5), (6, .int v6), (7, .ref v7), (8, .int v8), (9, .int v9), (10, .int v10), (11, .ref v11), (12, .ref v12), (13, .int v13), (14, .int v14), (16, .int v16), (17, .int v17), (18, .int v18), (19, .int v19)]) (st' := [.int v17, .int v18, .ref x1]) rfl ?_
    refine xZ.if_eq (me := xm145) hP_145 rfl (fun h2 => ?_) (fun h2 => ?_)
    · skip
      refine xZ.adv (me := xm145) hP_145 1 (pc' := 570) (lv' := [(15, .int (s0 + s1)), (0, .ref v0), (4, .ref v4), (5, .int v5), (6, .int v6), (7, .ref v7), (8, .int v8), (9, .int v9), (10, .int v10), (11, .ref v11), (12, .ref v12), (13, .int v13), (14, .int v14), (16, .int v16), (17, .int v17), (18, .int v18), (19, .int v19)]) (st' := [.int (1 : Int32), .int v18, .ref x1]) rfl ?_
      exact xZ.sub (xsc (.tail _ (.head _)) (xsc (.tail _ (.tail _ (.head _))) (xsc (.tail _ (.tail _ (.tail _ (.head _)))) (xsc (.tail _ (.tail _ (.tail _ (.tail _ (.head _))))) (xsc (.tail _ (.tail _ (.tail _ (.tail _ (.tail _ (.head _)))))) (xsc (.tail _ (.tail _ (.tail _ (.tail _ (.tail _ (.tail _ (.head _))))))) (xsc (.tail _ (.tail _ (.tail _ (.tail _ (.tail _ (.tail _ (.tail _ (.head _)))))))) (xsc (.tail _ (.tail _ (.tail _ (.tail _ (.tail _ (.tail _ (.tail _ (.tail _ (.head _))))))))) (xsc (.tail _ (.tail _ (.tail _ (.tail _ (.tail _ (.tail _ (.tail _ (.tail _ (.tail _ (.head _)))))))))) (xsc (.tail _ (.tail _ (.tail _ (.tail _ (.tail _ (.tail _ (.tail _ (.tail _ (.tail _ (.tail _ (.head _))))))))))) (xsc (.tail _ (.tail _ (.tail _ (.tail _ (.tail _ (.tail _ (.tail _ (.tail _ (.tail _ (.tail _ (.tail _ (.head _)))))))))))) (xsc (.tail _ (.tail _ (.tail _ (.tail _ (.tail _ (.tail _ (.tail _ (.tail _ (.tail _ (.tail _ (.tail _ (.tail _ (.head _))))))))))))) (xsc (.head _) (xsc (.tail _ (.tail _ (.tail _ (.tail _ (.tail _ (.tail _ (.tail _ (.tail _ (.tail _ (.tail _ (.tail _ (.tail _ (.tail _ (.head _)))))))))))))) (xsc (.tail _ (.tail _ (.tail _ (.tail _ (.tail _ (.tail _ (.tail _ (.tail _ (.tail _ (.tail _ (.tail _ (.tail _ (.tail _ (.tail _ (.head _))))))))))))))) (xsc (.tail _ (.tail _ (.tail _ (.tail _ (.tail _ (.tail _ (.tail _ (.tail _ (.tail _ (.tail _ (.tail _ (.tail _ (.tail _ (.tail _ (.tail _ (.head _)))))))))))))))) (xsc (.tail _ (.tail _ (.tail _ (.tail _ (.tail _ (.tail _ (.tail _ (.tail _ (.tail _ (.tail _ (.tail _ (.tail _ (.tail _ (.tail _ (.tail _ (.tail _ (.head _))))))))))))))))) xsn))))))))))))))))) (show ([15, 0, 4, 5, 6, 7, 8, 9, 10, 11, 12, 13, 14, 16, 17, 18, 19] : List Nat).Nodup from by decide) (k_f_Law_areFree_570 O f d K347 hK347 v0 v4 v5 v6 v7 v8 v9 v10 v11 v12 v13 v14 (s0 + s1) v16 v17 v18 v19 x1 v18 (1 : Int32) M)
    · skip
      refine xZ.adv (me := xm145) hP_145 2 (pc' := 570) (lv' := [(15, .int (s0 + s1)), (0, .ref v0), (4, .ref v4), (5, .int v5), (6, .int v6), (7, .ref v7), (8, .int v8), (9, .int v9), (10, .int v10), (11, .ref v11), (12, .ref v12), (13, .int v13), (14, .int v14), (16, .int v16), (17, .int v17), (18, .int v18), (19, .int v19)]) (st' := [.int (0 : Int32), .int v18, .ref x1]) rfl ?_
      exact xZ.sub (xsc (.tail _ (.head _)) (xsc (.tail _ (.tail _ (.head _))) (xsc (.tail _ (.tail _ (.tail _ (.head _)))) (xsc (.tail _ (.tail _ (.tail _ (.tail _ (.head _))))) (xsc (.tail _ (.tail _ (.tail _ (.tail _ (.tail _ (.head _)))))) (xsc (.tail _ (.tail _ (.tail _ (.tail _ (.tail _ (.tail _ (.head _))))))) (xsc (.tail _ (.tail _ (.tail _ (.tail _ (.tail _ (.tail _ (.tail _ (.head _)))))))) (xsc (.tail _ (.tail _ (.tail _ (.tail _ (.tail _ (.tail _ (.tail _ (.tail _ (.head _))))))))) (xsc (.tail _ (.tail _ (.tail _ (.tail _ (.tail _ (.tail _ (.tail _ (.tail _ (.tail _ (.head _)))))))))) (xsc (.tail _ (.tail _ (.tail _ (.tail _ (.tail _ (.tail _ (.tail _ (.tail _ (.tail _ (.tail _ (.head _))))))))))) (xsc (.tail _ (.tail _ (.tail _ (.tail _ (.tail _ (.tail _ (.tail _ (.tail _ (.tail _ (.tail _ (.tail _ (.head _)))))))))))) (xsc (.tail _ (.tail _ (.tail _ (.tail _ (.tail _ (.tail _ (.tail _ (.tail _ (.tail _ (.tail _ (.tail _ (.tail _ (.head _))))))))))))) (xsc (.head _) (xsc (.tail _ (.tail _ (.tail _ (.tail _ (.tail _ (.tail _ (.tail _ (.tail _ (.tail _ (.tail _ (.tail _ (.tail _ (.tail _ (.head _)))))))))))))) (xsc (.tail _ (.tail _ (.tail _ (.tail _ (.tail _ (.tail _ (.tail _ (.tail _ (.tail _ (.tail _ (.tail _ (.tail _ (.tail _ (.tail _ (.head _))))))))))))))) (xsc (.tail _ (.tail _ (.tail _ (.tail _ (.tail _ (.tail _ (.tail _ (.tail _ (.tail _ (.tail _ (.tail _ (.tail _ (.tail _ (.tail _ (.tail _ (.head _)))))))))))))))) (xsc (.tail _ (.tail _ (.tail _ (.tail _ (.tail _ (.tail _ (.tail _ (.tail _ (.tail _ (.tail _ (.tail _ (.tail _ (.tail _ (.tail _ (.tail _ (.tail _ (.head _))))))))))))))))) xsn))))))))))))))))) (show ([15, 0, 4, 5, 6, 7, 8, 9, 10, 11, 12, 13, 14, 16, 17, 18, 19] : List Nat).Nodup from by decide) (k_f_Law_areFree_570 O f d K347 hK347 v0 v4 v5 v6 v7 v8 v9 v10 v11 v12 v13 v14 (s0 + s1) v16 v17 v18 v19 x1 v18 (0 : Int32) M)
  · skip
    refine xZ.adv (me := xm145) hP_145 2 (pc' := 570) (lv' := [(15, .int (s0 + s1)), (0, .ref v0), (4, .ref v4), (5, .int v5), (6, .int v6), (7, .ref v7), (8, .int v8), (9, .int v9), (10, .int v10), (11, .ref v11), (12, .ref v12), (13, .int v13), (14, .int v14), (16, .int v16), (17, .int v17), (18, .int v18), (19, .int v19)]) (st' := [.int (3 : Int32), .int v18, .ref x1]) rfl ?_
    exact xZ.sub (xsc (.tail _ (.head _)) (xsc (.tail _ (.tail _ (.head _))) (xsc (.tail _ (.tail _ (.tail _ (.head _)))) (xsc (.tail _ (.tail _ (.tail _ (.tail _ (.head _))))) (xsc (.tail _ (.tail _ (.tail _ (.tail _ (.tail _ (.head _)))))) (xsc (.tail _ (.tail _ (.tail _ (.tail _ (.tail _ (.tail _ (.head _))))))) (xsc (.tail _ (.tail _ (.tail _ (.tail _ (.tail _ (.tail _ (.tail _ (.head _)))))))) (xsc (.tail _ (.tail _ (.tail _ (.tail _ (.tail _ (.tail _ (.tail _ (.tail _ (.head _))))))))) (xsc (.tail _ (.tail _ (.tail _ (.tail _ (.tail _ (.tail _ (.tail _ (.tail _ (.tail _ (.head _)))))))))) (xsc (.tail _ (.tail _ (.tail _ (.tail _ (.tail _ (.tail _ (.tail _ (.tail _ (.tail _ (.tail _ (.head _))))))))))) (xsc (.tail _ (.tail _ (.tail _ (.tail _ (.tail _ (.tail _ (.tail _ (.tail _ (.tail _ (.tail _ (.tail _ (.head _)))))))))))) (xsc (.tail _ (.tail _ (.tail _ (.tail _ (.tail _ (.tail _ (.tail _ (.tail _ (.tail _ (.tail _ (.tail _ (.tail _ (.head _))))))))))))) (xsc (.head _) (xsc (.tail _ (.tail _ (.tail _ (.tail _ (.tail _ (.tail _ (.tail _ (.tail _ (.tail _ (.tail _ (.tail _ (.tail _ (.tail _ (.head _)))))))))))))) (xsc (.tail _ (.tail _ (.tail _ (.tail _ (.tail _ (.tail _ (.tail _ (.tail _ (.tail _ (.tail _ (.tail _ (.tail _ (.tail _ (.tail _ (.head _))))))))))))))) (xsc (.tail _ (.tail _ (.tail _ (.tail _ (.tail _ (.tail _ (.tail _ (.tail _ (.tail _ (.tail _ (.tail _ (.tail _ (.tail _ (.tail _ (.tail _ (.head _)))))))))))))))) (xsc (.tail _ (.tail _ (.tail _ (.tail _ (.tail _ (.tail _ (.tail _ (.tail _ (.tail _ (.tail _ (.tail _ (.tail _ (.tail _ (.tail _ (.tail _ (.tail _ (.head _))))))))))))))))) xsn))))))))))))))))) (show ([15, 0, 4, 5, 6, 7, 8, 9, 10, 11, 12, 13, 14, 16, 17, 18, 19] : List Nat).Nodup from by decide) (k_f_Law_areFree_570 O f d K347 hK347 v0 v4 v5 v6 v7 v8 v9 v10 v11 v12 v13 v14 (s0 + s1) v16 v17 v18 v19 x1 v18 (3 : Int32) M)
def f_Law_areFree_540 (O : Nat → Option va_E) (f : Nat) (K347 : Nat → Nat → Int32 → Int32 → Nat → Int32 → Int32 → Int32 → Nat → Nat → Int32 → Int32 → Int32 → Int32 → Int32 → Int32 → xM → Option (Int32 × xM)) (v0 : Nat) (v4 : Nat) (v5 : Int32) (v6 : Int32) (v7 : Nat) (v8 : Int32) (v9 : Int32) (v10 : Int32) (v11 : Nat) (v12 : Nat) (v13 : Int32) (v14 : Int32) (v16 : Int32) (v17 : Int32) (v18 : Int32) (v19 : Int32) (s0 : Int32) (M : xM) : Option (Int32 × xM) :=
  f_Law_areFree_541 O f K347 v0 v4 v5 v6 v7 v8 v9 v10 v11 v12 v13 v14 v16 v17 v18 v19 s0 (0 : Int32) M
set_option maxRecDepth 20000 in
theorem k_f_Law_areFree_540 (O : Nat → Option va_E) (f d : Nat) (K347 : Nat → Nat → Int32 → Int32 → Nat → Int32 → Int32 → Int32 → Nat → Nat → Int32 → Int32 → Int32 → Int32 → Int32 → Int32 → xM → Option (Int32 × xM)) (hK347 : ∀ (v0 : Nat) (v4 : Nat) (v5 : Int32) (v6 : Int32) (v7 : Nat) (v8 : Int32) (v9 : Int32) (v10 : Int32) (v11 : Nat) (v12 : Nat) (v13 : Int32) (v14 : Int32) (v15 : Int32) (v16 : Int32) (v17 : Int32) (v18 : Int32) M, xZ oI O (d + 9) 145 347 [(0, .ref v0), (4, .ref v4), (5, .int v5), (6, .int v6), (7, .ref v7), (8, .int v8), (9, .int v9), (10, .int v10), (11, .ref v11), (12, .ref v12), (13, .int v13), (14, .int v14), (15, .int v15), (16, .int v16), (17, .int v17), (18, .int v18)] [] M (K347 v0 v4 v5 v6 v7 v8 v9 v10 v11 v12 v13 v14 v15 v16 v17 v18 M)) (v0 : Nat) (v4 : Nat) (v5 : Int32) (v6 : Int32) (v7 : Nat) (v8 : Int32) (v9 : Int32) (v10 : Int32) (v11 : Nat) (v12 : Nat) (v13 : Int32) (v14 : Int32) (v16 : Int32) (v17 : Int32) (v18 : Int32) (v19 : Int32) (s0 : Int32) (M : xM) : xZ oI O (d + 9) 145 540 [(0, .ref v0), (4, .ref v4), (5, .int v5), (6, .int v6), (7, .ref v7), (8, .int v8), (9, .int v9), (10, .int v10), (11, .ref v11), (12, .ref v12), (13, .int v13), (14, .int v14), (16, .int v16), (17, .int v17), (18, .int v18), (19, .int v19)] [.int s0] M (f_Law_areFree_540 O f K347 v0 v4 v5 v6 v7 v8 v9 v10 v11 v12 v13 v14 v16 v17 v18 v19 s0 M) := by
  unfold f_Law_areFree_540
  refine xZ.adv (me := xm145) hP_145 1 (pc' := 541) (lv' := [(0, .ref v0), (4, .ref v4), (5, .int v5), (6, .int v6), (7, .ref v7), (8, .int v8), (9, .int v9), (10, .int v10), (11, .ref v11), (12, .ref v12), (13, .int v13), (14, .int v14), (16, .int v16), (17, .int v17), (18, .int v18), (19, .int v19)]) (st' := [.int (0 : Int32), .int s0]) rfl ?_
  exact (k_f_Law_areFree_541 O f d K347 hK347 v0 v4 v5 v6 v7 v8 v9 v10 v11 v12 v13 v14 v16 v17 v18 v19 s0 (0 : Int32) M)
def f_Law_areFree_521 (O : Nat → Option va_E) (f : Nat) (K347 : Nat → Nat → Int32 → Int32 → Nat → Int32 → Int32 → Int32 → Nat → Nat → Int32 → Int32 → Int32 → Int32 → Int32 → Int32 → xM → Option (Int32 × xM)) (v0 : Nat) (v4 : Nat) (v5 : Int32) (v6 : Int32) (v7 : Nat) (v8 : Int32) (v9 : Int32) (v10 : Int32) (v11 : Nat) (v12 : Nat) (v13 : Int32) (v14 : Int32) (v15 : Int32) (v17 : Int32) (v18 : Int32) (v19 : Int32) (s0 : Int32) (s1 : Int32) (M : xM) : Option (Int32 × xM) :=
  if v19 ≤ 0 then (
    f_Law_areFree_540 O f K347 v0 v4 v5 v6 v7 v8 v9 v10 v11 v12 v13 v14 (s0 + s1) v17 v18 v19 v15 M
  ) else
  if v17 = 0 then (
    f_Law_areFree_540 O f K347 v0 v4 v5 v6 v7 v8 v9 v10 v11 v12 v13 v14 (s0 + s1) v17 v18 v19 v15 M
  ) else
  f_Law_areFree_541 O f K347 v0 v4 v5 v6 v7 v8 v9 v10 v11 v12 v13 v14 (s0 + s1) v17 v18 v19 v15 (1 : Int32) M
set_option maxRecDepth 20000 in
theorem k_f_Law_areFree_521 (O : Nat → Option va_E) (f d : Nat) (K347 : Nat → Nat → Int32 → Int32 → Nat → Int32 → Int32 → Int32 → Nat → Nat → Int32 → Int32 → Int32 → Int32 → Int32 → Int32 → xM → Option (Int32 × xM)) (hK347 : ∀ (v0 : Nat) (v4 : Nat) (v5 : Int32) (v6 : Int32) (v7 : Nat) (v8 : Int32) (v9 : Int32) (v10 : Int32) (v11 : Nat) (v12 : Nat) (v13 : Int32) (v14 : Int32) (v15 : Int32) (v16 : Int32) (v17 : Int32) (v18 : Int32) M, xZ oI O (d + 9) 145 347 [(0, .ref v0), (4, .ref v4), (5, .int v5), (6, .int v6), (7, .ref v7), (8, .int v8), (9, .int v9), (10, .int v10), (11, .ref v11), (12, .ref v12), (13, .int v13), (14, .int v14), (15, .int v15), (16, .int v16), (17, .int v17), (18, .int v18)] [] M (K347 v0 v4 v5 v6 v7 v8 v9 v10 v11 v12 v13 v14 v15 v16 v17 v18 M)) (v0 : Nat) (v4 : Nat) (v5 : Int32) (v6 : Int32) (v7 : Nat) (v8 : Int32) (v9 : Int32) (v10 : Int32) (v11 : Nat) (v12 : Nat) (v13 : Int32) (v14 : Int32) (v15 : Int32) (v17 : Int32) (v18 : Int32) (v19 : Int32) (s0 : Int32) (s1 : Int32) (M : xM) : xZ oI O (d + 9) 145 521 [(0, .ref v0), (4, .ref v4), (5, .int v5), (6, .int v6), (7, .ref v7), (8, .int v8), (9, .int v9), (10, .int v10), (11, .ref v11), (12, .ref v12), (13, .int v13), (14, .int v14), (15, .int v15), (17, .int v17), (18, .int v18), (19, .int v19)] [.int s1, .int s0] M (f_Law_areFree_521 O f K347 v0 v4 v5 v6 v7 v8 v9 v10 v11 v12 v13 v14 v15 v17 v18 v19 s0 s1 M) := by
  unfold f_Law_areFree_521
  refine xZ.adv (me := xm145) hP_145 4 (pc' := 528) (lv' := [(16, .int (s0 + s1)), (0, .ref v0), (4, .ref v4), (5, .int v5), (6, .int v6), (7, .ref v7), (8, .int v8), (9, .int v9), (10, .int v10), (11, .ref v11), (12, .ref v12), (13, .int v13), (14, .int v14), (15, .int v15), (17, .int v17), (18, .int v18), (19, .int v19)]) (st' := [.int v19, .int v15]) rfl ?_
  refine xZ.if_le (me := xm145) hP_145 rfl (fun h1 => ?_) (fun h1 => ?_)
  · skip
    exact xZ.sub (xsc (.tail _ (.head _)) (xsc (.tail _ (.tail _ (.head _))) (xsc (.tail _ (.tail _ (.tail _ (.head _)))) (xsc (.tail _ (.tail _ (.tail _ (.tail _ (.head _))))) (xsc (.tail _ (.tail _ (.tail _ (.tail _ (.tail _ (.head _)))))) (xsc (.tail _ (.tail _ (.tail _ (.tail _ (.tail _ (.tail _ (.head _))))))) (xsc (.tail _ (.tail _ (.tail _ (.tail _ (.tail _ (.tail _ (.tail _ (.head _)))))))) (xsc (.tail _ (.tail _ (.tail _ (.tail _ (.tail _ (.tail _ (.tail _ (.tail _ (.head _))))))))) (xsc (.tail _ (.tail _ (.tail _ (.tail _ (.tail _ (.tail _ (.tail _ (.tail _ (.tail _ (.head _)))))))))) (xsc (.tail _ (.tail _ (.tail _ (.tail _ (.tail _ (.tail _ (.tail _ (.tail _ (.tail _ (.tail _ (.head _))))))))))) (xsc (.tail _ (.tail _ (.tail _ (.tail _ (.tail _ (.tail _ (.tail _ (.tail _ (.tail _ (.tail _ (.tail _ (.head _)))))))))))) (xsc (.tail _ (.tail _ (.tail _ (.tail _ (.tail _ (.tail _ (.tail _ (.tail _ (.tail _ (.tail _ (.tail _ (.tail _ (.head _))))))))))))) (xsc (.head _) (xsc (.tail _ (.tail _ (.tail _ (.tail _ (.tail _ (.tail _ (.tail _ (.tail _ (.tail _ (.tail _ (.tail _ (.tail _ (.tail _ (.tail _ (.head _))))))))))))))) (xsc (.tail _ (.tail _ (.tail _ (.tail _ (.tail _ (.tail _ (.tail _ (.tail _ (.tail _ (.tail _ (.tail _ (.tail _ (.tail _ (.tail _ (.tail _ (.head _)))))))))))))))) (xsc (.tail _ (.tail _ (.tail _ (.tail _ (.tail _ (.tail _ (.tail _ (.tail _ (.tail _ (.tail _ (.tail _ (.tail _ (.tail _ (.tail _ (.tail _ (.tail _ (.head _))))))))))))))))) xsn)))))))))))))))) (show ([16, 0, 4, 5, 6, 7, 8, 9, 10, 11, 12, 13, 14, 15, 17, 18, 19] : List Nat).Nodup from by decide) (k_f_Law_areFree_540 O f d K347 hK347 v0 v4 v5 v6 v7 v8 v9 v10 v11 v12 v13 v14 (s0 + s1) v17 v18 v19 v15 M)
  · skip
    refine xZ.adv (me := xm145) hP_145 1 (pc' := 533) (lv' := [(16, .int (s0 + s1)), (0, .ref v0), (4, .ref v4), (5, .int v5), (6, .int v6), (7, .ref v7), (8, .int v8), (9, .int v9), (10, .int v10), (11, .ref v11), (12, .ref v12), (13, .int v13), (14, .int v14), (15, .int v15), (17, .int v17), (18, .int v18), (19, .int v19)]) (st' := [.int v17, .int v15]) rfl ?_
    refine xZ.if_eq (me := xm145) hP_145 rfl (fun h2 => ?_) (fun h2 => ?_)
    · skip
      exact xZ.sub (xsc (.tail _ (.head _)) (xsc (.tail _ (.tail _ (.head _))) (xsc (.tail _ (.tail _ (.tail _ (.head _)))) (xsc (.tail _ (.tail _ (.tail _ (.tail _ (.head _))))) (xsc (.tail _ (.tail _ (.tail _ (.tail _ (.tail _ (.head _)))))) (xsc (.tail _ (.tail _ (.tail _ (.tail _ (.tail _ (.tail _ (.head _))))))) (xsc (.tail _ (.tail _ (.tail _ (.tail _ (.tail _ (.tail _ (.tail _ (.head _)))))))) (xsc (.tail _ (.tail _ (.tail _ (.tail _ (.tail _ (.tail _ (.tail _ (.tail _ (.head _))))))))) (xsc (.tail _ (.tail _ (.tail _ (.tail _ (.tail _ (.tail _ (.tail _ (.tail _ (.tail _ (.head _)))))))))) (xsc (.tail _ (.tail _ (.tail _ (.tail _ (.tail _ (.tail _ (.tail _ (.tail _ (.tail _ (.tail _ (.head _))))))))))) (xsc (.tail _ (.tail _ (.tail _ (.tail _ (.tail _ (.tail _ (.tail _ (.tail _ (.tail _ (.tail _ (.tail _ (.head _)))))))))))) (xsc (.tail _ (.tail _ (.tail _ (.tail _ (.tail _ (.tail _ (.tail _ (.tail _ (.tail _ (.tail _ (.tail _ (.tail _ (.head _))))))))))))) (xsc (.head _) (xsc (.tail _ (.tail _ (.tail _ (.tail _ (.tail _ (.tail _ (.tail _ (.tail _ (.tail _ (.tail _ (.tail _ (.tail _ (.tail _ (.tail _ (.head _))))))))))))))) (xsc (.tail _ (.tail _ (.tail _ (.tail _ (.tail _ (.tail _ (.tail _ (.tail _ (.tail _ (.tail _ (.tail _ (.tail _ (.tail _ (.tail _ (.tail _ (.head _)))))))))))))))) (xsc (.tail _ (.tail _ (.tail _ (.tail _ (.tail _ (.tail _ (.tail _ (.tail _ (.tail _ (.tail _ (.tail _ (.tail _ (.tail _ (.tail _ (.tail _ (.tail _ (.head _))))))))))))))))) xsn)))))))))))))))) (show ([16, 0, 4, 5, 6, 7, 8, 9, 10, 11, 12, 13, 14, 15, 17, 18, 19] : List Nat).Nodup from by decide) (k_f_Law_areFree_540 O f d K347 hK347 v0 v4 v5 v6 v7 v8 v9 v10 v11 v12 v13 v14 (s0 + s1) v17 v18 v19 v15 M)
    · skip
      refine xZ.adv (me := xm145) hP_145 2 (pc' := 541) (lv' := [(16, .int (s0 + s1)), (0, .ref v0), (4, .ref v4), (5, .int v5), (6, .int v6), (7, .ref v7), (8, .int v8), (9, .int v9), (10, .int v10), (11, .ref v11), (12, .ref v12), (13, .int v13), (14, .int v14), (15, .int v15), (17, .int v17), (18, .int v18), (19, .int v19)]) (st' := [.int (1 : Int32), .int v15]) rfl ?_
      exact xZ.sub (xsc (.tail _ (.head _)) (xsc (.tail _ (.tail _ (.head _))) (xsc (.tail _ (.tail _ (.tail _ (.head _)))) (xsc (.tail _ (.tail _ (.tail _ (.tail _ (.head _))))) (xsc (.tail _ (.tail _ (.tail _ (.tail _ (.tail _ (.head _)))))) (xsc (.tail _ (.tail _ (.tail _ (.tail _ (.tail _ (.tail _ (.head _))))))) (xsc (.tail _ (.tail _ (.tail _ (.tail _ (.tail _ (.tail _ (.tail _ (.head _)))))))) (xsc (.tail _ (.tail _ (.tail _ (.tail _ (.tail _ (.tail _ (.tail _ (.tail _ (.head _))))))))) (xsc (.tail _ (.tail _ (.tail _ (.tail _ (.tail _ (.tail _ (.tail _ (.tail _ (.tail _ (.head _)))))))))) (xsc (.tail _ (.tail _ (.tail _ (.tail _ (.tail _ (.tail _ (.tail _ (.tail _ (.tail _ (.tail _ (.head _))))))))))) (xsc (.tail _ (.tail _ (.tail _ (.tail _ (.tail _ (.tail _ (.tail _ (.tail _ (.tail _ (.tail _ (.tail _ (.head _)))))))))))) (xsc (.tail _ (.tail _ (.tail _ (.tail _ (.tail _ (.tail _ (.tail _ (.tail _ (.tail _ (.tail _ (.tail _ (.tail _ (.head _))))))))))))) (xsc (.head _) (xsc (.tail _ (.tail _ (.tail _ (.tail _ (.tail _ (.tail _ (.tail _ (.tail _ (.tail _ (.tail _ (.tail _ (.tail _ (.tail _ (.tail _ (.head _))))))))))))))) (xsc (.tail _ (.tail _ (.tail _ (.tail _ (.tail _ (.tail _ (.tail _ (.tail _ (.tail _ (.tail _ (.tail _ (.tail _ (.tail _ (.tail _ (.tail _ (.head _)))))))))))))))) (xsc (.tail _ (.tail _ (.tail _ (.tail _ (.tail _ (.tail _ (.tail _ (.tail _ (.tail _ (.tail _ (.tail _ (.tail _ (.tail _ (.tail _ (.tail _ (.tail _ (.head _))))))))))))))))) xsn)))))))))))))))) (show ([16, 0, 4, 5, 6, 7, 8, 9, 10, 11, 12, 13, 14, 15, 17, 18, 19] : List Nat).Nodup from by decide) (k_f_Law_areFree_541 O f d K347 hK347 v0 v4 v5 v6 v7 v8 v9 v10 v11 v12 v13 v14 (s0 + s1) v17 v18 v19 v15 (1 : Int32) M)
def f_Law_areFree_506 (O : Nat → Option va_E) (f : Nat) (K347 : Nat → Nat → Int32 → Int32 → Nat → Int32 → Int32 → Int32 → Nat → Nat → Int32 → Int32 → Int32 → Int32 → Int32 → Int32 → xM → Option (Int32 × xM)) (v0 : Nat) (v4 : Nat) (v5 : Int32) (v6 : Int32) (v7 : Nat) (v8 : Int32) (v9 : Int32) (v10 : Int32) (v11 : Nat) (v12 : Nat) (v13 : Int32) (v15 : Int32) (v16 : Int32) (v17 : Int32) (v18 : Int32) (v19 : Int32) (s0 : Int32) (s1 : Int32) (M : xM) : Option (Int32 × xM) :=
  if v17 = 0 then (
    f_Law_areFree_521 O f K347 v0 v4 v5 v6 v7 v8 v9 v10 v11 v12 v13 (s0 + s1) v15 v17 v18 v19 v16 (0 : Int32) M
  ) else
  f_Law_areFree_521 O f K347 v0 v4 v5 v6 v7 v8 v9 v10 v11 v12 v13 (s0 + s1) v15 v17 v18 v19 v16 (1 : Int32) M
set_option maxRecDepth 20000 in
theorem k_f_Law_areFree_506 (O : Nat → Option va_E) (f d : Nat) (K347 : Nat → Nat → Int32 → Int32 → Nat → Int32 → Int32 → Int32 → Nat → Nat → Int32 → Int32 → Int32 → Int32 → Int32 → Int32 → xM → Option (Int32 × xM)) (hK347 : ∀ (v0 : Nat) (v4 : Nat) (v5 : Int32) (v6 : Int32) (v7 : Nat) (v8 : Int32) (v9 : Int32) (v10 : Int32) (v11 : Nat) (v12 : Nat) (v13 : Int32) (v14 : Int32) (v15 : Int32) (v16 : Int32) (v17 : Int32) (v18 : Int32) M, xZ oI O (d + 9) 145 347 [(0, .ref v0), (4, .ref v4), (5, .int v5), (6, .int v6), (7, .ref v7), (8, .int v8), (9, .int v9), (10, .int v10), (11, .ref v11), (12, .ref v12), (13, .int v13), (14, .int v14), (15, .int v15), (16, .int v16), (17, .int v17), (18, .int v18)] [] M (K347 v0 v4 v5 v6 v7 v8 v9 v10 v11 v12 v13 v14 v15 v16 v17 v18 M)) (v0 : Nat) (v4 : Nat) (v5 : Int32) (v6 : Int32) (v7 : Nat) (v8 : Int32) (v9 : Int32) (v10 : Int32) (v11 : Nat) (v12 : Nat) (v13 : Int32) (v15 : Int32) (v16 : Int32) (v17 : Int32) (v18 : Int32) (v19 : Int32) (s0 : Int32) (s1 : Int32) (M : xM) : xZ oI O (d + 9) 145 506 [(0, .ref v0), (4, .ref v4), (5, .int v5), (6, .int v6), (7, .ref v7), (8, .int v8), (9, .int v9), (10, .int v10), (11, .ref v11), (12, .ref v12), (13, .int v13), (15, .int v15), (16, .int v16), (17, .int v17), (18, .int v18), (19, .int v19)] [.int s1, .int s0] M (f_Law_areFree_506 O f K347 v0 v4 v5 v6 v7 v8 v9 v10 v11 v12 v13 v15 v16 v17 v18 v19 s0 s1 M) := by
  unfold f_Law_areFree_506
  refine xZ.adv (me := xm145) hP_145 4 (pc' := 513) (lv' := [(14, .int (s0 + s1)), (0, .ref v0), (4, .ref v4), (5, .int v5), (6, .int v6), (7, .ref v7), (8, .int v8), (9, .int v9), (10, .int v10), (11, .ref v11), (12, .ref v12), (13, .int v13), (15, .int v15), (16, .int v16), (17, .int v17), (18, .int v18), (19, .int v19)]) (st' := [.int v17, .int v16]) rfl ?_
  refine xZ.if_eq (me := xm145) hP_145 rfl (fun h1 => ?_) (fun h1 => ?_)
  · skip
    refine xZ.adv (me := xm145) hP_145 1 (pc' := 521) (lv' := [(14, .int (s0 + s1)), (0, .ref v0), (4, .ref v4), (5, .int v5), (6, .int v6), (7, .ref v7), (8, .int v8), (9, .int v9), (10, .int v10), (11, .ref v11), (12, .ref v12), (13, .int v13), (15, .int v15), (16, .int v16), (17, .int v17), (18, .int v18), (19, .int v19)]) (st' := [.int (0 : Int32), .int v16]) rfl ?_
    exact xZ.sub (xsc (.tail _ (.head _)) (xsc (.tail _ (.tail _ (.head _))) (xsc (.tail _ (.tail _ (.tail _ (.head _)))) (xsc (.tail _ (.tail _ (.tail _ (.tail _ (.head _))))) (xsc (.tail _ (.tail _ (.tail _ (.tail _ (.tail _ (.head _)))))) (xsc (.tail _ (.tail _ (.tail _ (.tail _ (.tail _ (.tail _ (.head _))))))) (xsc (.tail _ (.tail _ (.tail _ (.tail _ (.tail _ (.tail _ (.tail _ (.head _)))))))) (xsc (.tail _ (.tail _ (.tail _ (.tail _ (.tail _ (.tail _ (.tail _ (.tail _ (.head _))))))))) (xsc (.tail _ (.tail _ (.tail _ (.tail _ (.tail _ (.tail _ (.tail _ (.tail _ (.tail _ (.head _)))))))))) (xsc (.tail _ (.tail _ (.tail _ (.tail _ (.tail _ (.tail _ (.tail _ (.tail _ (.tail _ (.tail _ (.head _))))))))))) (xsc (.tail _ (.tail _ (.tail _ (.tail _ (.tail _ (.tail _ (.tail _ (.tail _ (.tail _ (.tail _ (.tail _ (.head _)))))))))))) (xsc (.head _) (xsc (.tail _ (.tail _ (.tail _ (.tail _ (.tail _ (.tail _ (.tail _ (.tail _ (.tail _ (.tail _ (.tail _ (.tail _ (.head _))))))))))))) (xsc (.tail _ (.tail _ (.tail _ (.tail _ (.tail _ (.tail _ (.tail _ (.tail _ (.tail _ (.tail _ (.tail _ (.tail _ (.tail _ (.tail _ (.head _))))))))))))))) (xsc (.tail _ (.tail _ (.tail _ (.tail _ (.tail _ (.tail _ (.tail _ (.tail _ (.tail _ (.tail _ (.tail _ (.tail _ (.tail _ (.tail _ (.tail _ (.head _)))))))))))))))) (xsc (.tail _ (.tail _ (.tail _ (.tail _ (.tail _ (.tail _ (.tail _ (.tail _ (.tail _ (.tail _ (.tail _ (.tail _ (.tail _ (.tail _ (.tail _ (.tail _ (.head _))))))))))))))))) xsn)))))))))))))))) (show ([14, 0, 4, 5, 6, 7, 8, 9, 10, 11, 12, 13, 15, 16, 17, 18, 19] : List Nat).Nodup from by decide) (k_f_Law_areFree_521 O f d K347 hK347 v0 v4 v5 v6 v7 v8 v9 v10 v11 v12 v13 (s0 + s1) v15 v17 v18 v19 v16 (0 : Int32) M)
  · skip
    refine xZ.adv (me := xm145) hP_145 2 (pc' := 521) (lv' := [(14, .int (s0 + s1)), (0, .ref v0), (4, .ref v4), (5, .int v5), (6, .int v6), (7, .ref v7), (8, .int v8), (9, .int v9), (10, .int v10), (11, .ref v11), (12, .ref v12), (13, .int v13), (15, .int v15), (16, .int v16), (17, .int v17), (18, .int v18), (19, .int v19)]) (st' := [.int (1 : Int32), .int v16]) rfl ?_
    exact xZ.sub (xsc (.tail _ (.head _)) (xsc (.tail _ (.tail _ (.head _))) (xsc (.tail _ (.tail _ (.tail _ (.head _)))) (xsc (.tail _ (.tail _ (.tail _ (.tail _ (.head _))))) (xsc (.tail _ (.tail _ (.tail _ (.tail _ (.tail _ (.head _)))))) (xsc (.tail _ (.tail _ (.tail _ (.tail _ (.tail _ (.tail _ (.head _))))))) (xsc (.tail _ (.tail _ (.tail _ (.tail _ (.tail _ (.tail _ (.tail _ (.head _)))))))) (xsc (.tail _ (.tail _ (.tail _ (.tail _ (.tail _ (.tail _ (.tail _ (.tail _ (.head _))))))))) (xsc (.tail _ (.tail _ (.tail _ (.tail _ (.tail _ (.tail _ (.tail _ (.tail _ (.tail _ (.head _)))))))))) (xsc (.tail _ (.tail _ (.tail _ (.tail _ (.tail _ (.tail _ (.tail _ (.tail _ (.tail _ (.tail _ (.head _))))))))))) (xsc (.tail _ (.tail _ (.tail _ (.tail _ (.tail _ (.tail _ (.tail _ (.tail _ (.tail _ (.tail _ (.tail _ (.head _)))))))))))) (xsc (.head _) (xsc (.tail _ (.tail _ (.tail _ (.tail _ (.tail _ (.tail _ (.tail _ (.tail _ (.tail _ (.tail _ (.tail _ (.tail _ (.head _))))))))))))) (xsc (.tail _ (.tail _ (.tail _ (.tail _ (.tail _ (.tail _ (.tail _ (.tail _ (.tail _ (.tail _ (.tail _ (.tail _ (.tail _ (.tail _ (.head _))))))))))))))) (xsc (.tail _ (.tail _ (.tail _ (.tail _ (.tail _ (.tail _ (.tail _ (.tail _ (.tail _ (.tail _ (.tail _ (.tail _ (.tail _ (.tail _ (.tail _ (.head _)))))))))))))))) (xsc (.tail _ (.tail _ (.tail _ (.tail _ (.tail _ (.tail _ (.tail _ (.tail _ (.tail _ (.tail _ (.tail _ (.tail _ (.tail _ (.tail _ (.tail _ (.tail _ (.head _))))))))))))))))) xsn)))))))))))))))) (show ([14, 0, 4, 5, 6, 7, 8, 9, 10, 11, 12, 13, 15, 16, 17, 18, 19] : List Nat).Nodup from by decide) (k_f_Law_areFree_521 O f d K347 hK347 v0 v4 v5 v6 v7 v8 v9 v10 v11 v12 v13 (s0 + s1) v15 v17 v18 v19 v16 (1 : Int32) M)
def f_Law_areFree_494 (O : Nat → Option va_E) (f : Nat) (K347 : Nat → Nat → Int32 → Int32 → Nat → Int32 → Int32 → Int32 → Nat → Nat → Int32 → Int32 → Int32 → Int32 → Int32 → Int32 → xM → Option (Int32 × xM)) (v0 : Nat) (v4 : Nat) (v5 : Int32) (v6 : Int32) (v7 : Nat) (v8 : Int32) (v9 : Int32) (v10 : Int32) (v11 : Nat) (v12 : Nat) (v13 : Int32) (v14 : Int32) (v15 : Int32) (v16 : Int32) (v17 : Int32) (v18 : Int32) (v19 : Int32) (M : xM) : Option (Int32 × xM) :=
  if v19 ≤ 0 then (
    f_Law_areFree_506 O f K347 v0 v4 v5 v6 v7 v8 v9 v10 v11 v12 v13 v15 v16 v17 v18 v19 v14 (0 : Int32) M
  ) else
  f_Law_areFree_506 O f K347 v0 v4 v5 v6 v7 v8 v9 v10 v11 v12 v13 v15 v16 v17 v18 v19 v14 (1 : Int32) M
set_option maxRecDepth 20000 in
theorem k_f_Law_areFree_494 (O : Nat → Option va_E) (f d : Nat) (K347 : Nat → Nat → Int32 → Int32 → Nat → Int32 → Int32 → Int32 → Nat → Nat → Int32 → Int32 → Int32 → Int32 → Int32 → Int32 → xM → Option (Int32 × xM)) (hK347 : ∀ (v0 : Nat) (v4 : Nat) (v5 : Int32) (v6 : Int32) (v7 : Nat) (v8 : Int32) (v9 : Int32) (v10 : Int32) (v11 : Nat) (v12 : Nat) (v13 : Int32) (v14 : Int32) (v15 : Int32) (v16 : Int32) (v17 : Int32) (v18 : Int32) M, xZ oI O (d + 9) 145 347 [(0, .ref v0), (4, .ref v4), (5, .int v5), (6, .int v6), (7, .ref v7), (8, .int v8), (9, .int v9), (10, .int v10), (11, .ref v11), (12, .ref v12), (13, .int v13), (14, .int v14), (15, .int v15), (16, .int v16), (17, .int v17), (18, .int v18)] [] M (K347 v0 v4 v5 v6 v7 v8 v9 v10 v11 v12 v13 v14 v15 v16 v17 v18 M)) (v0 : Nat) (v4 : Nat) (v5 : Int32) (v6 : Int32) (v7 : Nat) (v8 : Int32) (v9 : Int32) (v10 : Int32) (v11 : Nat) (v12 : Nat) (v13 : Int32) (v14 : Int32) (v15 : Int32) (v16 : Int32) (v17 : Int32) (v18 : Int32) (v19 : Int32) (M : xM) : xZ oI O (d + 9) 145 494 [(0, .ref v0), (4, .ref v4), (5, .int v5), (6, .int v6), (7, .ref v7), (8, .int v8), (9, .int v9), (10, .int v10), (11, .ref v11), (12, .ref v12), (13, .int v13), (14, .int v14), (15, .int v15), (16, .int v16), (17, .int v17), (18, .int v18), (19, .int v19)] [] M (f_Law_areFree_494 O f K347 v0 v4 v5 v6 v7 v8 v9 v10 v11 v12 v13 v14 v15 v16 v17 v18 v19 M) := by
  unfold f_Law_areFree_494
  refine xZ.adv (me := xm145) hP_145 2 (pc' := 498) (lv' := [(0, .ref v0), (4, .ref v4), (5, .int v5), (6, .int v6), (7, .ref v7), (8, .int v8), (9, .int v9), (10, .int v10), (11, .ref v11), (12, .ref v12), (13, .int v13), (14, .int v14), (15, .int v15), (16, .int v16), (17, .int v17), (18, .int v18), (19, .int v19)]) (st' := [.int v19, .int v14]) rfl ?_
  refine xZ.if_le (me := xm145) hP_145 rfl (fun h1 => ?_) (fun h1 => ?_)
  · skip
    refine xZ.adv (me := xm145) hP_145 1 (pc' := 506) (lv' := [(0, .ref v0), (4, .ref v4), (5, .int v5), (6, .int v6), (7, .ref v7), (8, .int v8), (9, .int v9), (10, .int v10), (11, .ref v11), (12, .ref v12), (13, .int v13), (14, .int v14), (15, .int v15), (16, .int v16), (17, .int v17), (18, .int v18), (19, .int v19)]) (st' := [.int (0 : Int32), .int v14]) rfl ?_
    exact xZ.sub (xsc (.head _) (xsc (.tail _ (.head _)) (xsc (.tail _ (.tail _ (.head _))) (xsc (.tail _ (.tail _ (.tail _ (.head _)))) (xsc (.tail _ (.tail _ (.tail _ (.tail _ (.head _))))) (xsc (.tail _ (.tail _ (.tail _ (.tail _ (.tail _ (.head _)))))) (xsc (.tail _ (.tail _ (.tail _ (.tail _ (.tail _ (.tail _ (.head _))))))) (xsc (.tail _ (.tail _ (.tail _ (.tail _ (.tail _ (.tail _ (.tail _ (.head _)))))))) (xsc (.tail _ (.tail _ (.tail _ (.tail _ (.tail _ (.tail _ (.tail _ (.tail _ (.head _))))))))) (xsc (.tail _ (.tail _ (.tail _ (.tail _ (.tail _ (.tail _ (.tail _ (.tail _ (.tail _ (.head _)))))))))) (xsc (.tail _ (.tail _ (.tail _ (.tail _ (.tail _ (.tail _ (.tail _ (.tail _ (.tail _ (.tail _ (.head _))))))))))) (xsc (.tail _ (.tail _ (.tail _ (.tail _ (.tail _ (.tail _ (.tail _ (.tail _ (.tail _ (.tail _ (.tail _ (.tail _ (.head _))))))))))))) (xsc (.tail _ (.tail _ (.tail _ (.tail _ (.tail _ (.tail _ (.tail _ (.tail _ (.tail _ (.tail _ (.tail _ (.tail _ (.tail _ (.head _)))))))))))))) (xsc (.tail _ (.tail _ (.tail _ (.tail _ (.tail _ (.tail _ (.tail _ (.tail _ (.tail _ (.tail _ (.tail _ (.tail _ (.tail _ (.tail _ (.head _))))))))))))))) (xsc (.tail _ (.tail _ (.tail _ (.tail _ (.tail _ (.tail _ (.tail _ (.tail _ (.tail _ (.tail _ (.tail _ (.tail _ (.tail _ (.tail _ (.tail _ (.head _)))))))))))))))) (xsc (.tail _ (.tail _ (.tail _ (.tail _ (.tail _ (.tail _ (.tail _ (.tail _ (.tail _ (.tail _ (.tail _ (.tail _ (.tail _ (.tail _ (.tail _ (.tail _ (.head _))))))))))))))))) xsn)))))))))))))))) (show ([0, 4, 5, 6, 7, 8, 9, 10, 11, 12, 13, 14, 15, 16, 17, 18, 19] : List Nat).Nodup from by decide) (k_f_Law_areFree_506 O f d K347 hK347 v0 v4 v5 v6 v7 v8 v9 v10 v11 v12 v13 v15 v16 v17 v18 v19 v14 (0 : Int32) M)
  · skip
    refine xZ.adv (me := xm145) hP_145 2 (pc' := 506) (lv' := [(0, .ref v0), (4, .ref v4), (5, .int v5), (6, .int v6), (7, .ref v7), (8, .int v8), (9, .int v9), (10, .int v10), (11, .ref v11), (12, .ref v12), (13, .int v13), (14, .int v14), (15, .int v15), (16, .int v16), (17, .int v17), (18, .int v18), (19, .int v19)]) (st' := [.int (1 : Int32), .int v14]) rfl ?_
    exact xZ.sub (xsc (.head _) (xsc (.tail _ (.head _)) (xsc (.tail _ (.tail _ (.head _))) (xsc (.tail _ (.tail _ (.tail _ (.head _)))) (xsc (.tail _ (.tail _ (.tail _ (.tail _ (.head _))))) (xsc (.tail _ (.tail _ (.tail _ (.tail _ (.tail _ (.head _)))))) (xsc (.tail _ (.tail _ (.tail _ (.tail _ (.tail _ (.tail _ (.head _))))))) (xsc (.tail _ (.tail _ (.tail _ (.tail _ (.tail _ (.tail _ (.tail _ (.head _)))))))) (xsc (.tail _ (.tail _ (.tail _ (.tail _ (.tail _ (.tail _ (.tail _ (.tail _ (.head _))))))))) (xsc (.tail _ (.tail _ (.tail _ (.tail _ (.tail _ (.tail _ (.tail _ (.tail _ (.tail _ (.head _)))))))))) (xsc (.tail _ (.tail _ (.tail _ (.tail _ (.tail _ (.tail _ (.tail _ (.tail _ (.tail _ (.tail _ (.head _))))))))))) (xsc (.tail _ (.tail _ (.tail _ (.tail _ (.tail _ (.tail _ (.tail _ (.tail _ (.tail _ (.tail _ (.tail _ (.tail _ (.head _))))))))))))) (xsc (.tail _ (.tail _ (.tail _ (.tail _ (.tail _ (.tail _ (.tail _ (.tail _ (.tail _ (.tail _ (.tail _ (.tail _ (.tail _ (.head _)))))))))))))) (xsc (.tail _ (.tail _ (.tail _ (.tail _ (.tail _ (.tail _ (.tail _ (.tail _ (.tail _ (.tail _ (.tail _ (.tail _ (.tail _ (.tail _ (.head _))))))))))))))) (xsc (.tail _ (.tail _ (.tail _ (.tail _ (.tail _ (.tail _ (.tail _ (.tail _ (.tail _ (.tail _ (.tail _ (.tail _ (.tail _ (.tail _ (.tail _ (.head _)))))))))))))))) (xsc (.tail _ (.tail _ (.tail _ (.tail _ (.tail _ (.tail _ (.tail _ (.tail _ (.tail _ (.tail _ (.tail _ (.tail _ (.tail _ (.tail _ (.tail _ (.tail _ (.head _))))))))))))))))) xsn)))))))))))))))) (show ([0, 4, 5, 6, 7, 8, 9, 10, 11, 12, 13, 14, 15, 16, 17, 18, 19] : List Nat).Nodup from by decide) (k_f_Law_areFree_506 O f d K347 hK347 v0 v4 v5 v6 v7 v8 v9 v10 v11 v12 v13 v15 v16 v17 v18 v19 v14 (1 : Int32) M)
def f_Law_areFree_460 (O : Nat → Option va_E) (f : Nat) (K347 : Nat → Nat → Int32 → Int32 → Nat → Int32 → Int32 → Int32 → Nat → Nat → Int32 → Int32 → Int32 → Int32 → Int32 → Int32 → xM → Option (Int32 × xM)) (v0 : Nat) (v4 : Nat) (v5 : Int32) (v6 : Int32) (v7 : Nat) (v8 : Int32) (v9 : Int32) (v10 : Int32) (v11 : Nat) (v12 : Nat) (v13 : Int32) (v14 : Int32) (v15 : Int32) (v16 : Int32) (v17 : Int32) (v18 : Int32) (v19 : Int32) (M : xM) : Option (Int32 × xM) :=
  if (v18 - v18 / (60 : Int32) * (60 : Int32)) = 0 then (
    (aR O M v4 v13).bind fun x1 =>
    (aR O M v4 v13).bind fun x2 =>
    (aI O M x2 (0 : Int32)).bind fun x3 =>
    (isO O M v0 12).bind fun _ =>
    xcl (f_Calendarhall_toLocal O f v0 x3 (v5 + v18) M) fun x4 M1 =>
    xcl (f_Law_isWork O f x1 x4 M1) fun x5 M2 =>
    f_Law_areFree_494 O f K347 v0 v4 v5 v6 v7 v8 v9 v10 v11 v12 v13 v14 v15 v16 x5 v18 v19 M2
  ) else
  f_Law_areFree_494 O f K347 v0 v4 v5 v6 v7 v8 v9 v10 v11 v12 v13 v14 v15 v16 v17 v18 v19 M
set_option maxRecDepth 20000 in
theorem k_f_Law_areFree_460 (O : Nat → Option va_E) (f d : Nat) (K347 : Nat → Nat → Int32 → Int32 → Nat → Int32 → Int32 → Int32 → Nat → Nat → Int32 → Int32 → Int32 → Int32 → Int32 → Int32 → xM → Option (Int32 × xM)) (hK347 : ∀ (v0 : Nat) (v4 : Nat) (v5 : Int32) (v6 : Int32) (v7 : Nat) (v8 : Int32) (v9 : Int32) (v10 : Int32) (v11 : Nat) (v12 : Nat) (v13 : Int32) (v14 : Int32) (v15 : Int32) (v16 : Int32) (v17 : Int32) (v18 : Int32) M, xZ oI O (d + 9) 145 347 [(0, .ref v0), (4, .ref v4), (5, .int v5), (6, .int v6), (7, .ref v7), (8, .int v8), (9, .int v9), (10, .int v10), (11, .ref v11), (12, .ref v12), (13, .int v13), (14, .int v14), (15, .int v15), (16, .int v16), (17, .int v17), (18, .int v18)] [] M (K347 v0 v4 v5 v6 v7 v8 v9 v10 v11 v12 v13 v14 v15 v16 v17 v18 M)) (v0 : Nat) (v4 : Nat) (v5 : Int32) (v6 : Int32) (v7 : Nat) (v8 : Int32) (v9 : Int32) (v10 : Int32) (v11 : Nat) (v12 : Nat) (v13 : Int32) (v14 : Int32) (v15 : Int32) (v16 : Int32) (v17 : Int32) (v18 : Int32) (v19 : Int32) (M : xM) : xZ oI O (d + 9) 145 460 [(0, .ref v0), (4, .ref v4), (5, .int v5), (6, .int v6), (7, .ref v7), (8, .int v8), (9, .int v9), (10, .int v10), (11, .ref v11), (12, .ref v12), (13, .int v13), (14, .int v14), (15, .int v15), (16, .int v16), (17, .int v17), (18, .int v18), (19, .int v19)] [] M (f_Law_areFree_460 O f K347 v0 v4 v5 v6 v7 v8 v9 v10 v11 v12 v13 v14 v15 v16 v17 v18 v19 M) := by
  unfold f_Law_areFree_460
  refine xZ.adv (me := xm145) hP_145 3 (pc' := 465) (lv' := [(0, .ref v0), (4, .ref v4), (5, .int v5), (6, .int v6), (7, .ref v7), (8, .int v8), (9, .int v9), (10, .int v10), (11, .ref v11), (12, .ref v12), (13, .int v13), (14, .int v14), (15, .int v15), (16, .int v16), (17, .int v17), (18, .int v18), (19, .int v19)]) (st' := [.int (v18 - v18 / (60 : Int32) * (60 : Int32))]) rfl ?_
  refine xZ.if_ne (me := xm145) hP_145 rfl (fun h1 => ?_) (fun h1 => ?_)
  · skip
    refine xZ.adv (me := xm145) hP_145 2 (pc' := 472) (lv' := [(0, .ref v0), (4, .ref v4), (5, .int v5), (6, .int v6), (7, .ref v7), (8, .int v8), (9, .int v9), (10, .int v10), (11, .ref v11), (12, .ref v12), (13, .int v13), (14, .int v14), (15, .int v15), (16, .int v16), (17, .int v17), (18, .int v18), (19, .int v19)]) (st' := [.int v13, .ref v4]) rfl ?_
    refine xZ.k_aR (me := xm145) hP_145 rfl (fun x1 => ?_)
    refine xZ.adv (me := xm145) hP_145 3 (pc' := 478) (lv' := [(0, .ref v0), (4, .ref v4), (5, .int v5), (6, .int v6), (7, .ref v7), (8, .int v8), (9, .int v9), (10, .int v10), (11, .ref v11), (12, .ref v12), (13, .int v13), (14, .int v14), (15, .int v15), (16, .int v16), (17, .int v17), (18, .int v18), (19, .int v19)]) (st' := [.int v13, .ref v4, .ref v0, .ref x1]) rfl ?_
    refine xZ.k_aR (me := xm145) hP_145 rfl (fun x2 => ?_)
    refine xZ.adv (me := xm145) hP_145 1 (pc' := 480) (lv' := [(0, .ref v0), (4, .ref v4), (5, .int v5), (6, .int v6), (7, .ref v7), (8, .int v8), (9, .int v9), (10, .int v10), (11, .ref v11), (12, .ref v12), (13, .int v13), (14, .int v14), (15, .int v15), (16, .int v16), (17, .int v17), (18, .int v18), (19, .int v19)]) (st' := [.int (0 : Int32), .ref x2, .ref v0, .ref x1]) rfl ?_
    refine xZ.k_aI (me := xm145) hP_145 rfl (fun x3 => ?_)
    refine xZ.adv (me := xm145) hP_145 3 (pc' := 486) (lv' := [(0, .ref v0), (4, .ref v4), (5, .int v5), (6, .int v6), (7, .ref v7), (8, .int v8), (9, .int v9), (10, .int v10), (11, .ref v11), (12, .ref v12), (13, .int v13), (14, .int v14), (15, .int v15), (16, .int v16), (17, .int v17), (18, .int v18), (19, .int v19)]) (st' := [.int (v5 + v18), .int x3, .ref v0, .ref x1]) rfl ?_
    refine xZ.callv (κ := oI) (av := [.int x3, .int (v5 + v18)]) (rest := [.ref x1]) (st' := fun x4 => [.int x4, .ref x1]) (k0 := v0) (me := xm145) hP_145 rfl (Or.inl rfl) ⟨rfl, by decide⟩ rfl rfl (Nat.le_of_ble_eq_true rfl) (by decide) hP_143 (Nat.le_of_ble_eq_true rfl) (fun _ => rfl) (k_f_Calendarhall_toLocal O f (d + 4) v0 x3 (v5 + v18) M) (fun x4 M1 => ?_)
    refine xZ.calls (κ := oI) (av := [.ref x1, .int x4]) (rest := []) (st' := fun x5 => [.int x5]) (me := xm145) hP_145 rfl rfl rfl (Nat.le_of_ble_eq_true rfl) (by decide) hP_160 (Nat.le_of_ble_eq_true rfl) (fun _ => rfl) (k_f_Law_isWork O f (d + 8) x1 x4 M1) (fun x5 M2 => ?_)
    refine xZ.adv (me := xm145) hP_145 1 (pc' := 494) (lv' := [(17, .int x5), (0, .ref v0), (4, .ref v4), (5, .int v5), (6, .int v6), (7, .ref v7), (8, .int v8), (9, .int v9), (10, .int v10), (11, .ref v11), (12, .ref v12), (13, .int v13), (14, .int v14), (15, .int v15), (16, .int v16), (18, .int v18), (19, .int v19)]) (st' := []) rfl ?_
    exact xZ.sub (xsc (.tail _ (.head _)) (xsc (.tail _ (.tail _ (.head _))) (xsc (.tail _ (.tail _ (.tail _ (.head _)))) (xsc (.tail _ (.tail _ (.tail _ (.tail _ (.head _))))) (xsc (.tail _ (.tail _ (.tail _ (.tail _ (.tail _ (.head _)))))) (xsc (.tail _ (.tail _ (.tail _ (.tail _ (.tail _ (.tail _ (.head _))))))) (xsc (.tail _ (.tail _ (.tail _ (.tail _ (.tail _ (.tail _ (.tail _ (.head _)))))))) (xsc (.tail _ (.tail _ (.tail _ (.tail _ (.tail _ (.tail _ (.tail _ (.tail _ (.head _))))))))) (xsc (.tail _ (.tail _ (.tail _ (.tail _ (.tail _ (.tail _ (.tail _ (.tail _ (.tail _ (.head _)))))))))) (xsc (.tail _ (.tail _ (.tail _ (.tail _ (.tail _ (.tail _ (.tail _ (.tail _ (.tail _ (.tail _ (.head _))))))))))) (xsc (.tail _ (.tail _ (.tail _ (.tail _ (.tail _ (.tail _ (.tail _ (.tail _ (.tail _ (.tail _ (.tail _ (.head _)))))))))))) (xsc (.tail _ (.tail _ (.tail _ (.tail _ (.tail _ (.tail _ (.tail _ (.tail _ (.tail _ (.tail _ (.tail _ (.tail _ (.head _))))))))))))) (xsc (.tail _ (.tail _ (.tail _ (.tail _ (.tail _ (.tail _ (.tail _ (.tail _ (.tail _ (.tail _ (.tail _ (.tail _ (.tail _ (.head _)))))))))))))) (xsc (.tail _ (.tail _ (.tail _ (.tail _ (.tail _ (.tail _ (.tail _ (.tail _ (.tail _ (.tail _ (.tail _ (.tail _ (.tail _ (.tail _ (.head _))))))))))))))) (xsc (.head _) (xsc (.tail _ (.tail _ (.tail _ (.tail _ (.tail _ (.tail _ (.tail _ (.tail _ (.tail _ (.tail _ (.tail _ (.tail _ (.tail _ (.tail _ (.tail _ (.head _)))))))))))))))) (xsc (.tail _ (.tail _ (.tail _ (.tail _ (.tail _ (.tail _ (.tail _ (.tail _ (.tail _ (.tail _ (.tail _ (.tail _ (.tail _ (.tail _ (.tail _ (.tail _ (.head _))))))))))))))))) xsn))))))))))))))))) (show ([17, 0, 4, 5, 6, 7, 8, 9, 10, 11, 12, 13, 14, 15, 16, 18, 19] : List Nat).Nodup from by decide) (k_f_Law_areFree_494 O f d K347 hK347 v0 v4 v5 v6 v7 v8 v9 v10 v11 v12 v13 v14 v15 v16 x5 v18 v19 M2)
  · skip
    exact (k_f_Law_areFree_494 O f d K347 hK347 v0 v4 v5 v6 v7 v8 v9 v10 v11 v12 v13 v14 v15 v16 v17 v18 v19 M)
def f_Law_areFree_360 (O : Nat → Option va_E) (f : Nat) (K347 : Nat → Nat → Int32 → Int32 → Nat → Int32 → Int32 → Int32 → Nat → Nat → Int32 → Int32 → Int32 → Int32 → Int32 → Int32 → xM → Option (Int32 × xM)) : Nat → Nat → Nat → Int32 → Int32 → Nat → Int32 → Int32 → Int32 → Nat → Nat → Int32 → Int32 → Int32 → Int32 → Int32 → Int32 → Int32 → Int32 → xM → Option (Int32 × xM)
  | 0, _, _, _, _, _, _, _, _, _, _, _, _, _, _, _, _, _, _, _ => none
  | n + 1, v0, v4, v5, v6, v7, v8, v9, v10, v11, v12, v13, v14, v15, v16, v17, v18, v19, v20, M =>
    (gI O M v7 13 4).bind fun x1 =>
    if x1 ≤ v20 then (
      if (v18 - v18 / (97 : Int32) * (97 : Int32)) = 0 then (
        (isO O M v0 12).bind fun _ =>
        xcl (f_Calendarhall_datesAt O f v0 v13 (v5 + v18) M) fun x2 M1 =>
        if x2 = v19 then (
          f_Law_areFree_460 O f K347 v0 v4 v5 v6 v7 v8 v9 v10 v11 v12 v13 v14 v15 v16 v17 v18 v19 M1
        ) else
        some ((0 : Int32), M1)
      ) else
      f_Law_areFree_460 O f K347 v0 v4 v5 v6 v7 v8 v9 v10 v11 v12 v13 v14 v15 v16 v17 v18 v19 M
    ) else
    (gR O M v7 13 2).bind fun x3 =>
    (aI O M x3 v20).bind fun x4 =>
    if (v5 + v18) < x4 then (
      f_Law_areFree_424 O f (f_Law_areFree_360 O f K347 n) v0 v4 v5 v6 v7 v8 v9 v10 v11 v12 v13 v14 v15 v16 v17 v18 v20 v19 M
    ) else
    (isO O M v7 13).bind fun _ =>
    xcl (f_LDates_end O f v7 v20 M) fun x5 M2 =>
    if x5 ≤ (v5 + v18) then (
      f_Law_areFree_424 O f (f_Law_areFree_360 O f K347 n) v0 v4 v5 v6 v7 v8 v9 v10 v11 v12 v13 v14 v15 v16 v17 v18 v20 v19 M2
    ) else
    (gR O M2 v7 13 0).bind fun x6 =>
    (aI O M2 x6 v20).bind fun x7 =>
    xcl (f_Law_takesPart O f v0 x7 v13 M2) fun x8 M3 =>
    if x8 = 0 then (
      f_Law_areFree_424 O f (f_Law_areFree_360 O f K347 n) v0 v4 v5 v6 v7 v8 v9 v10 v11 v12 v13 v14 v15 v16 v17 v18 v20 v19 M3
    ) else
    f_Law_areFree_425 O f (f_Law_areFree_360 O f K347 n) v0 v4 v5 v6 v7 v8 v9 v10 v11 v12 v13 v14 v15 v16 v17 v18 v20 v19 (1 : Int32) M3
set_option maxRecDepth 20000 in
theorem k_f_Law_areFree_360 (O : Nat → Option va_E) (f d : Nat) (K347 : Nat → Nat → Int32 → Int32 → Nat → Int32 → Int32 → Int32 → Nat → Nat → Int32 → Int32 → Int32 → Int32 → Int32 → Int32 → xM → Option (Int32 × xM)) (hK347 : ∀ (v0 : Nat) (v4 : Nat) (v5 : Int32) (v6 : Int32) (v7 : Nat) (v8 : Int32) (v9 : Int32) (v10 : Int32) (v11 : Nat) (v12 : Nat) (v13 : Int32) (v14 : Int32) (v15 : Int32) (v16 : Int32) (v17 : Int32) (v18 : Int32) M, xZ oI O (d + 9) 145 347 [(0, .ref v0), (4, .ref v4), (5, .int v5), (6, .int v6), (7, .ref v7), (8, .int v8), (9, .int v9), (10, .int v10), (11, .ref v11), (12, .ref v12), (13, .int v13), (14, .int v14), (15, .int v15), (16, .int v16), (17, .int v17), (18, .int v18)] [] M (K347 v0 v4 v5 v6 v7 v8 v9 v10 v11 v12 v13 v14 v15 v16 v17 v18 M)) : ∀ (n : Nat) (v0 : Nat) (v4 : Nat) (v5 : Int32) (v6 : Int32) (v7 : Nat) (v8 : Int32) (v9 : Int32) (v10 : Int32) (v11 : Nat) (v12 : Nat) (v13 : Int32) (v14 : Int32) (v15 : Int32) (v16 : Int32) (v17 : Int32) (v18 : Int32) (v19 : Int32) (v20 : Int32) (M : xM), xZ oI O (d + 9) 145 360 [(0, .ref v0), (4, .ref v4), (5, .int v5), (6, .int v6), (7, .ref v7), (8, .int v8), (9, .int v9), (10, .int v10), (11, .ref v11), (12, .ref v12), (13, .int v13), (14, .int v14), (15, .int v15), (16, .int v16), (17, .int v17), (18, .int v18), (19, .int v19), (20, .int v20)] [] M (f_Law_areFree_360 O f K347 n v0 v4 v5 v6 v7 v8 v9 v10 v11 v12 v13 v14 v15 v16 v17 v18 v19 v20 M) := by
  intro n
  induction n with
  | zero =>
    intro v0 v4 v5 v6 v7 v8 v9 v10 v11 v12 v13 v14 v15 v16 v17 v18 v19 v20 M
    exact xZ.no
  | succ n ih =>
    intro v0 v4 v5 v6 v7 v8 v9 v10 v11 v12 v13 v14 v15 v16 v17 v18 v19 v20 M
    unfold f_Law_areFree_360
    refine xZ.adv (me := xm145) hP_145 2 (pc' := 364) (lv' := [(0, .ref v0), (4, .ref v4), (5, .int v5), (6, .int v6), (7, .ref v7), (8, .int v8), (9, .int v9), (10, .int v10), (11, .ref v11), (12, .ref v12), (13, .int v13), (14, .int v14), (15, .int v15), (16, .int v16), (17, .int v17), (18, .int v18), (19, .int v19), (20, .int v20)]) (st' := [.ref v7, .int v20]) rfl ?_
    refine xZ.k_gI (me := xm145) hP_145 rfl (fun x1 => ?_)
    refine xZ.ic_ge (me := xm145) hP_145 rfl (fun h1 => ?_) (fun h1 => ?_)
    · skip
      refine xZ.adv (me := xm145) hP_145 3 (pc' := 439) (lv' := [(0, .ref v0), (4, .ref v4), (5, .int v5), (6, .int v6), (7, .ref v7), (8, .int v8), (9, .int v9), (10, .int v10), (11, .ref v11), (12, .ref v12), (13, .int v13), (14, .int v14), (15, .int v15), (16, .int v16), (17, .int v17), (18, .int v18), (19, .int v19), (20, .int v20)]) (st' := [.int (v18 - v18 / (97 : Int32) * (97 : Int32))]) rfl ?_
      refine xZ.if_ne (me := xm145) hP_145 rfl (fun h2 => ?_) (fun h2 => ?_)
      · skip
        refine xZ.adv (me := xm145) hP_145 5 (pc' := 450) (lv' := [(0, .ref v0), (4, .ref v4), (5, .int v5), (6, .int v6), (7, .ref v7), (8, .int v8), (9, .int v9), (10, .int v10), (11, .ref v11), (12, .ref v12), (13, .int v13), (14, .int v14), (15, .int v15), (16, .int v16), (17, .int v17), (18, .int v18), (19, .int v19), (20, .int v20)]) (st' := [.int (v5 + v18), .int v13, .ref v0]) rfl ?_
        refine xZ.callv (κ := oI) (av := [.int v13, .int (v5 + v18)]) (rest := []) (st' := fun x2 => [.int x2]) (k0 := v0) (me := xm145) hP_145 rfl (Or.inl rfl) ⟨rfl, by decide⟩ rfl rfl (Nat.le_of_ble_eq_true rfl) (by decide) hP_157 (Nat.le_of_ble_eq_true rfl) (fun _ => rfl) (k_f_Calendarhall_datesAt O f (d + 2) v0 v13 (v5 + v18) M) (fun x2 M1 => ?_)
        refine xZ.adv (me := xm145) hP_145 1 (pc' := 455) (lv' := [(0, .ref v0), (4, .ref v4), (5, .int v5), (6, .int v6), (7, .ref v7), (8, .int v8), (9, .int v9), (10, .int v10), (11, .ref v11), (12, .ref v12), (13, .int v13), (14, .int v14), (15, .int v15), (16, .int v16), (17, .int v17), (18, .int v18), (19, .int v19), (20, .int v20)]) (st' := [.int v19, .int x2]) rfl ?_
        refine xZ.ic_eq (me := xm145) hP_145 rfl (fun h3 => ?_) (fun h3 => ?_)
        · skip
          exact xZ.sub (xsc (.head _) (xsc (.tail _ (.head _)) (xsc (.tail _ (.tail _ (.head _))) (xsc (.tail _ (.tail _ (.tail _ (.head _)))) (xsc (.tail _ (.tail _ (.tail _ (.tail _ (.head _))))) (xsc (.tail _ (.tail _ (.tail _ (.tail _ (.tail _ (.head _)))))) (xsc (.tail _ (.tail _ (.tail _ (.tail _ (.tail _ (.tail _ (.head _))))))) (xsc (.tail _ (.tail _ (.tail _ (.tail _ (.tail _ (.tail _ (.tail _ (.head _)))))))) (xsc (.tail _ (.tail _ (.tail _ (.tail _ (.tail _ (.tail _ (.tail _ (.tail _ (.head _))))))))) (xsc (.tail _ (.tail _ (.tail _ (.tail _ (.tail _ (.tail _ (.tail _ (.tail _ (.tail _ (.head _)))))))))) (xsc (.tail _ (.tail _ (.tail _ (.tail _ (.tail _ (.tail _ (.tail _ (.tail _ (.tail _ (.tail _ (.head _))))))))))) (xsc (.tail _ (.tail _ (.tail _ (.tail _ (.tail _ (.tail _ (.tail _ (.tail _ (.tail _ (.tail _ (.tail _ (.head _)))))))))))) (xsc (.tail _ (.tail _ (.tail _ (.tail _ (.tail _ (.tail _ (.tail _ (.tail _ (.tail _ (.tail _ (.tail _ (.tail _ (.head _))))))))))))) (xsc (.tail _ (.tail _ (.tail _ (.tail _ (.tail _ (.tail _ (.tail _ (.tail _ (.tail _ (.tail _ (.tail _ (.tail _ (.tail _ (.head _)))))))))))))) (xsc (.tail _ (.tail _ (.tail _ (.tail _ (.tail _ (.tail _ (.tail _ (.tail _ (.tail _ (.tail _ (.tail _ (.tail _ (.tail _ (.tail _ (.head _))))))))))))))) (xsc (.tail _ (.tail _ (.tail _ (.tail _ (.tail _ (.tail _ (.tail _ (.tail _ (.tail _ (.tail _ (.tail _ (.tail _ (.tail _ (.tail _ (.tail _ (.head _)))))))))))))))) (xsc (.tail _ (.tail _ (.tail _ (.tail _ (.tail _ (.tail _ (.tail _ (.tail _ (.tail _ (.tail _ (.tail _ (.tail _ (.tail _ (.tail _ (.tail _ (.tail _ (.head _))))))))))))))))) xsn))))))))))))))))) (show ([0, 4, 5, 6, 7, 8, 9, 10, 11, 12, 13, 14, 15, 16, 17, 18, 19, 20] : List Nat).Nodup from by decide) (k_f_Law_areFree_460 O f d K347 hK347 v0 v4 v5 v6 v7 v8 v9 v10 v11 v12 v13 v14 v15 v16 v17 v18 v19 M1)
        · skip
          refine xZ.adv (me := xm145) hP_145 1 (pc' := 459) (lv' := [(0, .ref v0), (4, .ref v4), (5, .int v5), (6, .int v6), (7, .ref v7), (8, .int v8), (9, .int v9), (10, .int v10), (11, .ref v11), (12, .ref v12), (13, .int v13), (14, .int v14), (15, .int v15), (16, .int v16), (17, .int v17), (18, .int v18), (19, .int v19), (20, .int v20)]) (st' := [.int (0 : Int32)]) rfl ?_
          exact xZ.rete (me := xm145) hP_145 rfl rfl rfl
      · skip
        exact xZ.sub (xsc (.head _) (xsc (.tail _ (.head _)) (xsc (.tail _ (.tail _ (.head _))) (xsc (.tail _ (.tail _ (.tail _ (.head _)))) (xsc (.tail _ (.tail _ (.tail _ (.tail _ (.head _))))) (xsc (.tail _ (.tail _ (.tail _ (.tail _ (.tail _ (.head _)))))) (xsc (.tail _ (.tail _ (.tail _ (.tail _ (.tail _ (.tail _ (.head _))))))) (xsc (.tail _ (.tail _ (.tail _ (.tail _ (.tail _ (.tail _ (.tail _ (.head _)))))))) (xsc (.tail _ (.tail _ (.tail _ (.tail _ (.tail _ (.tail _ (.tail _ (.tail _ (.head _))))))))) (xsc (.tail _ (.tail _ (.tail _ (.tail _ (.tail _ (.tail _ (.tail _ (.tail _ (.tail _ (.head _)))))))))) (xsc (.tail _ (.tail _ (.tail _ (.tail _ (.tail _ (.tail _ (.tail _ (.tail _ (.tail _ (.tail _ (.head _))))))))))) (xsc (.tail _ (.tail _ (.tail _ (.tail _ (.tail _ (.tail _ (.tail _ (.tail _ (.tail _ (.tail _ (.tail _ (.head _)))))))))))) (xsc (.tail _ (.tail _ (.tail _ (.tail _ (.tail _ (.tail _ (.tail _ (.tail _ (.tail _ (.tail _ (.tail _ (.tail _ (.head _))))))))))))) (xsc (.tail _ (.tail _ (.tail _ (.tail _ (.tail _ (.tail _ (.tail _ (.tail _ (.tail _ (.tail _ (.tail _ (.tail _ (.tail _ (.head _)))))))))))))) (xsc (.tail _ (.tail _ (.tail _ (.tail _ (.tail _ (.tail _ (.tail _ (.tail _ (.tail _ (.tail _ (.tail _ (.tail _ (.tail _ (.tail _ (.head _))))))))))))))) (xsc (.tail _ (.tail _ (.tail _ (.tail _ (.tail _ (.tail _ (.tail _ (.tail _ (.tail _ (.tail _ (.tail _ (.tail _ (.tail _ (.tail _ (.tail _ (.head _)))))))))))))))) (xsc (.tail _ (.tail _ (.tail _ (.tail _ (.tail _ (.tail _ (.tail _ (.tail _ (.tail _ (.tail _ (.tail _ (.tail _ (.tail _ (.tail _ (.tail _ (.tail _ (.head _))))))))))))))))) xsn))))))))))))))))) (show ([0, 4, 5, 6, 7, 8, 9, 10, 11, 12, 13, 14, 15, 16, 17, 18, 19, 20] : List Nat).Nodup from by decide) (k_f_Law_areFree_460 O f d K347 hK347 v0 v4 v5 v6 v7 v8 v9 v10 v11 v12 v13 v14 v15 v16 v17 v18 v19 M)
    · skip
      refine xZ.adv (me := xm145) hP_145 2 (pc' := 374) (lv' := [(0, .ref v0), (4, .ref v4), (5, .int v5), (6, .int v6), (7, .ref v7), (8, .int v8), (9, .int v9), (10, .int v10), (11, .ref v11), (12, .ref v12), (13, .int v13), (14, .int v14), (15, .int v15), (16, .int v16), (17, .int v17), (18, .int v18), (19, .int v19), (20, .int v20)]) (st' := [.ref v7, .int v19]) rfl ?_
      refine xZ.k_gR (me := xm145) hP_145 rfl (fun x3 => ?_)
      refine xZ.adv (me := xm145) hP_145 1 (pc' := 379) (lv' := [(0, .ref v0), (4, .ref v4), (5, .int v5), (6, .int v6), (7, .ref v7), (8, .int v8), (9, .int v9), (10, .int v10), (11, .ref v11), (12, .ref v12), (13, .int v13), (14, .int v14), (15, .int v15), (16, .int v16), (17, .int v17), (18, .int v18), (19, .int v19), (20, .int v20)]) (st' := [.int v20, .ref x3, .int v19]) rfl ?_
      refine xZ.k_aI (me := xm145) hP_145 rfl (fun x4 => ?_)
      refine xZ.adv (me := xm145) hP_145 3 (pc' := 385) (lv' := [(0, .ref v0), (4, .ref v4), (5, .int v5), (6, .int v6), (7, .ref v7), (8, .int v8), (9, .int v9), (10, .int v10), (11, .ref v11), (12, .ref v12), (13, .int v13), (14, .int v14), (15, .int v15), (16, .int v16), (17, .int v17), (18, .int v18), (19, .int v19), (20, .int v20)]) (st' := [.int (v5 + v18), .int x4, .int v19]) rfl ?_
      refine xZ.ic_gt (me := xm145) hP_145 rfl (fun h4 => ?_) (fun h4 => ?_)
      · skip
        exact xZ.sub (xsc (.head _) (xsc (.tail _ (.head _)) (xsc (.tail _ (.tail _ (.head _))) (xsc (.tail _ (.tail _ (.tail _ (.head _)))) (xsc (.tail _ (.tail _ (.tail _ (.tail _ (.head _))))) (xsc (.tail _ (.tail _ (.tail _ (.tail _ (.tail _ (.head _)))))) (xsc (.tail _ (.tail _ (.tail _ (.tail _ (.tail _ (.tail _ (.head _))))))) (xsc (.tail _ (.tail _ (.tail _ (.tail _ (.tail _ (.tail _ (.tail _ (.head _)))))))) (xsc (.tail _ (.tail _ (.tail _ (.tail _ (.tail _ (.tail _ (.tail _ (.tail _ (.head _))))))))) (xsc (.tail _ (.tail _ (.tail _ (.tail _ (.tail _ (.tail _ (.tail _ (.tail _ (.tail _ (.head _)))))))))) (xsc (.tail _ (.tail _ (.tail _ (.tail _ (.tail _ (.tail _ (.tail _ (.tail _ (.tail _ (.tail _ (.head _))))))))))) (xsc (.tail _ (.tail _ (.tail _ (.tail _ (.tail _ (.tail _ (.tail _ (.tail _ (.tail _ (.tail _ (.tail _ (.head _)))))))))))) (xsc (.tail _ (.tail _ (.tail _ (.tail _ (.tail _ (.tail _ (.tail _ (.tail _ (.tail _ (.tail _ (.tail _ (.tail _ (.head _))))))))))))) (xsc (.tail _ (.tail _ (.tail _ (.tail _ (.tail _ (.tail _ (.tail _ (.tail _ (.tail _ (.tail _ (.tail _ (.tail _ (.tail _ (.head _)))))))))))))) (xsc (.tail _ (.tail _ (.tail _ (.tail _ (.tail _ (.tail _ (.tail _ (.tail _ (.tail _ (.tail _ (.tail _ (.tail _ (.tail _ (.tail _ (.head _))))))))))))))) (xsc (.tail _ (.tail _ (.tail _ (.tail _ (.tail _ (.tail _ (.tail _ (.tail _ (.tail _ (.tail _ (.tail _ (.tail _ (.tail _ (.tail _ (.tail _ (.head _)))))))))))))))) (xsc (.tail _ (.tail _ (.tail _ (.tail _ (.tail _ (.tail _ (.tail _ (.tail _ (.tail _ (.tail _ (.tail _ (.tail _ (.tail _ (.tail _ (.tail _ (.tail _ (.tail _ (.head _)))))))))))))))))) xsn))))))))))))))))) (show ([0, 4, 5, 6, 7, 8, 9, 10, 11, 12, 13, 14, 15, 16, 17, 18, 19, 20] : List Nat).Nodup from by decide) (k_f_Law_areFree_424 O f d (f_Law_areFree_360 O f K347 n) ih v0 v4 v5 v6 v7 v8 v9 v10 v11 v12 v13 v14 v15 v16 v17 v18 v20 v19 M)
      · skip
        refine xZ.adv (me := xm145) hP_145 5 (pc' := 397) (lv' := [(0, .ref v0), (4, .ref v4), (5, .int v5), (6, .int v6), (7, .ref v7), (8, .int v8), (9, .int v9), (10, .int v10), (11, .ref v11), (12, .ref v12), (13, .int v13), (14, .int v14), (15, .int v15), (16, .int v16), (17, .int v17), (18, .int v18), (19, .int v19), (20, .int v20)]) (st' := [.int v20, .ref v7, .int (v5 + v18), .int v19]) rfl ?_
        refine xZ.callv (κ := oI) (av := [.int v20]) (rest := [.int (v5 + v18), .int v19]) (st' := fun x5 => [.int x5, .int (v5 + v18), .int v19]) (k0 := v7) (me := xm145) hP_145 rfl (Or.inl rfl) ⟨rfl, by decide⟩ rfl rfl (Nat.le_of_ble_eq_true rfl) (by decide) hP_154 (Nat.le_of_ble_eq_true rfl) (fun _ => rfl) (k_f_LDates_end O f (d + 8) v7 v20 M) (fun x5 M2 => ?_)
        refine xZ.ic_ge (me := xm145) hP_145 rfl (fun h5 => ?_) (fun h5 => ?_)
        · skip
          exact xZ.sub (xsc (.head _) (xsc (.tail _ (.head _)) (xsc (.tail _ (.tail _ (.head _))) (xsc (.tail _ (.tail _ (.tail _ (.head _)))) (xsc (.tail _ (.tail _ (.tail _ (.tail _ (.head _))))) (xsc (.tail _ (.tail _ (.tail _ (.tail _ (.tail _ (.head _)))))) (xsc (.tail _ (.tail _ (.tail _ (.tail _ (.tail _ (.tail _ (.head _))))))) (xsc (.tail _ (.tail _ (.tail _ (.tail _ (.tail _ (.tail _ (.tail _ (.head _)))))))) (xsc (.tail _ (.tail _ (.tail _ (.tail _ (.tail _ (.tail _ (.tail _ (.tail _ (.head _))))))))) (xsc (.tail _ (.tail _ (.tail _ (.tail _ (.tail _ (.tail _ (.tail _ (.tail _ (.tail _ (.head _)))))))))) (xsc (.tail _ (.tail _ (.tail _ (.tail _ (.tail _ (.tail _ (.tail _ (.tail _ (.tail _ (.tail _ (.head _))))))))))) (xsc (.tail _ (.tail _ (.tail _ (.tail _ (.tail _ (.tail _ (.tail _ (.tail _ (.tail _ (.tail _ (.tail _ (.head _)))))))))))) (xsc (.tail _ (.tail _ (.tail _ (.tail _ (.tail _ (.tail _ (.tail _ (.tail _ (.tail _ (.tail _ (.tail _ (.tail _ (.head _))))))))))))) (xsc (.tail _ (.tail _ (.tail _ (.tail _ (.tail _ (.tail _ (.tail _ (.tail _ (.tail _ (.tail _ (.tail _ (.tail _ (.tail _ (.head _)))))))))))))) (xsc (.tail _ (.tail _ (.tail _ (.tail _ (.tail _ (.tail _ (.tail _ (.tail _ (.tail _ (.tail _ (.tail _ (.tail _ (.tail _ (.tail _ (.head _))))))))))))))) (xsc (.tail _ (.tail _ (.tail _ (.tail _ (.tail _ (.tail _ (.tail _ (.tail _ (.tail _ (.tail _ (.tail _ (.tail _ (.tail _ (.tail _ (.tail _ (.head _)))))))))))))))) (xsc (.tail _ (.tail _ (.tail _ (.tail _ (.tail _ (.tail _ (.tail _ (.tail _ (.tail _ (.tail _ (.tail _ (.tail _ (.tail _ (.tail _ (.tail _ (.tail _ (.tail _ (.head _)))))))))))))))))) xsn))))))))))))))))) (show ([0, 4, 5, 6, 7, 8, 9, 10, 11, 12, 13, 14, 15, 16, 17, 18, 19, 20] : List Nat).Nodup from by decide) (k_f_Law_areFree_424 O f d (f_Law_areFree_360 O f K347 n) ih v0 v4 v5 v6 v7 v8 v9 v10 v11 v12 v13 v14 v15 v16 v17 v18 v20 v19 M2)
        · skip
          refine xZ.adv (me := xm145) hP_145 2 (pc' := 406) (lv' := [(0, .ref v0), (4, .ref v4), (5, .int v5), (6, .int v6), (7, .ref v7), (8, .int v8), (9, .int v9), (10, .int v10), (11, .ref v11), (12, .ref v12), (13, .int v13), (14, .int v14), (15, .int v15), (16, .int v16), (17, .int v17), (18, .int v18), (19, .int v19), (20, .int v20)]) (st' := [.ref v7, .ref v0, .int v19]) rfl ?_
          refine xZ.k_gR (me := xm145) hP_145 rfl (fun x6 => ?_)
          refine xZ.adv (me := xm145) hP_145 1 (pc' := 411) (lv' := [(0, .ref v0), (4, .ref v4), (5, .int v5), (6, .int v6), (7, .ref v7), (8, .int v8), (9, .int v9), (10, .int v10), (11, .ref v11), (12, .ref v12), (13, .int v13), (14, .int v14), (15, .int v15), (16, .int v16), (17, .int v17), (18, .int v18), (19, .int v19), (20, .int v20)]) (st' := [.int v20, .ref x6, .ref v0, .int v19]) rfl ?_
          refine xZ.k_aI (me := xm145) hP_145 rfl (fun x7 => ?_)
          refine xZ.adv (me := xm145) hP_145 1 (pc' := 414) (lv' := [(0, .ref v0), (4, .ref v4), (5, .int v5), (6, .int v6), (7, .ref v7), (8, .int v8), (9, .int v9), (10, .int v10), (11, .ref v11), (12, .ref v12), (13, .int v13), (14, .int v14), (15, .int v15), (16, .int v16), (17, .int v17), (18, .int v18), (19, .int v19), (20, .int v20)]) (st' := [.int v13, .int x7, .ref v0, .int v19]) rfl ?_
          refine xZ.calls (κ := oI) (av := [.ref v0, .int x7, .int v13]) (rest := [.int v19]) (st' := fun x8 => [.int x8, .int v19]) (me := xm145) hP_145 rfl rfl rfl (Nat.le_of_ble_eq_true rfl) (by decide) hP_155 (Nat.le_of_ble_eq_true rfl) (fun _ => rfl) (k_f_Law_takesPart O f (d + 5) v0 x7 v13 M2) (fun x8 M3 => ?_)
          refine xZ.if_eq (me := xm145) hP_145 rfl (fun h6 => ?_) (fun h6 => ?_)
          · skip
            exact xZ.sub (xsc (.head _) (xsc (.tail _ (.head _)) (xsc (.tail _ (.tail _ (.head _))) (xsc (.tail _ (.tail _ (.tail _ (.head _)))) (xsc (.tail _ (.tail _ (.tail _ (.tail _ (.head _))))) (xsc (.tail _ (.tail _ (.tail _ (.tail _ (.tail _ (.head _)))))) (xsc (.tail _ (.tail _ (.tail _ (.tail _ (.tail _ (.tail _ (.head _))))))) (xsc (.tail _ (.tail _ (.tail _ (.tail _ (.tail _ (.tail _ (.tail _ (.head _)))))))) (xsc (.tail _ (.tail _ (.tail _ (.tail _ (.tail _ (.tail _ (.tail _ (.tail _ (.head _))))))))) (xsc (.tail _ (.tail _ (.tail _ (.tail _ (.tail _ (.tail _ (.tail _ (.tail _ (.tail _ (.head _)))))))))) (xsc (.tail _ (.tail _ (.tail _ (.tail _ (.tail _ (.tail _ (.tail _ (.tail _ (.tail _ (.tail _ (.head _))))))))))) (xsc (.tail _ (.tail _ (.tail _ (.tail _ (.tail _ (.tail _ (.tail _ (.tail _ (.tail _ (.tail _ (.tail _ (.head _)))))))))))) (xsc (.tail _ (.tail _ (.tail _ (.tail _ (.tail _ (.tail _ (.tail _ (.tail _ (.tail _ (.tail _ (.tail _ (.tail _ (.head _))))))))))))) (xsc (.tail _ (.tail _ (.tail _ (.tail _ (.tail _ (.tail _ (.tail _ (.tail _ (.tail _ (.tail _ (.tail _ (.tail _ (.tail _ (.head _)))))))))))))) (xsc (.tail _ (.tail _ (.tail _ (.tail _ (.tail _ (.tail _ (.tail _ (.tail _ (.tail _ (.tail _ (.tail _ (.tail _ (.tail _ (.tail _ (.head _))))))))))))))) (xsc (.tail _ (.tail _ (.tail _ (.tail _ (.tail _ (.tail _ (.tail _ (.tail _ (.tail _ (.tail _ (.tail _ (.tail _ (.tail _ (.tail _ (.tail _ (.head _)))))))))))))))) (xsc (.tail _ (.tail _ (.tail _ (.tail _ (.tail _ (.tail _ (.tail _ (.tail _ (.tail _ (.tail _ (.tail _ (.tail _ (.tail _ (.tail _ (.tail _ (.tail _ (.tail _ (.head _)))))))))))))))))) xsn))))))))))))))))) (show ([0, 4, 5, 6, 7, 8, 9, 10, 11, 12, 13, 14, 15, 16, 17, 18, 19, 20] : List Nat).Nodup from by decide) (k_f_Law_areFree_424 O f d (f_Law_areFree_360 O f K347 n) ih v0 v4 v5 v6 v7 v8 v9 v10 v11 v12 v13 v14 v15 v16 v17 v18 v20 v19 M3)
          · skip
            refine xZ.adv (me := xm145) hP_145 2 (pc' := 425) (lv' := [(0, .ref v0), (4, .ref v4), (5, .int v5), (6, .int v6), (7, .ref v7), (8, .int v8), (9, .int v9), (10, .int v10), (11, .ref v11), (12, .ref v12), (13, .int v13), (14, .int v14), (15, .int v15), (16, .int v16), (17, .int v17), (18, .int v18), (19, .int v19), (20, .int v20)]) (st' := [.int (1 : Int32), .int v19]) rfl ?_
            exact xZ.sub (xsc (.head _) (xsc (.tail _ (.head _)) (xsc (.tail _ (.tail _ (.head _))) (xsc (.tail _ (.tail _ (.tail _ (.head _)))) (xsc (.tail _ (.tail _ (.tail _ (.tail _ (.head _))))) (xsc (.tail _ (.tail _ (.tail _ (.tail _ (.tail _ (.head _)))))) (xsc (.tail _ (.tail _ (.tail _ (.tail _ (.tail _ (.tail _ (.head _))))))) (xsc (.tail _ (.tail _ (.tail _ (.tail _ (.tail _ (.tail _ (.tail _ (.head _)))))))) (xsc (.tail _ (.tail _ (.tail _ (.tail _ (.tail _ (.tail _ (.tail _ (.tail _ (.head _))))))))) (xsc (.tail _ (.tail _ (.tail _ (.tail _ (.tail _ (.tail _ (.tail _ (.tail _ (.tail _ (.head _)))))))))) (xsc (.tail _ (.tail _ (.tail _ (.tail _ (.tail _ (.tail _ (.tail _ (.tail _ (.tail _ (.tail _ (.head _))))))))))) (xsc (.tail _ (.tail _ (.tail _ (.tail _ (.tail _ (.tail _ (.tail _ (.tail _ (.tail _ (.tail _ (.tail _ (.head _)))))))))))) (xsc (.tail _ (.tail _ (.tail _ (.tail _ (.tail _ (.tail _ (.tail _ (.tail _ (.tail _ (.tail _ (.tail _ (.tail _ (.head _))))))))))))) (xsc (.tail _ (.tail _ (.tail _ (.tail _ (.tail _ (.tail _ (.tail _ (.tail _ (.tail _ (.tail _ (.tail _ (.tail _ (.tail _ (.head _)))))))))))))) (xsc (.tail _ (.tail _ (.tail _ (.tail _ (.tail _ (.tail _ (.tail _ (.tail _ (.tail _ (.tail _ (.tail _ (.tail _ (.tail _ (.tail _ (.head _))))))))))))))) (xsc (.tail _ (.tail _ (.tail _ (.tail _ (.tail _ (.tail _ (.tail _ (.tail _ (.tail _ (.tail _ (.tail _ (.tail _ (.tail _ (.tail _ (.tail _ (.head _)))))))))))))))) (xsc (.tail _ (.tail _ (.tail _ (.tail _ (.tail _ (.tail _ (.tail _ (.tail _ (.tail _ (.tail _ (.tail _ (.tail _ (.tail _ (.tail _ (.tail _ (.tail _ (.tail _ (.head _)))))))))))))))))) xsn))))))))))))))))) (show ([0, 4, 5, 6, 7, 8, 9, 10, 11, 12, 13, 14, 15, 16, 17, 18, 19, 20] : List Nat).Nodup from by decide) (k_f_Law_areFree_425 O f d (f_Law_areFree_360 O f K347 n) ih v0 v4 v5 v6 v7 v8 v9 v10 v11 v12 v13 v14 v15 v16 v17 v18 v20 v19 (1 : Int32) M3)
def f_Law_areFree_704 (O : Nat → Option va_E) (f : Nat) (K326 : Nat → Nat → Int32 → Int32 → Nat → Int32 → Int32 → Int32 → Nat → Nat → Int32 → xM → Option (Int32 × xM)) (v0 : Nat) (v4 : Nat) (v5 : Int32) (v6 : Int32) (v7 : Nat) (v8 : Int32) (v9 : Int32) (v10 : Int32) (v11 : Nat) (v12 : Nat) (v13 : Int32) (s0 : UInt64) (s1 : UInt64) (M : xM) : Option (Int32 × xM) :=
  if (Op.cmpValue (FP.dcmp s0 s1) .l) = 0 then (
    K326 v0 v4 v5 v6 v7 v8 v9 v10 v11 v12 (v13 + (1 : Int32)) M
  ) else
  some ((0 : Int32), M)
set_option maxRecDepth 20000 in
theorem k_f_Law_areFree_704 (O : Nat → Option va_E) (f d : Nat) (K326 : Nat → Nat → Int32 → Int32 → Nat → Int32 → Int32 → Int32 → Nat → Nat → Int32 → xM → Option (Int32 × xM)) (hK326 : ∀ (v0 : Nat) (v4 : Nat) (v5 : Int32) (v6 : Int32) (v7 : Nat) (v8 : Int32) (v9 : Int32) (v10 : Int32) (v11 : Nat) (v12 : Nat) (v13 : Int32) M, xZ oI O (d + 9) 145 326 [(0, .ref v0), (4, .ref v4), (5, .int v5), (6, .int v6), (7, .ref v7), (8, .int v8), (9, .int v9), (10, .int v10), (11, .ref v11), (12, .ref v12), (13, .int v13)] [] M (K326 v0 v4 v5 v6 v7 v8 v9 v10 v11 v12 v13 M)) (v0 : Nat) (v4 : Nat) (v5 : Int32) (v6 : Int32) (v7 : Nat) (v8 : Int32) (v9 : Int32) (v10 : Int32) (v11 : Nat) (v12 : Nat) (v13 : Int32) (s0 : UInt64) (s1 : UInt64) (M : xM) : xZ oI O (d + 9) 145 704 [(0, .ref v0), (4, .ref v4), (5, .int v5), (6, .int v6), (7, .ref v7), (8, .int v8), (9, .int v9), (10, .int v10), (11, .ref v11), (12, .ref v12), (13, .int v13)] [.double s1, .double s0] M (f_Law_areFree_704 O f K326 v0 v4 v5 v6 v7 v8 v9 v10 v11 v12 v13 s0 s1 M) := by
  unfold f_Law_areFree_704
  refine xZ.adv (me := xm145) hP_145 1 (pc' := 705) (lv' := [(0, .ref v0), (4, .ref v4), (5, .int v5), (6, .int v6), (7, .ref v7), (8, .int v8), (9, .int v9), (10, .int v10), (11, .ref v11), (12, .ref v12), (13, .int v13)]) (st' := [.int (Op.cmpValue (FP.dcmp s0 s1) .l)]) rfl ?_
  refine xZ.if_eq (me := xm145) hP_145 rfl (fun h1 => ?_) (fun h1 => ?_)
  · skip
    refine xZ.adv (me := xm145) hP_145 2 (pc' := 326) (lv' := [(13, .int (v13 + (1 : Int32))), (0, .ref v0), (4, .ref v4), (5, .int v5), (6, .int v6), (7, .ref v7), (8, .int v8), (9, .int v9), (10, .int v10), (11, .ref v11), (12, .ref v12)]) (st' := []) rfl ?_
    exact xZ.sub (xsc (.tail _ (.head _)) (xsc (.tail _ (.tail _ (.head _))) (xsc (.tail _ (.tail _ (.tail _ (.head _)))) (xsc (.tail _ (.tail _ (.tail _ (.tail _ (.head _))))) (xsc (.tail _ (.tail _ (.tail _ (.tail _ (.tail _ (.head _)))))) (xsc (.tail _ (.tail _ (.tail _ (.tail _ (.tail _ (.tail _ (.head _))))))) (xsc (.tail _ (.tail _ (.tail _ (.tail _ (.tail _ (.tail _ (.tail _ (.head _)))))))) (xsc (.tail _ (.tail _ (.tail _ (.tail _ (.tail _ (.tail _ (.tail _ (.tail _ (.head _))))))))) (xsc (.tail _ (.tail _ (.tail _ (.tail _ (.tail _ (.tail _ (.tail _ (.tail _ (.tail _ (.head _)))))))))) (xsc (.tail _ (.tail _ (.tail _ (.tail _ (.tail _ (.tail _ (.tail _ (.tail _ (.tail _ (.tail _ (.head _))))))))))) (xsc (.head _) xsn))))))))))) (show ([13, 0, 4, 5, 6, 7, 8, 9, 10, 11, 12] : List Nat).Nodup from by decide) (hK326 v0 v4 v5 v6 v7 v8 v9 v10 v11 v12 (v13 + (1 : Int32)) M)
  · skip
    refine xZ.adv (me := xm145) hP_145 1 (pc' := 709) (lv' := [(0, .ref v0), (4, .ref v4), (5, .int v5), (6, .int v6), (7, .ref v7), (8, .int v8), (9, .int v9), (10, .int v10), (11, .ref v11), (12, .ref v12), (13, .int v13)]) (st' := [.int (0 : Int32)]) rfl ?_
    exact xZ.rete (me := xm145) hP_145 rfl rfl rfl
def f_Law_areFree_347 (O : Nat → Option va_E) (f : Nat) (K326 : Nat → Nat → Int32 → Int32 → Nat → Int32 → Int32 → Int32 → Nat → Nat → Int32 → xM → Option (Int32 × xM)) : Nat → Nat → Nat → Int32 → Int32 → Nat → Int32 → Int32 → Int32 → Nat → Nat → Int32 → Int32 → Int32 → Int32 → Int32 → Int32 → xM → Option (Int32 × xM)
  | 0, _, _, _, _, _, _, _, _, _, _, _, _, _, _, _, _, _ => none
  | n + 1, v0, v4, v5, v6, v7, v8, v9, v10, v11, v12, v13, v14, v15, v16, v17, v18, M =>
    if v6 ≤ v18 then (
      (isO O M v0 12).bind fun _ =>
      xcl (f_Calendarhall_minutesOf O f v0 v13 v5 (v5 + v6) (0 : Int32) M) fun x1 M1 =>
      if x1 = v14 then (
        (isO O M1 v0 12).bind fun _ =>
        xcl (f_Calendarhall_minutesOf O f v0 v13 v5 (v5 + v6) (1 : Int32) M1) fun x2 M2 =>
        if x2 = v16 then (
          (isO O M2 v0 12).bind fun _ =>
          xcl (f_Calendarhall_minutesOf O f v0 v13 v5 (v5 + v6) (2 : Int32) M2) fun x3 M3 =>
          if x3 = v15 then (
            (isO O M3 v0 12).bind fun _ =>
            xcl (f_Calendarhall_busyShare O f v0 v13 v5 (v5 + v6) M3) fun x4 M4 =>
            if v16 = 0 then (
              f_Law_areFree_704 O f K326 v0 v4 v5 v6 v7 v8 v9 v10 v11 v12 v13 x4 FP.dconst0 M4
            ) else
            if FP.ddiv (FP.i2d v15) (FP.i2d v16) &&& 0x7fffffffffffffff ≤ 0x7ff0000000000000 then (xlet (FP.ddiv (FP.i2d v15) (FP.i2d v16)) fun x5 =>
              f_Law_areFree_704 O f K326 v0 v4 v5 v6 v7 v8 v9 v10 v11 v12 v13 x4 x5 M4
            ) else none
          ) else
          some ((0 : Int32), M3)
        ) else
        some ((0 : Int32), M2)
      ) else
      some ((0 : Int32), M1)
    ) else
    f_Law_areFree_360 O f (f_Law_areFree_347 O f K326 n) f v0 v4 v5 v6 v7 v8 v9 v10 v11 v12 v13 v14 v15 v16 v17 v18 (0 : Int32) (0 : Int32) M
set_option maxRecDepth 20000 in
theorem k_f_Law_areFree_347 (O : Nat → Option va_E) (f d : Nat) (K326 : Nat → Nat → Int32 → Int32 → Nat → Int32 → Int32 → Int32 → Nat → Nat → Int32 → xM → Option (Int32 × xM)) (hK326 : ∀ (v0 : Nat) (v4 : Nat) (v5 : Int32) (v6 : Int32) (v7 : Nat) (v8 : Int32) (v9 : Int32) (v10 : Int32) (v11 : Nat) (v12 : Nat) (v13 : Int32) M, xZ oI O (d + 9) 145 326 [(0, .ref v0), (4, .ref v4), (5, .int v5), (6, .int v6), (7, .ref v7), (8, .int v8), (9, .int v9), (10, .int v10), (11, .ref v11), (12, .ref v12), (13, .int v13)] [] M (K326 v0 v4 v5 v6 v7 v8 v9 v10 v11 v12 v13 M)) : ∀ (n : Nat) (v0 : Nat) (v4 : Nat) (v5 : Int32) (v6 : Int32) (v7 : Nat) (v8 : Int32) (v9 : Int32) (v10 : Int32) (v11 : Nat) (v12 : Nat) (v13 : Int32) (v14 : Int32) (v15 : Int32) (v16 : Int32) (v17 : Int32) (v18 : Int32) (M : xM), xZ oI O (d + 9) 145 347 [(0, .ref v0), (4, .ref v4), (5, .int v5), (6, .int v6), (7, .ref v7), (8, .int v8), (9, .int v9), (10, .int v10), (11, .ref v11), (12, .ref v12), (13, .int v13), (14, .int v14), (15, .int v15), (16, .int v16), (17, .int v17), (18, .int v18)] [] M (f_Law_areFree_347 O f K326 n v0 v4 v5 v6 v7 v8 v9 v10 v11 v12 v13 v14 v15 v16 v17 v18 M) := by
  intro n
  induction n with
  | zero =>
    intro v0 v4 v5 v6 v7 v8 v9 v10 v11 v12 v13 v14 v15 v16 v17 v18 M
    exact xZ.no
  | succ n ih =>
    intro v0 v4 v5 v6 v7 v8 v9 v10 v11 v12 v13 v14 v15 v16 v17 v18 M
    unfold f_Law_areFree_347
    refine xZ.adv (me := xm145) hP_145 2 (pc' := 351) (lv' := [(0, .ref v0), (4, .ref v4), (5, .int v5), (6, .int v6), (7, .ref v7), (8, .int v8), (9, .int v9), (10, .int v10), (11, .ref v11), (12, .ref v12), (13, .int v13), (14, .int v14), (15, .int v15), (16, .int v16), (17, .int v17), (18, .int v18)]) (st' := [.int v6, .int v18]) rfl ?_
    refine xZ.ic_ge (me := xm145) hP_145 rfl (fun h1 => ?_) (fun h1 => ?_)
    · skip
      refine xZ.adv (me := xm145) hP_145 7 (pc' := 627) (lv' := [(0, .ref v0), (4, .ref v4), (5, .int v5), (6, .int v6), (7, .ref v7), (8, .int v8), (9, .int v9), (10, .int v10), (11, .ref v11), (12, .ref v12), (13, .int v13), (14, .int v14), (15, .int v15), (16, .int v16), (17, .int v17), (18, .int v18)]) (st' := [.int (0 : Int32), .int (v5 + v6), .int v5, .int v13, .ref v0]) rfl ?_
      refine xZ.callv (κ := oI) (av := [.int v13, .int v5, .int (v5 + v6), .int (0 : Int32)]) (rest := []) (st' := fun x1 => [.int x1]) (k0 := v0) (me := xm145) hP_145 rfl (Or.inl rfl) ⟨rfl, by decide⟩ rfl rfl (Nat.le_of_ble_eq_true rfl) (by decide) hP_161 (Nat.le_of_ble_eq_true rfl) (fun _ => rfl) (k_f_Calendarhall_minutesOf O f (d + 1) v0 v13 v5 (v5 + v6) (0 : Int32) M) (fun x1 M1 => ?_)
      refine xZ.adv (me := xm145) hP_145 1 (pc' := 632) (lv' := [(0, .ref v0), (4, .ref v4), (5, .int v5), (6, .int v6), (7, .ref v7), (8, .int v8), (9, .int v9), (10, .int v10), (11, .ref v11), (12, .ref v12), (13, .int v13), (14, .int v14), (15, .int v15), (16, .int v16), (17, .int v17), (18, .int v18)]) (st' := [.int v14, .int x1]) rfl ?_
      refine xZ.ic_ne (me := xm145) hP_145 rfl (fun h2 => ?_) (fun h2 => ?_)
      · skip
        refine xZ.adv (me := xm145) hP_145 7 (pc' := 646) (lv' := [(0, .ref v0), (4, .ref v4), (5, .int v5), (6, .int v6), (7, .ref v7), (8, .int v8), (9, .int v9), (10, .int v10), (11, .ref v11), (12, .ref v12), (13, .int v13), (14, .int v14), (15, .int v15), (16, .int v16), (17, .int v17), (18, .int v18)]) (st' := [.int (1 : Int32), .int (v5 + v6), .int v5, .int v13, .ref v0]) rfl ?_
        refine xZ.callv (κ := oI) (av := [.int v13, .int v5, .int (v5 + v6), .int (1 : Int32)]) (rest := []) (st' := fun x2 => [.int x2]) (k0 := v0) (me := xm145) hP_145 rfl (Or.inl rfl) ⟨rfl, by decide⟩ rfl rfl (Nat.le_of_ble_eq_true rfl) (by decide) hP_161 (Nat.le_of_ble_eq_true rfl) (fun _ => rfl) (k_f_Calendarhall_minutesOf O f (d + 1) v0 v13 v5 (v5 + v6) (1 : Int32) M1) (fun x2 M2 => ?_)
        refine xZ.adv (me := xm145) hP_145 1 (pc' := 651) (lv' := [(0, .ref v0), (4, .ref v4), (5, .int v5), (6, .int v6), (7, .ref v7), (8, .int v8), (9, .int v9), (10, .int v10), (11, .ref v11), (12, .ref v12), (13, .int v13), (14, .int v14), (15, .int v15), (16, .int v16), (17, .int v17), (18, .int v18)]) (st' := [.int v16, .int x2]) rfl ?_
        refine xZ.ic_ne (me := xm145) hP_145 rfl (fun h3 => ?_) (fun h3 => ?_)
        · skip
          refine xZ.adv (me := xm145) hP_145 7 (pc' := 665) (lv' := [(0, .ref v0), (4, .ref v4), (5, .int v5), (6, .int v6), (7, .ref v7), (8, .int v8), (9, .int v9), (10, .int v10), (11, .ref v11), (12, .ref v12), (13, .int v13), (14, .int v14), (15, .int v15), (16, .int v16), (17, .int v17), (18, .int v18)]) (st' := [.int (2 : Int32), .int (v5 + v6), .int v5, .int v13, .ref v0]) rfl ?_
          refine xZ.callv (κ := oI) (av := [.int v13, .int v5, .int (v5 + v6), .int (2 : Int32)]) (rest := []) (st' := fun x3 => [.int x3]) (k0 := v0) (me := xm145) hP_145 rfl (Or.inl rfl) ⟨rfl, by decide⟩ rfl rfl (Nat.le_of_ble_eq_true rfl) (by decide) hP_161 (Nat.le_of_ble_eq_true rfl) (fun _ => rfl) (k_f_Calendarhall_minutesOf O f (d + 1) v0 v13 v5 (v5 + v6) (2 : Int32) M2) (fun x3 M3 => ?_)
          refine xZ.adv (me := xm145) hP_145 1 (pc' := 670) (lv' := [(0, .ref v0), (4, .ref v4), (5, .int v5), (6, .int v6), (7, .ref v7), (8, .int v8), (9, .int v9), (10, .int v10), (11, .ref v11), (12, .ref v12), (13, .int v13), (14, .int v14), (15, .int v15), (16, .int v16), (17, .int v17), (18, .int v18)]) (st' := [.int v15, .int x3]) rfl ?_
          refine xZ.ic_eq (me := xm145) hP_145 rfl (fun h4 => ?_) (fun h4 => ?_)
          · skip
            refine xZ.adv (me := xm145) hP_145 6 (pc' := 685) (lv' := [(0, .ref v0), (4, .ref v4), (5, .int v5), (6, .int v6), (7, .ref v7), (8, .int v8), (9, .int v9), (10, .int v10), (11, .ref v11), (12, .ref v12), (13, .int v13), (14, .int v14), (15, .int v15), (16, .int v16), (17, .int v17), (18, .int v18)]) (st' := [.int (v5 + v6), .int v5, .int v13, .ref v0]) rfl ?_
            refine xZ.callv (κ := oD) (av := [.int v13, .int v5, .int (v5 + v6)]) (rest := []) (st' := fun x4 => [.double x4]) (k0 := v0) (me := xm145) hP_145 rfl (Or.inl rfl) ⟨rfl, by decide⟩ rfl rfl (Nat.le_of_ble_eq_true rfl) (by decide) hP_180 (Nat.le_of_ble_eq_true rfl) (fun _ => rfl) (k_f_Calendarhall_busyShare O f (d + 1) v0 v13 v5 (v5 + v6) M3) (fun x4 M4 => ?_)
            refine xZ.adv (me := xm145) hP_145 1 (pc' := 690) (lv' := [(0, .ref v0), (4, .ref v4), (5, .int v5), (6, .int v6), (7, .ref v7), (8, .int v8), (9, .int v9), (10, .int v10), (11, .ref v11), (12, .ref v12), (13, .int v13), (14, .int v14), (15, .int v15), (16, .int v16), (17, .int v17), (18, .int v18)]) (st' := [.int v16, .double x4]) rfl ?_
            refine xZ.if_ne (me := xm145) hP_145 rfl (fun h5 => ?_) (fun h5 => ?_)
            · skip
              refine xZ.adv (me := xm145) hP_145 2 (pc' := 704) (lv' := [(0, .ref v0), (4, .ref v4), (5, .int v5), (6, .int v6), (7, .ref v7), (8, .int v8), (9, .int v9), (10, .int v10), (11, .ref v11), (12, .ref v12), (13, .int v13), (14, .int v14), (15, .int v15), (16, .int v16), (17, .int v17), (18, .int v18)]) (st' := [.double FP.dconst0, .double x4]) rfl ?_
              exact xZ.sub (xsc (.head _) (xsc (.tail _ (.head _)) (xsc (.tail _ (.tail _ (.head _))) (xsc (.tail _ (.tail _ (.tail _ (.head _)))) (xsc (.tail _ (.tail _ (.tail _ (.tail _ (.head _))))) (xsc (.tail _ (.tail _ (.tail _ (.tail _ (.tail _ (.head _)))))) (xsc (.tail _ (.tail _ (.tail _ (.tail _ (.tail _ (.tail _ (.head _))))))) (xsc (.tail _ (.tail _ (.tail _ (.tail _ (.tail _ (.tail _ (.tail _ (.head _)))))))) (xsc (.tail _ (.tail _ (.tail _ (.tail _ (.tail _ (.tail _ (.tail _ (.tail _ (.head _))))))))) (xsc (.tail _ (.tail _ (.tail _ (.tail _ (.tail _ (.tail _ (.tail _ (.tail _ (.tail _ (.head _)))))))))) (xsc (.tail _ (.tail _ (.tail _ (.tail _ (.tail _ (.tail _ (.tail _ (.tail _ (.tail _ (.tail _ (.head _))))))))))) xsn))))))))))) (show ([0, 4, 5, 6, 7, 8, 9, 10, 11, 12, 13, 14, 15, 16, 17, 18] : List Nat).Nodup from by decide) (k_f_Law_areFree_704 O f d K326 hK326 v0 v4 v5 v6 v7 v8 v9 v10 v11 v12 v13 x4 FP.dconst0 M4)
            · skip
              refine xZ.adv (me := xm145) hP_145 4 (pc' := 703) (lv' := [(0, .ref v0), (4, .ref v4), (5, .int v5), (6, .int v6), (7, .ref v7), (8, .int v8), (9, .int v9), (10, .int v10), (11, .ref v11), (12, .ref v12), (13, .int v13), (14, .int v14), (15, .int v15), (16, .int v16), (17, .int v17), (18, .int v18)]) (st' := [.double (FP.i2d v16), .double (FP.i2d v15), .double x4]) rfl ?_
              refine xZ.ddiv (me := xm145) hP_145 rfl (fun x5 => ?_)
              exact xZ.sub (xsc (.head _) (xsc (.tail _ (.head _)) (xsc (.tail _ (.tail _ (.head _))) (xsc (.tail _ (.tail _ (.tail _ (.head _)))) (xsc (.tail _ (.tail _ (.tail _ (.tail _ (.head _))))) (xsc (.tail _ (.tail _ (.tail _ (.tail _ (.tail _ (.head _)))))) (xsc (.tail _ (.tail _ (.tail _ (.tail _ (.tail _ (.tail _ (.head _))))))) (xsc (.tail _ (.tail _ (.tail _ (.tail _ (.tail _ (.tail _ (.tail _ (.head _)))))))) (xsc (.tail _ (.tail _ (.tail _ (.tail _ (.tail _ (.tail _ (.tail _ (.tail _ (.head _))))))))) (xsc (.tail _ (.tail _ (.tail _ (.tail _ (.tail _ (.tail _ (.tail _ (.tail _ (.tail _ (.head _)))))))))) (xsc (.tail _ (.tail _ (.tail _ (.tail _ (.tail _ (.tail _ (.tail _ (.tail _ (.tail _ (.tail _ (.head _))))))))))) xsn))))))))))) (show ([0, 4, 5, 6, 7, 8, 9, 10, 11, 12, 13, 14, 15, 16, 17, 18] : List Nat).Nodup from by decide) (k_f_Law_areFree_704 O f d K326 hK326 v0 v4 v5 v6 v7 v8 v9 v10 v11 v12 v13 x4 x5 M4)
          · skip
            refine xZ.adv (me := xm145) hP_145 1 (pc' := 674) (lv' := [(0, .ref v0), (4, .ref v4), (5, .int v5), (6, .int v6), (7, .ref v7), (8, .int v8), (9, .int v9), (10, .int v10), (11, .ref v11), (12, .ref v12), (13, .int v13), (14, .int v14), (15, .int v15), (16, .int v16), (17, .int v17), (18, .int v18)]) (st' := [.int (0 : Int32)]) rfl ?_
            exact xZ.rete (me := xm145) hP_145 rfl rfl rfl
        · skip
          refine xZ.adv (me := xm145) hP_145 1 (pc' := 674) (lv' := [(0, .ref v0), (4, .ref v4), (5, .int v5), (6, .int v6), (7, .ref v7), (8, .int v8), (9, .int v9), (10, .int v10), (11, .ref v11), (12, .ref v12), (13, .int v13), (14, .int v14), (15, .int v15), (16, .int v16), (17, .int v17), (18, .int v18)]) (st' := [.int (0 : Int32)]) rfl ?_
          exact xZ.rete (me := xm145) hP_145 rfl rfl rfl
      · skip
        refine xZ.adv (me := xm145) hP_145 1 (pc' := 674) (lv' := [(0, .ref v0), (4, .ref v4), (5, .int v5), (6, .int v6), (7, .ref v7), (8, .int v8), (9, .int v9), (10, .int v10), (11, .ref v11), (12, .ref v12), (13, .int v13), (14, .int v14), (15, .int v15), (16, .int v16), (17, .int v17), (18, .int v18)]) (st' := [.int (0 : Int32)]) rfl ?_
        exact xZ.rete (me := xm145) hP_145 rfl rfl rfl
    · skip
      refine xZ.adv (me := xm145) hP_145 4 (pc' := 360) (lv' := [(20, .int (0 : Int32)), (19, .int (0 : Int32)), (0, .ref v0), (4, .ref v4), (5, .int v5), (6, .int v6), (7, .ref v7), (8, .int v8), (9, .int v9), (10, .int v10), (11, .ref v11), (12, .ref v12), (13, .int v13), (14, .int v14), (15, .int v15), (16, .int v16), (17, .int v17), (18, .int v18)]) (st' := []) rfl ?_
      exact xZ.sub (xsc (.tail _ (.tail _ (.head _))) (xsc (.tail _ (.tail _ (.tail _ (.head _)))) (xsc (.tail _ (.tail _ (.tail _ (.tail _ (.head _))))) (xsc (.tail _ (.tail _ (.tail _ (.tail _ (.tail _ (.head _)))))) (xsc (.tail _ (.tail _ (.tail _ (.tail _ (.tail _ (.tail _ (.head _))))))) (xsc (.tail _ (.tail _ (.tail _ (.tail _ (.tail _ (.tail _ (.tail _ (.head _)))))))) (xsc (.tail _ (.tail _ (.tail _ (.tail _ (.tail _ (.tail _ (.tail _ (.tail _ (.head _))))))))) (xsc (.tail _ (.tail _ (.tail _ (.tail _ (.tail _ (.tail _ (.tail _ (.tail _ (.tail _ (.head _)))))))))) (xsc (.tail _ (.tail _ (.tail _ (.tail _ (.tail _ (.tail _ (.tail _ (.tail _ (.tail _ (.tail _ (.head _))))))))))) (xsc (.tail _ (.tail _ (.tail _ (.tail _ (.tail _ (.tail _ (.tail _ (.tail _ (.tail _ (.tail _ (.tail _ (.head _)))))))))))) (xsc (.tail _ (.tail _ (.tail _ (.tail _ (.tail _ (.tail _ (.tail _ (.tail _ (.tail _ (.tail _ (.tail _ (.tail _ (.head _))))))))))))) (xsc (.tail _ (.tail _ (.tail _ (.tail _ (.tail _ (.tail _ (.tail _ (.tail _ (.tail _ (.tail _ (.tail _ (.tail _ (.tail _ (.head _)))))))))))))) (xsc (.tail _ (.tail _ (.tail _ (.tail _ (.tail _ (.tail _ (.tail _ (.tail _ (.tail _ (.tail _ (.tail _ (.tail _ (.tail _ (.tail _ (.head _))))))))))))))) (xsc (.tail _ (.tail _ (.tail _ (.tail _ (.tail _ (.tail _ (.tail _ (.tail _ (.tail _ (.tail _ (.tail _ (.tail _ (.tail _ (.tail _ (.tail _ (.head _)))))))))))))))) (xsc (.tail _ (.tail _ (.tail _ (.tail _ (.tail _ (.tail _ (.tail _ (.tail _ (.tail _ (.tail _ (.tail _ (.tail _ (.tail _ (.tail _ (.tail _ (.tail _ (.head _))))))))))))))))) (xsc (.tail _ (.tail _ (.tail _ (.tail _ (.tail _ (.tail _ (.tail _ (.tail _ (.tail _ (.tail _ (.tail _ (.tail _ (.tail _ (.tail _ (.tail _ (.tail _ (.tail _ (.head _)))))))))))))))))) (xsc (.tail _ (.head _)) (xsc (.head _) xsn)))))))))))))))))) (show ([20, 19, 0, 4, 5, 6, 7, 8, 9, 10, 11, 12, 13, 14, 15, 16, 17, 18] : List Nat).Nodup from by decide) (k_f_Law_areFree_360 O f d (f_Law_areFree_347 O f K326 n) ih f v0 v4 v5 v6 v7 v8 v9 v10 v11 v12 v13 v14 v15 v16 v17 v18 (0 : Int32) (0 : Int32) M)
def f_Law_areFree_754 (O : Nat → Option va_E) (f : Nat) (K725 : Nat → Int32 → Int32 → Int32 → Int32 → Int32 → Nat → Nat → Int32 → Int32 → Int32 → xM → Option (Int32 × xM)) (v0 : Nat) (v5 : Int32) (v6 : Int32) (v8 : Int32) (v9 : Int32) (v10 : Int32) (v11 : Nat) (v12 : Nat) (v14 : Int32) (v15 : Int32) (s0 : Int32) (M : xM) : Option (Int32 × xM) :=
  if s0 = v9 then (
    xlet (((v5 + v15) - v9) + (1 : Int32)) fun x1 =>
    K725 v0 v5 v6 v8 v9 v10 v11 v12 s0 x1 (v15 + (1 : Int32)) M
  ) else
  K725 v0 v5 v6 v8 v9 v10 v11 v12 s0 v14 (v15 + (1 : Int32)) M
set_option maxRecDepth 20000 in
theorem k_f_Law_areFree_754 (O : Nat → Option va_E) (f d : Nat) (K725 : Nat → Int32 → Int32 → Int32 → Int32 → Int32 → Nat → Nat → Int32 → Int32 → Int32 → xM → Option (Int32 × xM)) (hK725 : ∀ (v0 : Nat) (v5 : Int32) (v6 : Int32) (v8 : Int32) (v9 : Int32) (v10 : Int32) (v11 : Nat) (v12 : Nat) (v13 : Int32) (v14 : Int32) (v15 : Int32) M, xZ oI O (d + 9) 145 725 [(0, .ref v0), (5, .int v5), (6, .int v6), (8, .int v8), (9, .int v9), (10, .int v10), (11, .ref v11), (12, .ref v12), (13, .int v13), (14, .int v14), (15, .int v15)] [] M (K725 v0 v5 v6 v8 v9 v10 v11 v12 v13 v14 v15 M)) (v0 : Nat) (v5 : Int32) (v6 : Int32) (v8 : Int32) (v9 : Int32) (v10 : Int32) (v11 : Nat) (v12 : Nat) (v14 : Int32) (v15 : Int32) (s0 : Int32) (M : xM) : xZ oI O (d + 9) 145 754 [(0, .ref v0), (5, .int v5), (6, .int v6), (8, .int v8), (9, .int v9), (10, .int v10), (11, .ref v11), (12, .ref v12), (14, .int v14), (15, .int v15)] [.int s0] M (f_Law_areFree_754 O f K725 v0 v5 v6 v8 v9 v10 v11 v12 v14 v15 s0 M) := by
  unfold f_Law_areFree_754
  refine xZ.adv (me := xm145) hP_145 3 (pc' := 760) (lv' := [(13, .int s0), (0, .ref v0), (5, .int v5), (6, .int v6), (8, .int v8), (9, .int v9), (10, .int v10), (11, .ref v11), (12, .ref v12), (14, .int v14), (15, .int v15)]) (st' := [.int v9, .int s0]) rfl ?_
  refine xZ.ic_ne (me := xm145) hP_145 rfl (fun h1 => ?_) (fun h1 => ?_)
  · skip
    refine xZ.adv (me := xm145) hP_145 8 (pc' := 775) (lv' := [(14, .int (((v5 + v15) - v9) + (1 : Int32))), (13, .int s0), (0, .ref v0), (5, .int v5), (6, .int v6), (8, .int v8), (9, .int v9), (10, .int v10), (11, .ref v11), (12, .ref v12), (15, .int v15)]) (st' := []) rfl ?_
    refine xZ.letI (v := (((v5 + v15) - v9) + (1 : Int32))) (lvf := fun x1 => [(14, .int x1), (13, .int s0), (0, .ref v0), (5, .int v5), (6, .int v6), (8, .int v8), (9, .int v9), (10, .int v10), (11, .ref v11), (12, .ref v12), (15, .int v15)]) (stf := fun x1 => []) ?_
    intro x1
    refine xZ.adv (me := xm145) hP_145 2 (pc' := 725) (lv' := [(15, .int (v15 + (1 : Int32))), (14, .int x1), (13, .int s0), (0, .ref v0), (5, .int v5), (6, .int v6), (8, .int v8), (9, .int v9), (10, .int v10), (11, .ref v11), (12, .ref v12)]) (st' := []) rfl ?_
    exact xZ.sub (xsc (.tail _ (.tail _ (.tail _ (.head _)))) (xsc (.tail _ (.tail _ (.tail _ (.tail _ (.head _))))) (xsc (.tail _ (.tail _ (.tail _ (.tail _ (.tail _ (.head _)))))) (xsc (.tail _ (.tail _ (.tail _ (.tail _ (.tail _ (.tail _ (.head _))))))) (xsc (.tail _ (.tail _ (.tail _ (.tail _ (.tail _ (.tail _ (.tail _ (.head _)))))))) (xsc (.tail _ (.tail _ (.tail _ (.tail _ (.tail _ (.tail _ (.tail _ (.tail _ (.head _))))))))) (xsc (.tail _ (.tail _ (.tail _ (.tail _ (.tail _ (.tail _ (.tail _ (.tail _ (.tail _ (.head _)))))))))) (xsc (.tail _ (.tail _ (.tail _ (.tail _ (.tail _ (.tail _ (.tail _ (.tail _ (.tail _ (.tail _ (.head _))))))))))) (xsc (.tail _ (.tail _ (.head _))) (xsc (.tail _ (.head _)) (xsc (.head _) xsn))))))))))) (show ([15, 14, 13, 0, 5, 6, 8, 9, 10, 11, 12] : List Nat).Nodup from by decide) (hK725 v0 v5 v6 v8 v9 v10 v11 v12 s0 x1 (v15 + (1 : Int32)) M)
  · skip
    refine xZ.adv (me := xm145) hP_145 2 (pc' := 725) (lv' := [(15, .int (v15 + (1 : Int32))), (13, .int s0), (0, .ref v0), (5, .int v5), (6, .int v6), (8, .int v8), (9, .int v9), (10, .int v10), (11, .ref v11), (12, .ref v12), (14, .int v14)]) (st' := []) rfl ?_
    exact xZ.sub (xsc (.tail _ (.tail _ (.head _))) (xsc (.tail _ (.tail _ (.tail _ (.head _)))) (xsc (.tail _ (.tail _ (.tail _ (.tail _ (.head _))))) (xsc (.tail _ (.tail _ (.tail _ (.tail _ (.tail _ (.head _)))))) (xsc (.tail _ (.tail _ (.tail _ (.tail _ (.tail _ (.tail _ (.head _))))))) (xsc (.tail _ (.tail _ (.tail _ (.tail _ (.tail _ (.tail _ (.tail _ (.head _)))))))) (xsc (.tail _ (.tail _ (.tail _ (.tail _ (.tail _ (.tail _ (.tail _ (.tail _ (.head _))))))))) (xsc (.tail _ (.tail _ (.tail _ (.tail _ (.tail _ (.tail _ (.tail _ (.tail _ (.tail _ (.head _)))))))))) (xsc (.tail _ (.head _)) (xsc (.tail _ (.tail _ (.tail _ (.tail _ (.tail _ (.tail _ (.tail _ (.tail _ (.tail _ (.tail _ (.head _))))))))))) (xsc (.head _) xsn))))))))))) (show ([15, 13, 0, 5, 6, 8, 9, 10, 11, 12, 14] : List Nat).Nodup from by decide) (hK725 v0 v5 v6 v8 v9 v10 v11 v12 s0 v14 (v15 + (1 : Int32)) M)
def f_Law_areFree_899 (O : Nat → Option va_E) (f : Nat) (K830 : Nat → Int32 → Int32 → Int32 → Int32 → Nat → Int32 → Int32 → Int32 → Int32 → Int32 → xM → Option (Int32 × xM)) (v0 : Nat) (v5 : Int32) (v6 : Int32) (v8 : Int32) (v9 : Int32) (v12 : Nat) (v15 : Int32) (v16 : Int32) (v17 : Int32) (v19 : Int32) (s0 : Int32) (s1 : Int32) (M : xM) : Option (Int32 × xM) :=
  K830 v0 v5 v6 v8 v9 v12 v15 v16 v17 (s0 + s1) (v19 + (1 : Int32)) M
set_option maxRecDepth 20000 in
theorem k_f_Law_areFree_899 (O : Nat → Option va_E) (f d : Nat) (K830 : Nat → Int32 → Int32 → Int32 → Int32 → Nat → Int32 → Int32 → Int32 → Int32 → Int32 → xM → Option (Int32 × xM)) (hK830 : ∀ (v0 : Nat) (v5 : Int32) (v6 : Int32) (v8 : Int32) (v9 : Int32) (v12 : Nat) (v15 : Int32) (v16 : Int32) (v17 : Int32) (v18 : Int32) (v19 : Int32) M, xZ oI O (d + 9) 145 830 [(0, .ref v0), (5, .int v5), (6, .int v6), (8, .int v8), (9, .int v9), (12, .ref v12), (15, .int v15), (16, .int v16), (17, .int v17), (18, .int v18), (19, .int v19)] [] M (K830 v0 v5 v6 v8 v9 v12 v15 v16 v17 v18 v19 M)) (v0 : Nat) (v5 : Int32) (v6 : Int32) (v8 : Int32) (v9 : Int32) (v12 : Nat) (v15 : Int32) (v16 : Int32) (v17 : Int32) (v19 : Int32) (s0 : Int32) (s1 : Int32) (M : xM) : xZ oI O (d + 9) 145 899 [(0, .ref v0), (5, .int v5), (6, .int v6), (8, .int v8), (9, .int v9), (12, .ref v12), (15, .int v15), (16, .int v16), (17, .int v17), (19, .int v19)] [.int s1, .int s0] M (f_Law_areFree_899 O f K830 v0 v5 v6 v8 v9 v12 v15 v16 v17 v19 s0 s1 M) := by
  unfold f_Law_areFree_899
  refine xZ.adv (me := xm145) hP_145 4 (pc' := 830) (lv' := [(19, .int (v19 + (1 : Int32))), (18, .int (s0 + s1)), (0, .ref v0), (5, .int v5), (6, .int v6), (8, .int v8), (9, .int v9), (12, .ref v12), (15, .int v15), (16, .int v16), (17, .int v17)]) (st' := []) rfl ?_
  exact xZ.sub (xsc (.tail _ (.tail _ (.head _))) (xsc (.tail _ (.tail _ (.tail _ (.head _)))) (xsc (.tail _ (.tail _ (.tail _ (.tail _ (.head _))))) (xsc (.tail _ (.tail _ (.tail _ (.tail _ (.tail _ (.head _)))))) (xsc (.tail _ (.tail _ (.tail _ (.tail _ (.tail _ (.tail _ (.head _))))))) (xsc (.tail _ (.tail _ (.tail _ (.tail _ (.tail _ (.tail _ (.tail _ (.head _)))))))) (xsc (.tail _ (.tail _ (.tail _ (.tail _ (.tail _ (.tail _ (.tail _ (.tail _ (.head _))))))))) (xsc (.tail _ (.tail _ (.tail _ (.tail _ (.tail _ (.tail _ (.tail _ (.tail _ (.tail _ (.head _)))))))))) (xsc (.tail _ (.tail _ (.tail _ (.tail _ (.tail _ (.tail _ (.tail _ (.tail _ (.tail _ (.tail _ (.head _))))))))))) (xsc (.tail _ (.head _)) (xsc (.head _) xsn))))))))))) (show ([19, 18, 0, 5, 6, 8, 9, 12, 15, 16, 17] : List Nat).Nodup from by decide) (hK830 v0 v5 v6 v8 v9 v12 v15 v16 v17 (s0 + s1) (v19 + (1 : Int32)) M)
def f_Law_areFree_880 (O : Nat → Option va_E) (f : Nat) (K830 : Nat → Int32 → Int32 → Int32 → Int32 → Nat → Int32 → Int32 → Int32 → Int32 → Int32 → xM → Option (Int32 × xM)) (v0 : Nat) (v5 : Int32) (v6 : Int32) (v8 : Int32) (v9 : Int32) (v12 : Nat) (v15 : Int32) (v16 : Int32) (v17 : Int32) (v18 : Int32) (v19 : Int32) (v20 : Int32) (M : xM) : Option (Int32 × xM) :=
  if ((v8 >>> (v19 &&& 31)) &&& (1 : Int32)) = (1 : Int32) then (
    f_Law_areFree_899 O f K830 v0 v5 v6 v8 v9 v12 v15 v16 v17 v19 v18 v20 M
  ) else
  f_Law_areFree_899 O f K830 v0 v5 v6 v8 v9 v12 v15 v16 v17 v19 v18 (0 : Int32) M
set_option maxRecDepth 20000 in
theorem k_f_Law_areFree_880 (O : Nat → Option va_E) (f d : Nat) (K830 : Nat → Int32 → Int32 → Int32 → Int32 → Nat → Int32 → Int32 → Int32 → Int32 → Int32 → xM → Option (Int32 × xM)) (hK830 : ∀ (v0 : Nat) (v5 : Int32) (v6 : Int32) (v8 : Int32) (v9 : Int32) (v12 : Nat) (v15 : Int32) (v16 : Int32) (v17 : Int32) (v18 : Int32) (v19 : Int32) M, xZ oI O (d + 9) 145 830 [(0, .ref v0), (5, .int v5), (6, .int v6), (8, .int v8), (9, .int v9), (12, .ref v12), (15, .int v15), (16, .int v16), (17, .int v17), (18, .int v18), (19, .int v19)] [] M (K830 v0 v5 v6 v8 v9 v12 v15 v16 v17 v18 v19 M)) (v0 : Nat) (v5 : Int32) (v6 : Int32) (v8 : Int32) (v9 : Int32) (v12 : Nat) (v15 : Int32) (v16 : Int32) (v17 : Int32) (v18 : Int32) (v19 : Int32) (v20 : Int32) (M : xM) : xZ oI O (d + 9) 145 880 [(0, .ref v0), (5, .int v5), (6, .int v6), (8, .int v8), (9, .int v9), (12, .ref v12), (15, .int v15), (16, .int v16), (17, .int v17), (18, .int v18), (19, .int v19), (20, .int v20)] [] M (f_Law_areFree_880 O f K830 v0 v5 v6 v8 v9 v12 v15 v16 v17 v18 v19 v20 M) := by
  unfold f_Law_areFree_880
  refine xZ.adv (me := xm145) hP_145 7 (pc' := 890) (lv' := [(0, .ref v0), (5, .int v5), (6, .int v6), (8, .int v8), (9, .int v9), (12, .ref v12), (15, .int v15), (16, .int v16), (17, .int v17), (18, .int v18), (19, .int v19), (20, .int v20)]) (st' := [.int (1 : Int32), .int ((v8 >>> (v19 &&& 31)) &&& (1 : Int32)), .int v18]) rfl ?_
  refine xZ.ic_ne (me := xm145) hP_145 rfl (fun h1 => ?_) (fun h1 => ?_)
  · skip
    refine xZ.adv (me := xm145) hP_145 2 (pc' := 899) (lv' := [(0, .ref v0), (5, .int v5), (6, .int v6), (8, .int v8), (9, .int v9), (12, .ref v12), (15, .int v15), (16, .int v16), (17, .int v17), (18, .int v18), (19, .int v19), (20, .int v20)]) (st' := [.int v20, .int v18]) rfl ?_
    exact xZ.sub (xsc (.head _) (xsc (.tail _ (.head _)) (xsc (.tail _ (.tail _ (.head _))) (xsc (.tail _ (.tail _ (.tail _ (.head _)))) (xsc (.tail _ (.tail _ (.tail _ (.tail _ (.head _))))) (xsc (.tail _ (.tail _ (.tail _ (.tail _ (.tail _ (.head _)))))) (xsc (.tail _ (.tail _ (.tail _ (.tail _ (.tail _ (.tail _ (.head _))))))) (xsc (.tail _ (.tail _ (.tail _ (.tail _ (.tail _ (.tail _ (.tail _ (.head _)))))))) (xsc (.tail _ (.tail _ (.tail _ (.tail _ (.tail _ (.tail _ (.tail _ (.tail _ (.head _))))))))) (xsc (.tail _ (.tail _ (.tail _ (.tail _ (.tail _ (.tail _ (.tail _ (.tail _ (.tail _ (.tail _ (.head _))))))))))) xsn)))))))))) (show ([0, 5, 6, 8, 9, 12, 15, 16, 17, 18, 19, 20] : List Nat).Nodup from by decide) (k_f_Law_areFree_899 O f d K830 hK830 v0 v5 v6 v8 v9 v12 v15 v16 v17 v19 v18 v20 M)
  · skip
    refine xZ.adv (me := xm145) hP_145 1 (pc' := 899) (lv' := [(0, .ref v0), (5, .int v5), (6, .int v6), (8, .int v8), (9, .int v9), (12, .ref v12), (15, .int v15), (16, .int v16), (17, .int v17), (18, .int v18), (19, .int v19), (20, .int v20)]) (st' := [.int (0 : Int32), .int v18]) rfl ?_
    exact xZ.sub (xsc (.head _) (xsc (.tail _ (.head _)) (xsc (.tail _ (.tail _ (.head _))) (xsc (.tail _ (.tail _ (.tail _ (.head _)))) (xsc (.tail _ (.tail _ (.tail _ (.tail _ (.head _))))) (xsc (.tail _ (.tail _ (.tail _ (.tail _ (.tail _ (.head _)))))) (xsc (.tail _ (.tail _ (.tail _ (.tail _ (.tail _ (.tail _ (.head _))))))) (xsc (.tail _ (.tail _ (.tail _ (.tail _ (.tail _ (.tail _ (.tail _ (.head _)))))))) (xsc (.tail _ (.tail _ (.tail _ (.tail _ (.tail _ (.tail _ (.tail _ (.tail _ (.head _))))))))) (xsc (.tail _ (.tail _ (.tail _ (.tail _ (.tail _ (.tail _ (.tail _ (.tail _ (.tail _ (.tail _ (.head _))))))))))) xsn)))))))))) (show ([0, 5, 6, 8, 9, 12, 15, 16, 17, 18, 19, 20] : List Nat).Nodup from by decide) (k_f_Law_areFree_899 O f d K830 hK830 v0 v5 v6 v8 v9 v12 v15 v16 v17 v19 v18 (0 : Int32) M)
def f_Law_areFree_843 (O : Nat → Option va_E) (f : Nat) (K830 : Nat → Int32 → Int32 → Int32 → Int32 → Nat → Int32 → Int32 → Int32 → Int32 → Int32 → xM → Option (Int32 × xM)) : Nat → Nat → Int32 → Int32 → Int32 → Int32 → Nat → Int32 → Int32 → Int32 → Int32 → Int32 → Int32 → Int32 → xM → Option (Int32 × xM)
  | 0, _, _, _, _, _, _, _, _, _, _, _, _, _, _ => none
  | n + 1, v0, v5, v6, v8, v9, v12, v15, v16, v17, v18, v19, v20, v21, M =>
    if (v17 + v9) ≤ v21 then (
      f_Law_areFree_880 O f K830 v0 v5 v6 v8 v9 v12 v15 v16 v17 v18 v19 v20 M
    ) else
    if (3 : Int32) ≤ v20 then (
      f_Law_areFree_880 O f K830 v0 v5 v6 v8 v9 v12 v15 v16 v17 v18 v19 v20 M
    ) else
    (aR O M v12 v19).bind fun x1 =>
    (aI O M x1 v21).bind fun x2 =>
    xcl (f_Math_max O f v20 x2 M) fun x3 M1 =>
    f_Law_areFree_843 O f K830 n v0 v5 v6 v8 v9 v12 v15 v16 v17 v18 v19 x3 (v21 + (1 : Int32)) M1
set_option maxRecDepth 20000 in
theorem k_f_Law_areFree_843 (O : Nat → Option va_E) (f d : Nat) (K830 : Nat → Int32 → Int32 → Int32 → Int32 → Nat → Int32 → Int32 → Int32 → Int32 → Int32 → xM → Option (Int32 × xM)) (hK830 : ∀ (v0 : Nat) (v5 : Int32) (v6 : Int32) (v8 : Int32) (v9 : Int32) (v12 : Nat) (v15 : Int32) (v16 : Int32) (v17 : Int32) (v18 : Int32) (v19 : Int32) M, xZ oI O (d + 9) 145 830 [(0, .ref v0), (5, .int v5), (6, .int v6), (8, .int v8), (9, .int v9), (12, .ref v12), (15, .int v15), (16, .int v16), (17, .int v17), (18, .int v18), (19, .int v19)] [] M (K830 v0 v5 v6 v8 v9 v12 v15 v16 v17 v18 v19 M)) : ∀ (n : Nat) (v0 : Nat) (v5 : Int32) (v6 : Int32) (v8 : Int32) (v9 : Int32) (v12 : Nat) (v15 : Int32) (v16 : Int32) (v17 : Int32) (v18 : Int32) (v19 : Int32) (v20 : Int32) (v21 : Int32) (M : xM), xZ oI O (d + 9) 145 843 [(0, .ref v0), (5, .int v5), (6, .int v6), (8, .int v8), (9, .int v9), (12, .ref v12), (15, .int v15), (16, .int v16), (17, .int v17), (18, .int v18), (19, .int v19), (20, .int v20), (21, .int v21)] [] M (f_Law_areFree_843 O f K830 n v0 v5 v6 v8 v9 v12 v15 v16 v17 v18 v19 v20 v21 M) := by
  intro n
  induction n with
  | zero =>
    intro v0 v5 v6 v8 v9 v12 v15 v16 v17 v18 v19 v20 v21 M
    exact xZ.no
  | succ n ih =>
    intro v0 v5 v6 v8 v9 v12 v15 v16 v17 v18 v19 v20 v21 M
    unfold f_Law_areFree_843
    refine xZ.adv (me := xm145) hP_145 4 (pc' := 850) (lv' := [(0, .ref v0), (5, .int v5), (6, .int v6), (8, .int v8), (9, .int v9), (12, .ref v12), (15, .int v15), (16, .int v16), (17, .int v17), (18, .int v18), (19, .int v19), (20, .int v20), (21, .int v21)]) (st' := [.int (v17 + v9), .int v21]) rfl ?_
    refine xZ.ic_ge (me := xm145) hP_145 rfl (fun h1 => ?_) (fun h1 => ?_)
    · skip
      exact xZ.sub (xsc (.head _) (xsc (.tail _ (.head _)) (xsc (.tail _ (.tail _ (.head _))) (xsc (.tail _ (.tail _ (.tail _ (.head _)))) (xsc (.tail _ (.tail _ (.tail _ (.tail _ (.head _))))) (xsc (.tail _ (.tail _ (.tail _ (.tail _ (.tail _ (.head _)))))) (xsc (.tail _ (.tail _ (.tail _ (.tail _ (.tail _ (.tail _ (.head _))))))) (xsc (.tail _ (.tail _ (.tail _ (.tail _ (.tail _ (.tail _ (.tail _ (.head _)))))))) (xsc (.tail _ (.tail _ (.tail _ (.tail _ (.tail _ (.tail _ (.tail _ (.tail _ (.head _))))))))) (xsc (.tail _ (.tail _ (.tail _ (.tail _ (.tail _ (.tail _ (.tail _ (.tail _ (.tail _ (.head _)))))))))) (xsc (.tail _ (.tail _ (.tail _ (.tail _ (.tail _ (.tail _ (.tail _ (.tail _ (.tail _ (.tail _ (.head _))))))))))) (xsc (.tail _ (.tail _ (.tail _ (.tail _ (.tail _ (.tail _ (.tail _ (.tail _ (.tail _ (.tail _ (.tail _ (.head _)))))))))))) xsn)))))))))))) (show ([0, 5, 6, 8, 9, 12, 15, 16, 17, 18, 19, 20, 21] : List Nat).Nodup from by decide) (k_f_Law_areFree_880 O f d K830 hK830 v0 v5 v6 v8 v9 v12 v15 v16 v17 v18 v19 v20 M)
    · skip
      refine xZ.adv (me := xm145) hP_145 2 (pc' := 856) (lv' := [(0, .ref v0), (5, .int v5), (6, .int v6), (8, .int v8), (9, .int v9), (12, .ref v12), (15, .int v15), (16, .int v16), (17, .int v17), (18, .int v18), (19, .int v19), (20, .int v20), (21, .int v21)]) (st' := [.int (3 : Int32), .int v20]) rfl ?_
      refine xZ.ic_ge (me := xm145) hP_145 rfl (fun h2 => ?_) (fun h2 => ?_)
      · skip
        exact xZ.sub (xsc (.head _) (xsc (.tail _ (.head _)) (xsc (.tail _ (.tail _ (.head _))) (xsc (.tail _ (.tail _ (.tail _ (.head _)))) (xsc (.tail _ (.tail _ (.tail _ (.tail _ (.head _))))) (xsc (.tail _ (.tail _ (.tail _ (.tail _ (.tail _ (.head _)))))) (xsc (.tail _ (.tail _ (.tail _ (.tail _ (.tail _ (.tail _ (.head _))))))) (xsc (.tail _ (.tail _ (.tail _ (.tail _ (.tail _ (.tail _ (.tail _ (.head _)))))))) (xsc (.tail _ (.tail _ (.tail _ (.tail _ (.tail _ (.tail _ (.tail _ (.tail _ (.head _))))))))) (xsc (.tail _ (.tail _ (.tail _ (.tail _ (.tail _ (.tail _ (.tail _ (.tail _ (.tail _ (.head _)))))))))) (xsc (.tail _ (.tail _ (.tail _ (.tail _ (.tail _ (.tail _ (.tail _ (.tail _ (.tail _ (.tail _ (.head _))))))))))) (xsc (.tail _ (.tail _ (.tail _ (.tail _ (.tail _ (.tail _ (.tail _ (.tail _ (.tail _ (.tail _ (.tail _ (.head _)))))))))))) xsn)))))))))))) (show ([0, 5, 6, 8, 9, 12, 15, 16, 17, 18, 19, 20, 21] : List Nat).Nodup from by decide) (k_f_Law_areFree_880 O f d K830 hK830 v0 v5 v6 v8 v9 v12 v15 v16 v17 v18 v19 v20 M)
      · skip
        refine xZ.adv (me := xm145) hP_145 3 (pc' := 865) (lv' := [(0, .ref v0), (5, .int v5), (6, .int v6), (8, .int v8), (9, .int v9), (12, .ref v12), (15, .int v15), (16, .int v16), (17, .int v17), (18, .int v18), (19, .int v19), (20, .int v20), (21, .int v21)]) (st' := [.int v19, .ref v12, .int v20]) rfl ?_
        refine xZ.k_aR (me := xm145) hP_145 rfl (fun x1 => ?_)
        refine xZ.adv (me := xm145) hP_145 1 (pc' := 868) (lv' := [(0, .ref v0), (5, .int v5), (6, .int v6), (8, .int v8), (9, .int v9), (12, .ref v12), (15, .int v15), (16, .int v16), (17, .int v17), (18, .int v18), (19, .int v19), (20, .int v20), (21, .int v21)]) (st' := [.int v21, .ref x1, .int v20]) rfl ?_
        refine xZ.k_aI (me := xm145) hP_145 rfl (fun x2 => ?_)
        refine xZ.calls (κ := oI) (av := [.int v20, .int x2]) (rest := []) (st' := fun x3 => [.int x3]) (me := xm145) hP_145 rfl rfl rfl (Nat.le_of_ble_eq_true rfl) (by decide) hP_247 (Nat.le_of_ble_eq_true rfl) (fun _ => rfl) (k_f_Math_max O f (d + 8) v20 x2 M) (fun x3 M1 => ?_)
        refine xZ.adv (me := xm145) hP_145 3 (pc' := 843) (lv' := [(21, .int (v21 + (1 : Int32))), (20, .int x3), (0, .ref v0), (5, .int v5), (6, .int v6), (8, .int v8), (9, .int v9), (12, .ref v12), (15, .int v15), (16, .int v16), (17, .int v17), (18, .int v18), (19, .int v19)]) (st' := []) rfl ?_
        exact xZ.sub (xsc (.tail _ (.tail _ (.head _))) (xsc (.tail _ (.tail _ (.tail _ (.head _)))) (xsc (.tail _ (.tail _ (.tail _ (.tail _ (.head _))))) (xsc (.tail _ (.tail _ (.tail _ (.tail _ (.tail _ (.head _)))))) (xsc (.tail _ (.tail _ (.tail _ (.tail _ (.tail _ (.tail _ (.head _))))))) (xsc (.tail _ (.tail _ (.tail _ (.tail _ (.tail _ (.tail _ (.tail _ (.head _)))))))) (xsc (.tail _ (.tail _ (.tail _ (.tail _ (.tail _ (.tail _ (.tail _ (.tail _ (.head _))))))))) (xsc (.tail _ (.tail _ (.tail _ (.tail _ (.tail _ (.tail _ (.tail _ (.tail _ (.tail _ (.head _)))))))))) (xsc (.tail _ (.tail _ (.tail _ (.tail _ (.tail _ (.tail _ (.tail _ (.tail _ (.tail _ (.tail _ (.head _))))))))))) (xsc (.tail _ (.tail _ (.tail _ (.tail _ (.tail _ (.tail _ (.tail _ (.tail _ (.tail _ (.tail _ (.tail _ (.head _)))))))))))) (xsc (.tail _ (.tail _ (.tail _ (.tail _ (.tail _ (.tail _ (.tail _ (.tail _ (.tail _ (.tail _ (.tail _ (.tail _ (.head _))))))))))))) (xsc (.tail _ (.head _)) (xsc (.head _) xsn))))))))))))) (show ([21, 20, 0, 5, 6, 8, 9, 12, 15, 16, 17, 18, 19] : List Nat).Nodup from by decide) (ih v0 v5 v6 v8 v9 v12 v15 v16 v17 v18 v19 x3 (v21 + (1 : Int32)) M1)
def f_Law_areFree_924 (O : Nat → Option va_E) (f : Nat) (K814 : Nat → Int32 → Int32 → Int32 → Int32 → Nat → Int32 → Int32 → Int32 → xM → Option (Int32 × xM)) (v0 : Nat) (v5 : Int32) (v6 : Int32) (v8 : Int32) (v9 : Int32) (v12 : Nat) (v17 : Int32) (v18 : Int32) (M : xM) : Option (Int32 × xM) :=
  K814 v0 v5 v6 v8 v9 v12 (v5 + v17) v18 (v17 + (15 : Int32)) M
set_option maxRecDepth 20000 in
theorem k_f_Law_areFree_924 (O : Nat → Option va_E) (f d : Nat) (K814 : Nat → Int32 → Int32 → Int32 → Int32 → Nat → Int32 → Int32 → Int32 → xM → Option (Int32 × xM)) (hK814 : ∀ (v0 : Nat) (v5 : Int32) (v6 : Int32) (v8 : Int32) (v9 : Int32) (v12 : Nat) (v15 : Int32) (v16 : Int32) (v17 : Int32) M, xZ oI O (d + 9) 145 814 [(0, .ref v0), (5, .int v5), (6, .int v6), (8, .int v8), (9, .int v9), (12, .ref v12), (15, .int v15), (16, .int v16), (17, .int v17)] [] M (K814 v0 v5 v6 v8 v9 v12 v15 v16 v17 M)) (v0 : Nat) (v5 : Int32) (v6 : Int32) (v8 : Int32) (v9 : Int32) (v12 : Nat) (v17 : Int32) (v18 : Int32) (M : xM) : xZ oI O (d + 9) 145 924 [(0, .ref v0), (5, .int v5), (6, .int v6), (8, .int v8), (9, .int v9), (12, .ref v12), (17, .int v17), (18, .int v18)] [] M (f_Law_areFree_924 O f K814 v0 v5 v6 v8 v9 v12 v17 v18 M) := by
  unfold f_Law_areFree_924
  refine xZ.adv (me := xm145) hP_145 8 (pc' := 814) (lv' := [(17, .int (v17 + (15 : Int32))), (16, .int v18), (15, .int (v5 + v17)), (0, .ref v0), (5, .int v5), (6, .int v6), (8, .int v8), (9, .int v9), (12, .ref v12), (18, .int v18)]) (st' := []) rfl ?_
  exact xZ.sub (xsc (.tail _ (.tail _ (.tail _ (.head _)))) (xsc (.tail _ (.tail _ (.tail _ (.tail _ (.head _))))) (xsc (.tail _ (.tail _ (.tail _ (.tail _ (.tail _ (.head _)))))) (xsc (.tail _ (.tail _ (.tail _ (.tail _ (.tail _ (.tail _ (.head _))))))) (xsc (.tail _ (.tail _ (.tail _ (.tail _ (.tail _ (.tail _ (.tail _ (.head _)))))))) (xsc (.tail _ (.tail _ (.tail _ (.tail _ (.tail _ (.tail _ (.tail _ (.tail _ (.head _))))))))) (xsc (.tail _ (.tail _ (.head _))) (xsc (.tail _ (.head _)) (xsc (.head _) xsn))))))))) (show ([17, 16, 15, 0, 5, 6, 8, 9, 12, 18] : List Nat).Nodup from by decide) (hK814 v0 v5 v6 v8 v9 v12 (v5 + v17) v18 (v17 + (15 : Int32)) M)
def f_Law_areFree_830 (O : Nat → Option va_E) (f : Nat) (K814 : Nat → Int32 → Int32 → Int32 → Int32 → Nat → Int32 → Int32 → Int32 → xM → Option (Int32 × xM)) : Nat → Nat → Int32 → Int32 → Int32 → Int32 → Nat → Int32 → Int32 → Int32 → Int32 → Int32 → xM → Option (Int32 × xM)
  | 0, _, _, _, _, _, _, _, _, _, _, _, _ => none
  | n + 1, v0, v5, v6, v8, v9, v12, v15, v16, v17, v18, v19, M =>
    if (4 : Int32) ≤ v19 then (
      if v15 = (-1 : Int32) then (
        f_Law_areFree_924 O f K814 v0 v5 v6 v8 v9 v12 v17 v18 M
      ) else
      if v18 < v16 then (
        f_Law_areFree_924 O f K814 v0 v5 v6 v8 v9 v12 v17 v18 M
      ) else
      K814 v0 v5 v6 v8 v9 v12 v15 v16 (v17 + (15 : Int32)) M
    ) else
    f_Law_areFree_843 O f (f_Law_areFree_830 O f K814 n) f v0 v5 v6 v8 v9 v12 v15 v16 v17 v18 v19 (0 : Int32) v17 M
set_option maxRecDepth 20000 in
theorem k_f_Law_areFree_830 (O : Nat → Option va_E) (f d : Nat) (K814 : Nat → Int32 → Int32 → Int32 → Int32 → Nat → Int32 → Int32 → Int32 → xM → Option (Int32 × xM)) (hK814 : ∀ (v0 : Nat) (v5 : Int32) (v6 : Int32) (v8 : Int32) (v9 : Int32) (v12 : Nat) (v15 : Int32) (v16 : Int32) (v17 : Int32) M, xZ oI O (d + 9) 145 814 [(0, .ref v0), (5, .int v5), (6, .int v6), (8, .int v8), (9, .int v9), (12, .ref v12), (15, .int v15), (16, .int v16), (17, .int v17)] [] M (K814 v0 v5 v6 v8 v9 v12 v15 v16 v17 M)) : ∀ (n : Nat) (v0 : Nat) (v5 : Int32) (v6 : Int32) (v8 : Int32) (v9 : Int32) (v12 : Nat) (v15 : Int32) (v16 : Int32) (v17 : Int32) (v18 : Int32) (v19 : Int32) (M : xM), xZ oI O (d + 9) 145 830 [(0, .ref v0), (5, .int v5), (6, .int v6), (8, .int v8), (9, .int v9), (12, .ref v12), (15, .int v15), (16, .int v16), (17, .int v17), (18, .int v18), (19, .int v19)] [] M (f_Law_areFree_830 O f K814 n v0 v5 v6 v8 v9 v12 v15 v16 v17 v18 v19 M) := by
  intro n
  induction n with
  | zero =>
    intro v0 v5 v6 v8 v9 v12 v15 v16 v17 v18 v19 M
    exact xZ.no
  | succ n ih =>
    intro v0 v5 v6 v8 v9 v12 v15 v16 v17 v18 v19 M
    unfold f_Law_areFree_830
    refine xZ.adv (me := xm145) hP_145 2 (pc' := 833) (lv' := [(0, .ref v0), (5, .int v5), (6, .int v6), (8, .int v8), (9, .int v9), (12, .ref v12), (15, .int v15), (16, .int v16), (17, .int v17), (18, .int v18), (19, .int v19)]) (st' := [.int (4 : Int32), .int v19]) rfl ?_
    refine xZ.ic_ge (me := xm145) hP_145 rfl (fun h1 => ?_) (fun h1 => ?_)
    · skip
      refine xZ.adv (me := xm145) hP_145 2 (pc' := 911) (lv' := [(0, .ref v0), (5, .int v5), (6, .int v6), (8, .int v8), (9, .int v9), (12, .ref v12), (15, .int v15), (16, .int v16), (17, .int v17), (18, .int v18), (19, .int v19)]) (st' := [.int (-1 : Int32), .int v15]) rfl ?_
      refine xZ.ic_eq (me := xm145) hP_145 rfl (fun h2 => ?_) (fun h2 => ?_)
      · skip
        exact xZ.sub (xsc (.head _) (xsc (.tail _ (.head _)) (xsc (.tail _ (.tail _ (.head _))) (xsc (.tail _ (.tail _ (.tail _ (.head _)))) (xsc (.tail _ (.tail _ (.tail _ (.tail _ (.head _))))) (xsc (.tail _ (.tail _ (.tail _ (.tail _ (.tail _ (.head _)))))) (xsc (.tail _ (.tail _ (.tail _ (.tail _ (.tail _ (.tail _ (.tail _ (.tail _ (.head _))))))))) (xsc (.tail _ (.tail _ (.tail _ (.tail _ (.tail _ (.tail _ (.tail _ (.tail _ (.tail _ (.head _)))))))))) xsn)))))))) (show ([0, 5, 6, 8, 9, 12, 15, 16, 17, 18, 19] : List Nat).Nodup from by decide) (k_f_Law_areFree_924 O f d K814 hK814 v0 v5 v6 v8 v9 v12 v17 v18 M)
      · skip
        refine xZ.adv (me := xm145) hP_145 2 (pc' := 918) (lv' := [(0, .ref v0), (5, .int v5), (6, .int v6), (8, .int v8), (9, .int v9), (12, .ref v12), (15, .int v15), (16, .int v16), (17, .int v17), (18, .int v18), (19, .int v19)]) (st' := [.int v16, .int v18]) rfl ?_
        refine xZ.ic_lt (me := xm145) hP_145 rfl (fun h3 => ?_) (fun h3 => ?_)
        · skip
          exact xZ.sub (xsc (.head _) (xsc (.tail _ (.head _)) (xsc (.tail _ (.tail _ (.head _))) (xsc (.tail _ (.tail _ (.tail _ (.head _)))) (xsc (.tail _ (.tail _ (.tail _ (.tail _ (.head _))))) (xsc (.tail _ (.tail _ (.tail _ (.tail _ (.tail _ (.head _)))))) (xsc (.tail _ (.tail _ (.tail _ (.tail _ (.tail _ (.tail _ (.tail _ (.tail _ (.head _))))))))) (xsc (.tail _ (.tail _ (.tail _ (.tail _ (.tail _ (.tail _ (.tail _ (.tail _ (.tail _ (.head _)))))))))) xsn)))))))) (show ([0, 5, 6, 8, 9, 12, 15, 16, 17, 18, 19] : List Nat).Nodup from by decide) (k_f_Law_areFree_924 O f d K814 hK814 v0 v5 v6 v8 v9 v12 v17 v18 M)
        · skip
          refine xZ.adv (me := xm145) hP_145 3 (pc' := 814) (lv' := [(17, .int (v17 + (15 : Int32))), (0, .ref v0), (5, .int v5), (6, .int v6), (8, .int v8), (9, .int v9), (12, .ref v12), (15, .int v15), (16, .int v16), (18, .int v18), (19, .int v19)]) (st' := []) rfl ?_
          exact xZ.sub (xsc (.tail _ (.head _)) (xsc (.tail _ (.tail _ (.head _))) (xsc (.tail _ (.tail _ (.tail _ (.head _)))) (xsc (.tail _ (.tail _ (.tail _ (.tail _ (.head _))))) (xsc (.tail _ (.tail _ (.tail _ (.tail _ (.tail _ (.head _)))))) (xsc (.tail _ (.tail _ (.tail _ (.tail _ (.tail _ (.tail _ (.head _))))))) (xsc (.tail _ (.tail _ (.tail _ (.tail _ (.tail _ (.tail _ (.tail _ (.head _)))))))) (xsc (.tail _ (.tail _ (.tail _ (.tail _ (.tail _ (.tail _ (.tail _ (.tail _ (.head _))))))))) (xsc (.head _) xsn))))))))) (show ([17, 0, 5, 6, 8, 9, 12, 15, 16, 18, 19] : List Nat).Nodup from by decide) (hK814 v0 v5 v6 v8 v9 v12 v15 v16 (v17 + (15 : Int32)) M)
    · skip
      refine xZ.adv (me := xm145) hP_145 4 (pc' := 843) (lv' := [(21, .int v17), (20, .int (0 : Int32)), (0, .ref v0), (5, .int v5), (6, .int v6), (8, .int v8), (9, .int v9), (12, .ref v12), (15, .int v15), (16, .int v16), (17, .int v17), (18, .int v18), (19, .int v19)]) (st' := []) rfl ?_
      exact xZ.sub (xsc (.tail _ (.tail _ (.head _))) (xsc (.tail _ (.tail _ (.tail _ (.head _)))) (xsc (.tail _ (.tail _ (.tail _ (.tail _ (.head _))))) (xsc (.tail _ (.tail _ (.tail _ (.tail _ (.tail _ (.head _)))))) (xsc (.tail _ (.tail _ (.tail _ (.tail _ (.tail _ (.tail _ (.head _))))))) (xsc (.tail _ (.tail _ (.tail _ (.tail _ (.tail _ (.tail _ (.tail _ (.head _)))))))) (xsc (.tail _ (.tail _ (.tail _ (.tail _ (.tail _ (.tail _ (.tail _ (.tail _ (.head _))))))))) (xsc (.tail _ (.tail _ (.tail _ (.tail _ (.tail _ (.tail _ (.tail _ (.tail _ (.tail _ (.head _)))))))))) (xsc (.tail _ (.tail _ (.tail _ (.tail _ (.tail _ (.tail _ (.tail _ (.tail _ (.tail _ (.tail _ (.head _))))))))))) (xsc (.tail _ (.tail _ (.tail _ (.tail _ (.tail _ (.tail _ (.tail _ (.tail _ (.tail _ (.tail _ (.tail _ (.head _)))))))))))) (xsc (.tail _ (.tail _ (.tail _ (.tail _ (.tail _ (.tail _ (.tail _ (.tail _ (.tail _ (.tail _ (.tail _ (.tail _ (.head _))))))))))))) (xsc (.tail _ (.head _)) (xsc (.head _) xsn))))))))))))) (show ([21, 20, 0, 5, 6, 8, 9, 12, 15, 16, 17, 18, 19] : List Nat).Nodup from by decide) (k_f_Law_areFree_843 O f d (f_Law_areFree_830 O f K814 n) ih f v0 v5 v6 v8 v9 v12 v15 v16 v17 v18 v19 (0 : Int32) v17 M)
def f_Law_areFree_814 (O : Nat → Option va_E) (f : Nat) : Nat → Nat → Int32 → Int32 → Int32 → Int32 → Nat → Int32 → Int32 → Int32 → xM → Option (Int32 × xM)
  | 0, _, _, _, _, _, _, _, _, _, _ => none
  | n + 1, v0, v5, v6, v8, v9, v12, v15, v16, v17, M =>
    if v6 < (v17 + v9) then (
      (isO O M v0 12).bind fun _ =>
      xcl (f_Calendarhall_best O f v0 v8 v5 (v5 + v6) v9 (0 : Int32) M) fun x1 M1 =>
      if x1 = v15 then (
        (isO O M1 v0 12).bind fun _ =>
        xcl (f_Calendarhall_best O f v0 v8 v5 (v5 + v6) v9 (1 : Int32) M1) fun x2 M2 =>
        if x2 = v16 then (
          some ((1 : Int32), M2)
        ) else
        some ((0 : Int32), M2)
      ) else
      some ((0 : Int32), M1)
    ) else
    f_Law_areFree_830 O f (f_Law_areFree_814 O f n) f v0 v5 v6 v8 v9 v12 v15 v16 v17 (0 : Int32) (0 : Int32) M
set_option maxRecDepth 20000 in
theorem k_f_Law_areFree_814 (O : Nat → Option va_E) (f d : Nat) : ∀ (n : Nat) (v0 : Nat) (v5 : Int32) (v6 : Int32) (v8 : Int32) (v9 : Int32) (v12 : Nat) (v15 : Int32) (v16 : Int32) (v17 : Int32) (M : xM), xZ oI O (d + 9) 145 814 [(0, .ref v0), (5, .int v5), (6, .int v6), (8, .int v8), (9, .int v9), (12, .ref v12), (15, .int v15), (16, .int v16), (17, .int v17)] [] M (f_Law_areFree_814 O f n v0 v5 v6 v8 v9 v12 v15 v16 v17 M) := by
  intro n
  induction n with
  | zero =>
    intro v0 v5 v6 v8 v9 v12 v15 v16 v17 M
    exact xZ.no
  | succ n ih =>
    intro v0 v5 v6 v8 v9 v12 v15 v16 v17 M
    unfold f_Law_areFree_814
    refine xZ.adv (me := xm145) hP_145 4 (pc' := 821) (lv' := [(0, .ref v0), (5, .int v5), (6, .int v6), (8, .int v8), (9, .int v9), (12, .ref v12), (15, .int v15), (16, .int v16), (17, .int v17)]) (st' := [.int v6, .int (v17 + v9)]) rfl ?_
    refine xZ.ic_gt (me := xm145) hP_145 rfl (fun h1 => ?_) (fun h1 => ?_)
    · skip
      refine xZ.adv (me := xm145) hP_145 8 (pc' := 954) (lv' := [(0, .ref v0), (5, .int v5), (6, .int v6), (8, .int v8), (9, .int v9), (12, .ref v12), (15, .int v15), (16, .int v16), (17, .int v17)]) (st' := [.int (0 : Int32), .int v9, .int (v5 + v6), .int v5, .int v8, .ref v0]) rfl ?_
      refine xZ.callv (κ := oI) (av := [.int v8, .int v5, .int (v5 + v6), .int v9, .int (0 : Int32)]) (rest := []) (st' := fun x1 => [.int x1]) (k0 := v0) (me := xm145) hP_145 rfl (Or.inl rfl) ⟨rfl, by decide⟩ rfl rfl (Nat.le_of_ble_eq_true rfl) (by decide) hP_184 (Nat.le_of_ble_eq_true rfl) (fun _ => rfl) (k_f_Calendarhall_best O f (d + 1) v0 v8 v5 (v5 + v6) v9 (0 : Int32) M) (fun x1 M1 => ?_)
      refine xZ.adv (me := xm145) hP_145 1 (pc' := 959) (lv' := [(0, .ref v0), (5, .int v5), (6, .int v6), (8, .int v8), (9, .int v9), (12, .ref v12), (15, .int v15), (16, .int v16), (17, .int v17)]) (st' := [.int v15, .int x1]) rfl ?_
      refine xZ.ic_ne (me := xm145) hP_145 rfl (fun h2 => ?_) (fun h2 => ?_)
      · skip
        refine xZ.adv (me := xm145) hP_145 8 (pc' := 975) (lv' := [(0, .ref v0), (5, .int v5), (6, .int v6), (8, .int v8), (9, .int v9), (12, .ref v12), (15, .int v15), (16, .int v16), (17, .int v17)]) (st' := [.int (1 : Int32), .int v9, .int (v5 + v6), .int v5, .int v8, .ref v0]) rfl ?_
        refine xZ.callv (κ := oI) (av := [.int v8, .int v5, .int (v5 + v6), .int v9, .int (1 : Int32)]) (rest := []) (st' := fun x2 => [.int x2]) (k0 := v0) (me := xm145) hP_145 rfl (Or.inl rfl) ⟨rfl, by decide⟩ rfl rfl (Nat.le_of_ble_eq_true rfl) (by decide) hP_184 (Nat.le_of_ble_eq_true rfl) (fun _ => rfl) (k_f_Calendarhall_best O f (d + 1) v0 v8 v5 (v5 + v6) v9 (1 : Int32) M1) (fun x2 M2 => ?_)
        refine xZ.adv (me := xm145) hP_145 1 (pc' := 980) (lv' := [(0, .ref v0), (5, .int v5), (6, .int v6), (8, .int v8), (9, .int v9), (12, .ref v12), (15, .int v15), (16, .int v16), (17, .int v17)]) (st' := [.int v16, .int x2]) rfl ?_
        refine xZ.ic_ne (me := xm145) hP_145 rfl (fun h3 => ?_) (fun h3 => ?_)
        · skip
          refine xZ.adv (me := xm145) hP_145 2 (pc' := 988) (lv' := [(0, .ref v0), (5, .int v5), (6, .int v6), (8, .int v8), (9, .int v9), (12, .ref v12), (15, .int v15), (16, .int v16), (17, .int v17)]) (st' := [.int (1 : Int32)]) rfl ?_
          exact xZ.rete (me := xm145) hP_145 rfl rfl rfl
        · skip
          refine xZ.adv (me := xm145) hP_145 1 (pc' := 988) (lv' := [(0, .ref v0), (5, .int v5), (6, .int v6), (8, .int v8), (9, .int v9), (12, .ref v12), (15, .int v15), (16, .int v16), (17, .int v17)]) (st' := [.int (0 : Int32)]) rfl ?_
          exact xZ.rete (me := xm145) hP_145 rfl rfl rfl
      · skip
        refine xZ.adv (me := xm145) hP_145 1 (pc' := 988) (lv' := [(0, .ref v0), (5, .int v5), (6, .int v6), (8, .int v8), (9, .int v9), (12, .ref v12), (15, .int v15), (16, .int v16), (17, .int v17)]) (st' := [.int (0 : Int32)]) rfl ?_
        exact xZ.rete (me := xm145) hP_145 rfl rfl rfl
    · skip
      refine xZ.adv (me := xm145) hP_145 4 (pc' := 830) (lv' := [(19, .int (0 : Int32)), (18, .int (0 : Int32)), (0, .ref v0), (5, .int v5), (6, .int v6), (8, .int v8), (9, .int v9), (12, .ref v12), (15, .int v15), (16, .int v16), (17, .int v17)]) (st' := []) rfl ?_
      exact xZ.sub (xsc (.tail _ (.tail _ (.head _))) (xsc (.tail _ (.tail _ (.tail _ (.head _)))) (xsc (.tail _ (.tail _ (.tail _ (.tail _ (.head _))))) (xsc (.tail _ (.tail _ (.tail _ (.tail _ (.tail _ (.head _)))))) (xsc (.tail _ (.tail _ (.tail _ (.tail _ (.tail _ (.tail _ (.head _))))))) (xsc (.tail _ (.tail _ (.tail _ (.tail _ (.tail _ (.tail _ (.tail _ (.head _)))))))) (xsc (.tail _ (.tail _ (.tail _ (.tail _ (.tail _ (.tail _ (.tail _ (.tail _ (.head _))))))))) (xsc (.tail _ (.tail _ (.tail _ (.tail _ (.tail _ (.tail _ (.tail _ (.tail _ (.tail _ (.head _)))))))))) (xsc (.tail _ (.tail _ (.tail _ (.tail _ (.tail _ (.tail _ (.tail _ (.tail _ (.tail _ (.tail _ (.head _))))))))))) (xsc (.tail _ (.head _)) (xsc (.head _) xsn))))))))))) (show ([19, 18, 0, 5, 6, 8, 9, 12, 15, 16, 17] : List Nat).Nodup from by decide) (k_f_Law_areFree_830 O f d (f_Law_areFree_814 O f n) ih f v0 v5 v6 v8 v9 v12 v15 v16 v17 (0 : Int32) (0 : Int32) M)
def f_Law_areFree_781 (O : Nat → Option va_E) (f : Nat) (v0 : Nat) (v5 : Int32) (v6 : Int32) (v8 : Int32) (v9 : Int32) (v10 : Int32) (v12 : Nat) (v14 : Int32) (M : xM) : Option (Int32 × xM) :=
  (isO O M v0 12).bind fun _ =>
  xcl (f_Calendarhall_freeNext O f v0 v8 v5 (v5 + v6) v9 v10 M) fun x1 M1 =>
  if x1 = v14 then (
    f_Law_areFree_814 O f f v0 v5 v6 v8 v9 v12 (-1 : Int32) (-1 : Int32) (0 : Int32) M1
  ) else
  some ((0 : Int32), M1)
set_option maxRecDepth 20000 in
theorem k_f_Law_areFree_781 (O : Nat → Option va_E) (f d : Nat) (v0 : Nat) (v5 : Int32) (v6 : Int32) (v8 : Int32) (v9 : Int32) (v10 : Int32) (v12 : Nat) (v14 : Int32) (M : xM) : xZ oI O (d + 9) 145 781 [(0, .ref v0), (5, .int v5), (6, .int v6), (8, .int v8), (9, .int v9), (10, .int v10), (12, .ref v12), (14, .int v14)] [] M (f_Law_areFree_781 O f v0 v5 v6 v8 v9 v10 v12 v14 M) := by
  unfold f_Law_areFree_781
  refine xZ.adv (me := xm145) hP_145 8 (pc' := 795) (lv' := [(0, .ref v0), (5, .int v5), (6, .int v6), (8, .int v8), (9, .int v9), (10, .int v10), (12, .ref v12), (14, .int v14)]) (st' := [.int v10, .int v9, .int (v5 + v6), .int v5, .int v8, .ref v0]) rfl ?_
  refine xZ.callv (κ := oI) (av := [.int v8, .int v5, .int (v5 + v6), .int v9, .int v10]) (rest := []) (st' := fun x1 => [.int x1]) (k0 := v0) (me := xm145) hP_145 rfl (Or.inl rfl) ⟨rfl, by decide⟩ rfl rfl (Nat.le_of_ble_eq_true rfl) (by decide) hP_181 (Nat.le_of_ble_eq_true rfl) (fun _ => rfl) (k_f_Calendarhall_freeNext O f (d + 1) v0 v8 v5 (v5 + v6) v9 v10 M) (fun x1 M1 => ?_)
  refine xZ.adv (me := xm145) hP_145 1 (pc' := 800) (lv' := [(0, .ref v0), (5, .int v5), (6, .int v6), (8, .int v8), (9, .int v9), (10, .int v10), (12, .ref v12), (14, .int v14)]) (st' := [.int v14, .int x1]) rfl ?_
  refine xZ.ic_eq (me := xm145) hP_145 rfl (fun h1 => ?_) (fun h1 => ?_)
  · skip
    refine xZ.adv (me := xm145) hP_145 6 (pc' := 814) (lv' := [(17, .int (0 : Int32)), (16, .int (-1 : Int32)), (15, .int (-1 : Int32)), (0, .ref v0), (5, .int v5), (6, .int v6), (8, .int v8), (9, .int v9), (10, .int v10), (12, .ref v12), (14, .int v14)]) (st' := []) rfl ?_
    exact xZ.sub (xsc (.tail _ (.tail _ (.tail _ (.head _)))) (xsc (.tail _ (.tail _ (.tail _ (.tail _ (.head _))))) (xsc (.tail _ (.tail _ (.tail _ (.tail _ (.tail _ (.head _)))))) (xsc (.tail _ (.tail _ (.tail _ (.tail _ (.tail _ (.tail _ (.head _))))))) (xsc (.tail _ (.tail _ (.tail _ (.tail _ (.tail _ (.tail _ (.tail _ (.head _)))))))) (xsc (.tail _ (.tail _ (.tail _ (.tail _ (.tail _ (.tail _ (.tail _ (.tail _ (.tail _ (.head _)))))))))) (xsc (.tail _ (.tail _ (.head _))) (xsc (.tail _ (.head _)) (xsc (.head _) xsn))))))))) (show ([17, 16, 15, 0, 5, 6, 8, 9, 10, 12, 14] : List Nat).Nodup from by decide) (k_f_Law_areFree_814 O f d f v0 v5 v6 v8 v9 v12 (-1 : Int32) (-1 : Int32) (0 : Int32) M1)
  · skip
    refine xZ.adv (me := xm145) hP_145 1 (pc' := 804) (lv' := [(0, .ref v0), (5, .int v5), (6, .int v6), (8, .int v8), (9, .int v9), (10, .int v10), (12, .ref v12), (14, .int v14)]) (st' := [.int (0 : Int32)]) rfl ?_
    exact xZ.rete (me := xm145) hP_145 rfl rfl rfl
def f_Law_areFree_725 (O : Nat → Option va_E) (f : Nat) : Nat → Nat → Int32 → Int32 → Int32 → Int32 → Int32 → Nat → Nat → Int32 → Int32 → Int32 → xM → Option (Int32 × xM)
  | 0, _, _, _, _, _, _, _, _, _, _, _, _ => none
  | n + 1, v0, v5, v6, v8, v9, v10, v11, v12, v13, v14, v15, M =>
    if v6 ≤ v15 then (
      f_Law_areFree_781 O f v0 v5 v6 v8 v9 v10 v12 v14 M
    ) else
    if v14 = (-1 : Int32) then (
      (aB O M v11 v15).bind fun x1 =>
      if x1 = 0 then (
        f_Law_areFree_754 O f (f_Law_areFree_725 O f n) v0 v5 v6 v8 v9 v10 v11 v12 v14 v15 (v13 + (1 : Int32)) M
      ) else
      f_Law_areFree_754 O f (f_Law_areFree_725 O f n) v0 v5 v6 v8 v9 v10 v11 v12 v14 v15 (0 : Int32) M
    ) else
    f_Law_areFree_781 O f v0 v5 v6 v8 v9 v10 v12 v14 M
set_option maxRecDepth 20000 in
theorem k_f_Law_areFree_725 (O : Nat → Option va_E) (f d : Nat) : ∀ (n : Nat) (v0 : Nat) (v5 : Int32) (v6 : Int32) (v8 : Int32) (v9 : Int32) (v10 : Int32) (v11 : Nat) (v12 : Nat) (v13 : Int32) (v14 : Int32) (v15 : Int32) (M : xM), xZ oI O (d + 9) 145 725 [(0, .ref v0), (5, .int v5), (6, .int v6), (8, .int v8), (9, .int v9), (10, .int v10), (11, .ref v11), (12, .ref v12), (13, .int v13), (14, .int v14), (15, .int v15)] [] M (f_Law_areFree_725 O f n v0 v5 v6 v8 v9 v10 v11 v12 v13 v14 v15 M) := by
  intro n
  induction n with
  | zero =>
    intro v0 v5 v6 v8 v9 v10 v11 v12 v13 v14 v15 M
    exact xZ.no
  | succ n ih =>
    intro v0 v5 v6 v8 v9 v10 v11 v12 v13 v14 v15 M
    unfold f_Law_areFree_725
    refine xZ.adv (me := xm145) hP_145 2 (pc' := 729) (lv' := [(0, .ref v0), (5, .int v5), (6, .int v6), (8, .int v8), (9, .int v9), (10, .int v10), (11, .ref v11), (12, .ref v12), (13, .int v13), (14, .int v14), (15, .int v15)]) (st' := [.int v6, .int v15]) rfl ?_
    refine xZ.ic_ge (me := xm145) hP_145 rfl (fun h1 => ?_) (fun h1 => ?_)
    · skip
      exact xZ.sub (xsc (.head _) (xsc (.tail _ (.head _)) (xsc (.tail _ (.tail _ (.head _))) (xsc (.tail _ (.tail _ (.tail _ (.head _)))) (xsc (.tail _ (.tail _ (.tail _ (.tail _ (.head _))))) (xsc (.tail _ (.tail _ (.tail _ (.tail _ (.tail _ (.head _)))))) (xsc (.tail _ (.tail _ (.tail _ (.tail _ (.tail _ (.tail _ (.tail _ (.head _)))))))) (xsc (.tail _ (.tail _ (.tail _ (.tail _ (.tail _ (.tail _ (.tail _ (.tail _ (.tail _ (.head _)))))))))) xsn)))))))) (show ([0, 5, 6, 8, 9, 10, 11, 12, 13, 14, 15] : List Nat).Nodup from by decide) (k_f_Law_areFree_781 O f d v0 v5 v6 v8 v9 v10 v12 v14 M)
    · skip
      refine xZ.adv (me := xm145) hP_145 2 (pc' := 735) (lv' := [(0, .ref v0), (5, .int v5), (6, .int v6), (8, .int v8), (9, .int v9), (10, .int v10), (11, .ref v11), (12, .ref v12), (13, .int v13), (14, .int v14), (15, .int v15)]) (st' := [.int (-1 : Int32), .int v14]) rfl ?_
      refine xZ.ic_ne (me := xm145) hP_145 rfl (fun h2 => ?_) (fun h2 => ?_)
      · skip
        refine xZ.adv (me := xm145) hP_145 2 (pc' := 742) (lv' := [(0, .ref v0), (5, .int v5), (6, .int v6), (8, .int v8), (9, .int v9), (10, .int v10), (11, .ref v11), (12, .ref v12), (13, .int v13), (14, .int v14), (15, .int v15)]) (st' := [.int v15, .ref v11]) rfl ?_
        refine xZ.k_aB (me := xm145) hP_145 rfl (fun x1 => ?_)
        refine xZ.if_eq (me := xm145) hP_145 rfl (fun h3 => ?_) (fun h3 => ?_)
        · skip
          refine xZ.adv (me := xm145) hP_145 3 (pc' := 754) (lv' := [(0, .ref v0), (5, .int v5), (6, .int v6), (8, .int v8), (9, .int v9), (10, .int v10), (11, .ref v11), (12, .ref v12), (13, .int v13), (14, .int v14), (15, .int v15)]) (st' := [.int (v13 + (1 : Int32))]) rfl ?_
          exact xZ.sub (xsc (.head _) (xsc (.tail _ (.head _)) (xsc (.tail _ (.tail _ (.head _))) (xsc (.tail _ (.tail _ (.tail _ (.head _)))) (xsc (.tail _ (.tail _ (.tail _ (.tail _ (.head _))))) (xsc (.tail _ (.tail _ (.tail _ (.tail _ (.tail _ (.head _)))))) (xsc (.tail _ (.tail _ (.tail _ (.tail _ (.tail _ (.tail _ (.head _))))))) (xsc (.tail _ (.tail _ (.tail _ (.tail _ (.tail _ (.tail _ (.tail _ (.head _)))))))) (xsc (.tail _ (.tail _ (.tail _ (.tail _ (.tail _ (.tail _ (.tail _ (.tail _ (.tail _ (.head _)))))))))) (xsc (.tail _ (.tail _ (.tail _ (.tail _ (.tail _ (.tail _ (.tail _ (.tail _ (.tail _ (.tail _ (.head _))))))))))) xsn)))))))))) (show ([0, 5, 6, 8, 9, 10, 11, 12, 13, 14, 15] : List Nat).Nodup from by decide) (k_f_Law_areFree_754 O f d (f_Law_areFree_725 O f n) ih v0 v5 v6 v8 v9 v10 v11 v12 v14 v15 (v13 + (1 : Int32)) M)
        · skip
          refine xZ.adv (me := xm145) hP_145 2 (pc' := 754) (lv' := [(0, .ref v0), (5, .int v5), (6, .int v6), (8, .int v8), (9, .int v9), (10, .int v10), (11, .ref v11), (12, .ref v12), (13, .int v13), (14, .int v14), (15, .int v15)]) (st' := [.int (0 : Int32)]) rfl ?_
          exact xZ.sub (xsc (.head _) (xsc (.tail _ (.head _)) (xsc (.tail _ (.tail _ (.head _))) (xsc (.tail _ (.tail _ (.tail _ (.head _)))) (xsc (.tail _ (.tail _ (.tail _ (.tail _ (.head _))))) (xsc (.tail _ (.tail _ (.tail _ (.tail _ (.tail _ (.head _)))))) (xsc (.tail _ (.tail _ (.tail _ (.tail _ (.tail _ (.tail _ (.head _))))))) (xsc (.tail _ (.tail _ (.tail _ (.tail _ (.tail _ (.tail _ (.tail _ (.head _)))))))) (xsc (.tail _ (.tail _ (.tail _ (.tail _ (.tail _ (.tail _ (.tail _ (.tail _ (.tail _ (.head _)))))))))) (xsc (.tail _ (.tail _ (.tail _ (.tail _ (.tail _ (.tail _ (.tail _ (.tail _ (.tail _ (.tail _ (.head _))))))))))) xsn)))))))))) (show ([0, 5, 6, 8, 9, 10, 11, 12, 13, 14, 15] : List Nat).Nodup from by decide) (k_f_Law_areFree_754 O f d (f_Law_areFree_725 O f n) ih v0 v5 v6 v8 v9 v10 v11 v12 v14 v15 (0 : Int32) M)
      · skip
        exact xZ.sub (xsc (.head _) (xsc (.tail _ (.head _)) (xsc (.tail _ (.tail _ (.head _))) (xsc (.tail _ (.tail _ (.tail _ (.head _)))) (xsc (.tail _ (.tail _ (.tail _ (.tail _ (.head _))))) (xsc (.tail _ (.tail _ (.tail _ (.tail _ (.tail _ (.head _)))))) (xsc (.tail _ (.tail _ (.tail _ (.tail _ (.tail _ (.tail _ (.tail _ (.head _)))))))) (xsc (.tail _ (.tail _ (.tail _ (.tail _ (.tail _ (.tail _ (.tail _ (.tail _ (.tail _ (.head _)))))))))) xsn)))))))) (show ([0, 5, 6, 8, 9, 10, 11, 12, 13, 14, 15] : List Nat).Nodup from by decide) (k_f_Law_areFree_781 O f d v0 v5 v6 v8 v9 v10 v12 v14 M)
def f_Law_areFree_326 (O : Nat → Option va_E) (f : Nat) : Nat → Nat → Nat → Int32 → Int32 → Nat → Int32 → Int32 → Int32 → Nat → Nat → Int32 → xM → Option (Int32 × xM)
  | 0, _, _, _, _, _, _, _, _, _, _, _, _ => none
  | n + 1, v0, v4, v5, v6, v7, v8, v9, v10, v11, v12, v13, M =>
    if (4 : Int32) ≤ v13 then (
      f_Law_areFree_725 O f f v0 v5 v6 v8 v9 v10 v11 v12 (0 : Int32) (-1 : Int32) (0 : Int32) M
    ) else
    f_Law_areFree_347 O f (f_Law_areFree_326 O f n) f v0 v4 v5 v6 v7 v8 v9 v10 v11 v12 v13 (0 : Int32) (0 : Int32) (0 : Int32) (0 : Int32) (0 : Int32) M
set_option maxRecDepth 20000 in
theorem k_f_Law_areFree_326 (O : Nat → Option va_E) (f d : Nat) : ∀ (n : Nat) (v0 : Nat) (v4 : Nat) (v5 : Int32) (v6 : Int32) (v7 : Nat) (v8 : Int32) (v9 : Int32) (v10 : Int32) (v11 : Nat) (v12 : Nat) (v13 : Int32) (M : xM), xZ oI O (d + 9) 145 326 [(0, .ref v0), (4, .ref v4), (5, .int v5), (6, .int v6), (7, .ref v7), (8, .int v8), (9, .int v9), (10, .int v10), (11, .ref v11), (12, .ref v12), (13, .int v13)] [] M (f_Law_areFree_326 O f n v0 v4 v5 v6 v7 v8 v9 v10 v11 v12 v13 M) := by
  intro n
  induction n with
  | zero =>
    intro v0 v4 v5 v6 v7 v8 v9 v10 v11 v12 v13 M
    exact xZ.no
  | succ n ih =>
    intro v0 v4 v5 v6 v7 v8 v9 v10 v11 v12 v13 M
    unfold f_Law_areFree_326
    refine xZ.adv (me := xm145) hP_145 2 (pc' := 329) (lv' := [(0, .ref v0), (4, .ref v4), (5, .int v5), (6, .int v6), (7, .ref v7), (8, .int v8), (9, .int v9), (10, .int v10), (11, .ref v11), (12, .ref v12), (13, .int v13)]) (st' := [.int (4 : Int32), .int v13]) rfl ?_
    refine xZ.ic_ge (me := xm145) hP_145 rfl (fun h1 => ?_) (fun h1 => ?_)
    · skip
      refine xZ.adv (me := xm145) hP_145 6 (pc' := 725) (lv' := [(15, .int (0 : Int32)), (14, .int (-1 : Int32)), (13, .int (0 : Int32)), (0, .ref v0), (4, .ref v4), (5, .int v5), (6, .int v6), (7, .ref v7), (8, .int v8), (9, .int v9), (10, .int v10), (11, .ref v11), (12, .ref v12)]) (st' := []) rfl ?_
      exact xZ.sub (xsc (.tail _ (.tail _ (.tail _ (.head _)))) (xsc (.tail _ (.tail _ (.tail _ (.tail _ (.tail _ (.head _)))))) (xsc (.tail _ (.tail _ (.tail _ (.tail _ (.tail _ (.tail _ (.head _))))))) (xsc (.tail _ (.tail _ (.tail _ (.tail _ (.tail _ (.tail _ (.tail _ (.tail _ (.head _))))))))) (xsc (.tail _ (.tail _ (.tail _ (.tail _ (.tail _ (.tail _ (.tail _ (.tail _ (.tail _ (.head _)))))))))) (xsc (.tail _ (.tail _ (.tail _ (.tail _ (.tail _ (.tail _ (.tail _ (.tail _ (.tail _ (.tail _ (.head _))))))))))) (xsc (.tail _ (.tail _ (.tail _ (.tail _ (.tail _ (.tail _ (.tail _ (.tail _ (.tail _ (.tail _ (.tail _ (.head _)))))))))))) (xsc (.tail _ (.tail _ (.tail _ (.tail _ (.tail _ (.tail _ (.tail _ (.tail _ (.tail _ (.tail _ (.tail _ (.tail _ (.head _))))))))))))) (xsc (.tail _ (.tail _ (.head _))) (xsc (.tail _ (.head _)) (xsc (.head _) xsn))))))))))) (show ([15, 14, 13, 0, 4, 5, 6, 7, 8, 9, 10, 11, 12] : List Nat).Nodup from by decide) (k_f_Law_areFree_725 O f d f v0 v5 v6 v8 v9 v10 v11 v12 (0 : Int32) (-1 : Int32) (0 : Int32) M)
    · skip
      refine xZ.adv (me := xm145) hP_145 10 (pc' := 347) (lv' := [(18, .int (0 : Int32)), (17, .int (0 : Int32)), (16, .int (0 : Int32)), (15, .int (0 : Int32)), (14, .int (0 : Int32)), (0, .ref v0), (4, .ref v4), (5, .int v5), (6, .int v6), (7, .ref v7), (8, .int v8), (9, .int v9), (10, .int v10), (11, .ref v11), (12, .ref v12), (13, .int v13)]) (st' := []) rfl ?_
      exact xZ.sub (xsc (.tail _ (.tail _ (.tail _ (.tail _ (.tail _ (.head _)))))) (xsc (.tail _ (.tail _ (.tail _ (.tail _ (.tail _ (.tail _ (.head _))))))) (xsc (.tail _ (.tail _ (.tail _ (.tail _ (.tail _ (.tail _ (.tail _ (.head _)))))))) (xsc (.tail _ (.tail _ (.tail _ (.tail _ (.tail _ (.tail _ (.tail _ (.tail _ (.head _))))))))) (xsc (.tail _ (.tail _ (.tail _ (.tail _ (.tail _ (.tail _ (.tail _ (.tail _ (.tail _ (.head _)))))))))) (xsc (.tail _ (.tail _ (.tail _ (.tail _ (.tail _ (.tail _ (.tail _ (.tail _ (.tail _ (.tail _ (.head _))))))))))) (xsc (.tail _ (.tail _ (.tail _ (.tail _ (.tail _ (.tail _ (.tail _ (.tail _ (.tail _ (.tail _ (.tail _ (.head _)))))))))))) (xsc (.tail _ (.tail _ (.tail _ (.tail _ (.tail _ (.tail _ (.tail _ (.tail _ (.tail _ (.tail _ (.tail _ (.tail _ (.head _))))))))))))) (xsc (.tail _ (.tail _ (.tail _ (.tail _ (.tail _ (.tail _ (.tail _ (.tail _ (.tail _ (.tail _ (.tail _ (.tail _ (.tail _ (.head _)))))))))))))) (xsc (.tail _ (.tail _ (.tail _ (.tail _ (.tail _ (.tail _ (.tail _ (.tail _ (.tail _ (.tail _ (.tail _ (.tail _ (.tail _ (.tail _ (.head _))))))))))))))) (xsc (.tail _ (.tail _ (.tail _ (.tail _ (.tail _ (.tail _ (.tail _ (.tail _ (.tail _ (.tail _ (.tail _ (.tail _ (.tail _ (.tail _ (.tail _ (.head _)))))))))))))))) (xsc (.tail _ (.tail _ (.tail _ (.tail _ (.head _))))) (xsc (.tail _ (.tail _ (.tail _ (.head _)))) (xsc (.tail _ (.tail _ (.head _))) (xsc (.tail _ (.head _)) (xsc (.head _) xsn)))))))))))))))) (show ([18, 17, 16, 15, 14, 0, 4, 5, 6, 7, 8, 9, 10, 11, 12, 13] : List Nat).Nodup from by decide) (k_f_Law_areFree_347 O f d (f_Law_areFree_326 O f n) ih f v0 v4 v5 v6 v7 v8 v9 v10 v11 v12 v13 (0 : Int32) (0 : Int32) (0 : Int32) (0 : Int32) (0 : Int32) M)
def f_Law_areFree_295 (O : Nat → Option va_E) (f : Nat) (v0 : Nat) (v1 : Nat) (v4 : Nat) (v5 : Int32) (v6 : Int32) (v7 : Nat) (v8 : Int32) (s0 : Int32) (s1 : Nat) (s2 : Int32) (M : xM) : Option (Int32 × xM) :=
  (isO O M s1 15).bind fun _ =>
  xcl (f_LDraw_n O f s1 s2 M) fun x1 M1 =>
  (isO O M1 v1 15).bind fun _ =>
  xcl (f_LDraw_is O f v1 (2 : Int32) M1) fun x2 M2 =>
  xcl (nA M2 2 v6) fun x3 M3 =>
  xcl (nM M3 (4 : Int32) v6) fun x4 M4 =>
  f_Law_areFree_326 O f f v0 v4 v5 v6 v7 v8 (s0 + x1) x2 x3 x4 (0 : Int32) M4
set_option maxRecDepth 20000 in
theorem k_f_Law_areFree_295 (O : Nat → Option va_E) (f d : Nat) (v0 : Nat) (v1 : Nat) (v4 : Nat) (v5 : Int32) (v6 : Int32) (v7 : Nat) (v8 : Int32) (s0 : Int32) (s1 : Nat) (s2 : Int32) (M : xM) : xZ oI O (d + 9) 145 295 [(0, .ref v0), (1, .ref v1), (4, .ref v4), (5, .int v5), (6, .int v6), (7, .ref v7), (8, .int v8)] [.int s2, .ref s1, .int s0] M (f_Law_areFree_295 O f v0 v1 v4 v5 v6 v7 v8 s0 s1 s2 M) := by
  unfold f_Law_areFree_295
  refine xZ.callv (κ := oI) (av := [.int s2]) (rest := [.int s0]) (st' := fun x1 => [.int x1, .int s0]) (k0 := s1) (me := xm145) hP_145 rfl (Or.inl rfl) ⟨rfl, by decide⟩ rfl rfl (Nat.le_of_ble_eq_true rfl) (by decide) hP_12 (Nat.le_of_ble_eq_true rfl) (fun _ => rfl) (k_f_LDraw_n O f (d + 8) s1 s2 M) (fun x1 M1 => ?_)
  refine xZ.adv (me := xm145) hP_145 4 (pc' := 303) (lv' := [(9, .int (s0 + x1)), (0, .ref v0), (1, .ref v1), (4, .ref v4), (5, .int v5), (6, .int v6), (7, .ref v7), (8, .int v8)]) (st' := [.int (2 : Int32), .ref v1]) rfl ?_
  refine xZ.callv (κ := oI) (av := [.int (2 : Int32)]) (rest := []) (st' := fun x2 => [.int x2]) (k0 := v1) (me := xm145) hP_145 rfl (Or.inl rfl) ⟨rfl, by decide⟩ rfl rfl (Nat.le_of_ble_eq_true rfl) (by decide) hP_18 (Nat.le_of_ble_eq_true rfl) (fun _ => rfl) (k_f_LDraw_is O f (d + 7) v1 (2 : Int32) M1) (fun x2 M2 => ?_)
  refine xZ.adv (me := xm145) hP_145 2 (pc' := 310) (lv' := [(10, .int x2), (9, .int (s0 + x1)), (0, .ref v0), (1, .ref v1), (4, .ref v4), (5, .int v5), (6, .int v6), (7, .ref v7), (8, .int v8)]) (st' := [.int v6]) rfl ?_
  refine xZ.k_nA (me := xm145) hP_145 rfl rfl (by decide) (fun x3 M3 => ?_)
  refine xZ.adv (me := xm145) hP_145 3 (pc' := 317) (lv' := [(11, .ref x3), (10, .int x2), (9, .int (s0 + x1)), (0, .ref v0), (1, .ref v1), (4, .ref v4), (5, .int v5), (6, .int v6), (7, .ref v7), (8, .int v8)]) (st' := [.int v6, .int (4 : Int32)]) rfl ?_
  refine xZ.nMr (me := xm145) hP_145 rfl (fun x4 M4 => ?_)
  refine xZ.adv (me := xm145) hP_145 3 (pc' := 326) (lv' := [(13, .int (0 : Int32)), (12, .ref x4), (11, .ref x3), (10, .int x2), (9, .int (s0 + x1)), (0, .ref v0), (1, .ref v1), (4, .ref v4), (5, .int v5), (6, .int v6), (7, .ref v7), (8, .int v8)]) (st' := []) rfl ?_
  exact xZ.sub (xsc (.tail _ (.tail _ (.tail _ (.tail _ (.tail _ (.head _)))))) (xsc (.tail _ (.tail _ (.tail _ (.tail _ (.tail _ (.tail _ (.tail _ (.head _)))))))) (xsc (.tail _ (.tail _ (.tail _ (.tail _ (.tail _ (.tail _ (.tail _ (.tail _ (.head _))))))))) (xsc (.tail _ (.tail _ (.tail _ (.tail _ (.tail _ (.tail _ (.tail _ (.tail _ (.tail _ (.head _)))))))))) (xsc (.tail _ (.tail _ (.tail _ (.tail _ (.tail _ (.tail _ (.tail _ (.tail _ (.tail _ (.tail _ (.head _))))))))))) (xsc (.tail _ (.tail _ (.tail _ (.tail _ (.tail _ (.tail _ (.tail _ (.tail _ (.tail _ (.tail _ (.tail _ (.head _)))))))))))) (xsc (.tail _ (.tail _ (.tail _ (.tail _ (.head _))))) (xsc (.tail _ (.tail _ (.tail _ (.head _)))) (xsc (.tail _ (.tail _ (.head _))) (xsc (.tail _ (.head _)) (xsc (.head _) xsn))))))))))) (show ([13, 12, 11, 10, 9, 0, 1, 4, 5, 6, 7, 8] : List Nat).Nodup from by decide) (k_f_Law_areFree_326 O f d f v0 v4 v5 v6 v7 v8 (s0 + x1) x2 x3 x4 (0 : Int32) M4)
def f_Law_areFree_175 (O : Nat → Option va_E) (f : Nat) (K82 : Nat → Nat → Int32 → Int32 → Nat → Int32 → xM → Option (Int32 × xM)) (v0 : Nat) (v1 : Nat) (v2 : Int32) (v3 : Int32) (v4 : Nat) (v5 : Int32) (s0 : Nat) (s1 : Int32) (s2 : Nat) (M : xM) : Option (Int32 × xM) :=
  (wR O M s0 s1 s2).bind fun M1 =>
  (aR O M1 v4 v5).bind fun x1 =>
  (aI O M1 x1 (0 : Int32)).bind fun x2 =>
  (aR O M1 v4 v5).bind fun x3 =>
  (aI O M1 x3 (1 : Int32)).bind fun x4 =>
  (aR O M1 v4 v5).bind fun x5 =>
  (aI O M1 x5 (2 : Int32)).bind fun x6 =>
  (aR O M1 v4 v5).bind fun x7 =>
  (aI O M1 x7 (3 : Int32)).bind fun x8 =>
  (isO O M1 v0 12).bind fun _ =>
  xcl (f_Calendarhall_setPerson O f v0 v5 x2 x4 x6 x8 M1) fun x9 M2 =>
  K82 v0 v1 v2 v3 v4 (v5 + (1 : Int32)) M2
set_option maxRecDepth 20000 in
theorem k_f_Law_areFree_175 (O : Nat → Option va_E) (f d : Nat) (K82 : Nat → Nat → Int32 → Int32 → Nat → Int32 → xM → Option (Int32 × xM)) (hK82 : ∀ (v0 : Nat) (v1 : Nat) (v2 : Int32) (v3 : Int32) (v4 : Nat) (v5 : Int32) M, xZ oI O (d + 9) 145 82 [(0, .ref v0), (1, .ref v1), (2, .int v2), (3, .int v3), (4, .ref v4), (5, .int v5)] [] M (K82 v0 v1 v2 v3 v4 v5 M)) (v0 : Nat) (v1 : Nat) (v2 : Int32) (v3 : Int32) (v4 : Nat) (v5 : Int32) (s0 : Nat) (s1 : Int32) (s2 : Nat) (M : xM) : xZ oI O (d + 9) 145 175 [(0, .ref v0), (1, .ref v1), (2, .int v2), (3, .int v3), (4, .ref v4), (5, .int v5)] [.ref s2, .int s1, .ref s0] M (f_Law_areFree_175 O f K82 v0 v1 v2 v3 v4 v5 s0 s1 s2 M) := by
  unfold f_Law_areFree_175
  refine xZ.k_wR (me := xm145) hP_145 rfl (fun M1 => ?_)
  refine xZ.adv (me := xm145) hP_145 4 (pc' := 183) (lv' := [(0, .ref v0), (1, .ref v1), (2, .int v2), (3, .int v3), (4, .ref v4), (5, .int v5)]) (st' := [.int v5, .ref v4, .int v5, .ref v0]) rfl ?_
  refine xZ.k_aR (me := xm145) hP_145 rfl (fun x1 => ?_)
  refine xZ.adv (me := xm145) hP_145 1 (pc' := 185) (lv' := [(0, .ref v0), (1, .ref v1), (2, .int v2), (3, .int v3), (4, .ref v4), (5, .int v5)]) (st' := [.int (0 : Int32), .ref x1, .int v5, .ref v0]) rfl ?_
  refine xZ.k_aI (me := xm145) hP_145 rfl (fun x2 => ?_)
  refine xZ.adv (me := xm145) hP_145 2 (pc' := 190) (lv' := [(0, .ref v0), (1, .ref v1), (2, .int v2), (3, .int v3), (4, .ref v4), (5, .int v5)]) (st' := [.int v5, .ref v4, .int x2, .int v5, .ref v0]) rfl ?_
  refine xZ.k_aR (me := xm145) hP_145 rfl (fun x3 => ?_)
  refine xZ.adv (me := xm145) hP_145 1 (pc' := 192) (lv' := [(0, .ref v0), (1, .ref v1), (2, .int v2), (3, .int v3), (4, .ref v4), (5, .int v5)]) (st' := [.int (1 : Int32), .ref x3, .int x2, .int v5, .ref v0]) rfl ?_
  refine xZ.k_aI (me := xm145) hP_145 rfl (fun x4 => ?_)
  refine xZ.adv (me := xm145) hP_145 2 (pc' := 197) (lv' := [(0, .ref v0), (1, .ref v1), (2, .int v2), (3, .int v3), (4, .ref v4), (5, .int v5)]) (st' := [.int v5, .ref v4, .int x4, .int x2, .int v5, .ref v0]) rfl ?_
  refine xZ.k_aR (me := xm145) hP_145 rfl (fun x5 => ?_)
  refine xZ.adv (me := xm145) hP_145 1 (pc' := 199) (lv' := [(0, .ref v0), (1, .ref v1), (2, .int v2), (3, .int v3), (4, .ref v4), (5, .int v5)]) (st' := [.int (2 : Int32), .ref x5, .int x4, .int x2, .int v5, .ref v0]) rfl ?_
  refine xZ.k_aI (me := xm145) hP_145 rfl (fun x6 => ?_)
  refine xZ.adv (me := xm145) hP_145 2 (pc' := 204) (lv' := [(0, .ref v0), (1, .ref v1), (2, .int v2), (3, .int v3), (4, .ref v4), (5, .int v5)]) (st' := [.int v5, .ref v4, .int x6, .int x4, .int x2, .int v5, .ref v0]) rfl ?_
  refine xZ.k_aR (me := xm145) hP_145 rfl (fun x7 => ?_)
  refine xZ.adv (me := xm145) hP_145 1 (pc' := 206) (lv' := [(0, .ref v0), (1, .ref v1), (2, .int v2), (3, .int v3), (4, .ref v4), (5, .int v5)]) (st' := [.int (3 : Int32), .ref x7, .int x6, .int x4, .int x2, .int v5, .ref v0]) rfl ?_
  refine xZ.k_aI (me := xm145) hP_145 rfl (fun x8 => ?_)
  refine xZ.callv (κ := oI) (av := [.int v5, .int x2, .int x4, .int x6, .int x8]) (rest := []) (st' := fun x9 => [.int x9]) (k0 := v0) (me := xm145) hP_145 rfl (Or.inl rfl) ⟨rfl, by decide⟩ rfl rfl (Nat.le_of_ble_eq_true rfl) (by decide) hP_151 (Nat.le_of_ble_eq_true rfl) (fun _ => rfl) (k_f_Calendarhall_setPerson O f (d + 3) v0 v5 x2 x4 x6 x8 M1) (fun x9 M2 => ?_)
  refine xZ.adv (me := xm145) hP_145 3 (pc' := 82) (lv' := [(5, .int (v5 + (1 : Int32))), (0, .ref v0), (1, .ref v1), (2, .int v2), (3, .int v3), (4, .ref v4)]) (st' := []) rfl ?_
  exact xZ.sub (xsc (.tail _ (.head _)) (xsc (.tail _ (.tail _ (.head _))) (xsc (.tail _ (.tail _ (.tail _ (.head _)))) (xsc (.tail _ (.tail _ (.tail _ (.tail _ (.head _))))) (xsc (.tail _ (.tail _ (.tail _ (.tail _ (.tail _ (.head _)))))) (xsc (.head _) xsn)))))) (show ([5, 0, 1, 2, 3, 4] : List Nat).Nodup from by decide) (hK82 v0 v1 v2 v3 v4 (v5 + (1 : Int32)) M2)
def f_Law_areFree_82 (O : Nat → Option va_E) (f : Nat) : Nat → Nat → Nat → Int32 → Int32 → Nat → Int32 → xM → Option (Int32 × xM)
  | 0, _, _, _, _, _, _, _ => none
  | n + 1, v0, v1, v2, v3, v4, v5, M =>
    if (4 : Int32) ≤ v5 then (
      (isO O M v1 15).bind fun _ =>
      xcl (f_LDraw_n O f v1 (24 : Int32) M) fun x1 M1 =>
      xlet (((1440 : Int32) * v2) + ((60 : Int32) * x1)) fun x2 =>
      (isO O M1 v1 15).bind fun _ =>
      xcl (f_LDraw_n O f v1 (4320 : Int32) M1) fun x3 M2 =>
      xcl (nO M2 13) fun x4 M3 =>
      xcl (f_LDates_ctor O f x4 v0 v3 (x2 - (600 : Int32)) (x2 + ((1 : Int32) + x3)) M3) fun _ M4 =>
      (isO O M4 v1 15).bind fun _ =>
      xcl (f_LDraw_n O f v1 (15 : Int32) M4) fun x6 M5 =>
      (isO O M5 v1 15).bind fun _ =>
      xcl (f_LDraw_is O f v1 (2 : Int32) M5) fun x7 M6 =>
      if x7 = 0 then (
        f_Law_areFree_295 O f v0 v1 v4 x2 ((1 : Int32) + x3) x4 ((1 : Int32) + x6) (1 : Int32) v1 (90 : Int32) M6
      ) else
      f_Law_areFree_295 O f v0 v1 v4 x2 ((1 : Int32) + x3) x4 ((1 : Int32) + x6) (1 : Int32) v1 (600 : Int32) M6
    ) else
    (isO O M v1 15).bind fun _ =>
    xcl (f_LDraw_is O f v1 (2 : Int32) M) fun x8 M7 =>
    if x8 = 0 then (
      xcl (nA M7 0 (4 : Int32)) fun x9 M8 =>
      (isO O M8 v1 15).bind fun _ =>
      xcl (f_LDraw_n O f v1 (3 : Int32) M8) fun x10 M9 =>
      (wI M9 x9 (0 : Int32) x10).bind fun M10 =>
      (isO O M10 v1 15).bind fun _ =>
      xcl (f_LDraw_n O f v1 (128 : Int32) M10) fun x11 M11 =>
      (wI M11 x9 (1 : Int32) x11).bind fun M12 =>
      (isO O M12 v1 15).bind fun _ =>
      xcl (f_LDraw_n O f v1 (12 : Int32) M12) fun x12 M13 =>
      (wI M13 x9 (2 : Int32) ((60 : Int32) * x12)).bind fun M14 =>
      (isO O M14 v1 15).bind fun _ =>
      xcl (f_LDraw_n O f v1 (13 : Int32) M14) fun x13 M15 =>
      (wI M15 x9 (3 : Int32) ((60 : Int32) * ((12 : Int32) + x13))).bind fun M16 =>
      f_Law_areFree_175 O f (f_Law_areFree_82 O f n) v0 v1 v2 v3 v4 v5 v4 v5 x9 M16
    ) else
    xcl (nA M7 0 (4 : Int32)) fun x14 M17 =>
    (wI M17 x14 (0 : Int32) (0 : Int32)).bind fun M18 =>
    (wI M18 x14 (1 : Int32) (31 : Int32)).bind fun M19 =>
    (wI M19 x14 (2 : Int32) (540 : Int32)).bind fun M20 =>
    (wI M20 x14 (3 : Int32) (1020 : Int32)).bind fun M21 =>
    f_Law_areFree_175 O f (f_Law_areFree_82 O f n) v0 v1 v2 v3 v4 v5 v4 v5 x14 M21
set_option maxRecDepth 20000 in
theorem k_f_Law_areFree_82 (O : Nat → Option va_E) (f d : Nat) : ∀ (n : Nat) (v0 : Nat) (v1 : Nat) (v2 : Int32) (v3 : Int32) (v4 : Nat) (v5 : Int32) (M : xM), xZ oI O (d + 9) 145 82 [(0, .ref v0), (1, .ref v1), (2, .int v2), (3, .int v3), (4, .ref v4), (5, .int v5)] [] M (f_Law_areFree_82 O f n v0 v1 v2 v3 v4 v5 M) := by
  intro n
  induction n with
  | zero =>
    intro v0 v1 v2 v3 v4 v5 M
    exact xZ.no
  | succ n ih =>
    intro v0 v1 v2 v3 v4 v5 M
    unfold f_Law_areFree_82
    refine xZ.adv (me := xm145) hP_145 2 (pc' := 85) (lv' := [(0, .ref v0), (1, .ref v1), (2, .int v2), (3, .int v3), (4, .ref v4), (5, .int v5)]) (st' := [.int (4 : Int32), .int v5]) rfl ?_
    refine xZ.ic_ge (me := xm145) hP_145 rfl (fun h1 => ?_) (fun h1 => ?_)
    · skip
      refine xZ.adv (me := xm145) hP_145 6 (pc' := 227) (lv' := [(0, .ref v0), (1, .ref v1), (2, .int v2), (3, .int v3), (4, .ref v4), (5, .int v5)]) (st' := [.int (24 : Int32), .ref v1, .int (60 : Int32), .int ((1440 : Int32) * v2)]) rfl ?_
      refine xZ.callv (κ := oI) (av := [.int (24 : Int32)]) (rest := [.int (60 : Int32), .int ((1440 : Int32) * v2)]) (st' := fun x1 => [.int x1, .int (60 : Int32), .int ((1440 : Int32) * v2)]) (k0 := v1) (me := xm145) hP_145 rfl (Or.inl rfl) ⟨rfl, by decide⟩ rfl rfl (Nat.le_of_ble_eq_true rfl) (by decide) hP_12 (Nat.le_of_ble_eq_true rfl) (fun _ => rfl) (k_f_LDraw_n O f (d + 8) v1 (24 : Int32) M) (fun x1 M1 => ?_)
      refine xZ.adv (me := xm145) hP_145 3 (pc' := 234) (lv' := [(5, .int (((1440 : Int32) * v2) + ((60 : Int32) * x1))), (0, .ref v0), (1, .ref v1), (2, .int v2), (3, .int v3), (4, .ref v4)]) (st' := []) rfl ?_
      refine xZ.letI (v := (((1440 : Int32) * v2) + ((60 : Int32) * x1))) (lvf := fun x2 => [(5, .int x2), (0, .ref v0), (1, .ref v1), (2, .int v2), (3, .int v3), (4, .ref v4)]) (stf := fun x2 => []) ?_
      intro x2
      refine xZ.adv (me := xm145) hP_145 3 (pc' := 239) (lv' := [(5, .int x2), (0, .ref v0), (1, .ref v1), (2, .int v2), (3, .int v3), (4, .ref v4)]) (st' := [.int (4320 : Int32), .ref v1, .int (1 : Int32)]) rfl ?_
      refine xZ.callv (κ := oI) (av := [.int (4320 : Int32)]) (rest := [.int (1 : Int32)]) (st' := fun x3 => [.int x3, .int (1 : Int32)]) (k0 := v1) (me := xm145) hP_145 rfl (Or.inl rfl) ⟨rfl, by decide⟩ rfl rfl (Nat.le_of_ble_eq_true rfl) (by decide) hP_12 (Nat.le_of_ble_eq_true rfl) (fun _ => rfl) (k_f_LDraw_n O f (d + 8) v1 (4320 : Int32) M1) (fun x3 M2 => ?_)
      refine xZ.adv (me := xm145) hP_145 2 (pc' := 245) (lv' := [(6, .int ((1 : Int32) + x3)), (5, .int x2), (0, .ref v0), (1, .ref v1), (2, .int v2), (3, .int v3), (4, .ref v4)]) (st' := []) rfl ?_
      refine xZ.k_nO (me := xm145) hP_145 rfl rfl (fun x4 M3 => ?_)
      refine xZ.adv (me := xm145) hP_145 9 (pc' := 262) (lv' := [(6, .int ((1 : Int32) + x3)), (5, .int x2), (0, .ref v0), (1, .ref v1), (2, .int v2), (3, .int v3), (4, .ref v4)]) (st' := [.int (x2 + ((1 : Int32) + x3)), .int (x2 - (600 : Int32)), .int v3, .ref v0, .ref x4, .ref x4]) rfl ?_
      refine xZ.calli (κ := oU) (av := [.ref v0, .int v3, .int (x2 - (600 : Int32)), .int (x2 + ((1 : Int32) + x3))]) (rest := [.ref x4]) (st' := fun _ => [.ref x4]) (k0 := x4) (me := xm145) hP_145 rfl (Or.inl rfl) rfl rfl (Nat.le_of_ble_eq_true rfl) (by decide) hP_152 (Nat.le_of_ble_eq_true rfl) (fun _ => rfl) (k_f_LDates_ctor O f (d + 2) x4 v0 v3 (x2 - (600 : Int32)) (x2 + ((1 : Int32) + x3)) M3) (fun _ M4 => ?_)
      refine xZ.adv (me := xm145) hP_145 4 (pc' := 271) (lv' := [(7, .ref x4), (6, .int ((1 : Int32) + x3)), (5, .int x2), (0, .ref v0), (1, .ref v1), (2, .int v2), (3, .int v3), (4, .ref v4)]) (st' := [.int (15 : Int32), .ref v1, .int (1 : Int32)]) rfl ?_
      refine xZ.callv (κ := oI) (av := [.int (15 : Int32)]) (rest := [.int (1 : Int32)]) (st' := fun x6 => [.int x6, .int (1 : Int32)]) (k0 := v1) (me := xm145) hP_145 rfl (Or.inl rfl) ⟨rfl, by decide⟩ rfl rfl (Nat.le_of_ble_eq_true rfl) (by decide) hP_12 (Nat.le_of_ble_eq_true rfl) (fun _ => rfl) (k_f_LDraw_n O f (d + 8) v1 (15 : Int32) M4) (fun x6 M5 => ?_)
      refine xZ.adv (me := xm145) hP_145 6 (pc' := 281) (lv' := [(8, .int ((1 : Int32) + x6)), (7, .ref x4), (6, .int ((1 : Int32) + x3)), (5, .int x2), (0, .ref v0), (1, .ref v1), (2, .int v2), (3, .int v3), (4, .ref v4)]) (st' := [.int (2 : Int32), .ref v1, .ref v1, .int (1 : Int32)]) rfl ?_
      refine xZ.callv (κ := oI) (av := [.int (2 : Int32)]) (rest := [.ref v1, .int (1 : Int32)]) (st' := fun x7 => [.int x7, .ref v1, .int (1 : Int32)]) (k0 := v1) (me := xm145) hP_145 rfl (Or.inl rfl) ⟨rfl, by decide⟩ rfl rfl (Nat.le_of_ble_eq_true rfl) (by decide) hP_18 (Nat.le_of_ble_eq_true rfl) (fun _ => rfl) (k_f_LDraw_is O f (d + 7) v1 (2 : Int32) M5) (fun x7 M6 => ?_)
      refine xZ.if_eq (me := xm145) hP_145 rfl (fun h2 => ?_) (fun h2 => ?_)
      · skip
        refine xZ.adv (me := xm145) hP_145 1 (pc' := 295) (lv' := [(8, .int ((1 : Int32) + x6)), (7, .ref x4), (6, .int ((1 : Int32) + x3)), (5, .int x2), (0, .ref v0), (1, .ref v1), (2, .int v2), (3, .int v3), (4, .ref v4)]) (st' := [.int (90 : Int32), .ref v1, .int (1 : Int32)]) rfl ?_
        exact xZ.sub (xsc (.tail _ (.tail _ (.tail _ (.tail _ (.head _))))) (xsc (.tail _ (.tail _ (.tail _ (.tail _ (.tail _ (.head _)))))) (xsc (.tail _ (.tail _ (.tail _ (.tail _ (.tail _ (.tail _ (.tail _ (.tail _ (.head _))))))))) (xsc (.tail _ (.tail _ (.tail _ (.head _)))) (xsc (.tail _ (.tail _ (.head _))) (xsc (.tail _ (.head _)) (xsc (.head _) xsn))))))) (show ([8, 7, 6, 5, 0, 1, 2, 3, 4] : List Nat).Nodup from by decide) (k_f_Law_areFree_295 O f d v0 v1 v4 x2 ((1 : Int32) + x3) x4 ((1 : Int32) + x6) (1 : Int32) v1 (90 : Int32) M6)
      · skip
        refine xZ.adv (me := xm145) hP_145 2 (pc' := 295) (lv' := [(8, .int ((1 : Int32) + x6)), (7, .ref x4), (6, .int ((1 : Int32) + x3)), (5, .int x2), (0, .ref v0), (1, .ref v1), (2, .int v2), (3, .int v3), (4, .ref v4)]) (st' := [.int (600 : Int32), .ref v1, .int (1 : Int32)]) rfl ?_
        exact xZ.sub (xsc (.tail _ (.tail _ (.tail _ (.tail _ (.head _))))) (xsc (.tail _ (.tail _ (.tail _ (.tail _ (.tail _ (.head _)))))) (xsc (.tail _ (.tail _ (.tail _ (.tail _ (.tail _ (.tail _ (.tail _ (.tail _ (.head _))))))))) (xsc (.tail _ (.tail _ (.tail _ (.head _)))) (xsc (.tail _ (.tail _ (.head _))) (xsc (.tail _ (.head _)) (xsc (.head _) xsn))))))) (show ([8, 7, 6, 5, 0, 1, 2, 3, 4] : List Nat).Nodup from by decide) (k_f_Law_areFree_295 O f d v0 v1 v4 x2 ((1 : Int32) + x3) x4 ((1 : Int32) + x6) (1 : Int32) v1 (600 : Int32) M6)
    · skip
      refine xZ.adv (me := xm145) hP_145 4 (pc' := 94) (lv' := [(0, .ref v0), (1, .ref v1), (2, .int v2), (3, .int v3), (4, .ref v4), (5, .int v5)]) (st' := [.int (2 : Int32), .ref v1, .int v5, .ref v4]) rfl ?_
      refine xZ.callv (κ := oI) (av := [.int (2 : Int32)]) (rest := [.int v5, .ref v4]) (st' := fun x8 => [.int x8, .int v5, .ref v4]) (k0 := v1) (me := xm145) hP_145 rfl (Or.inl rfl) ⟨rfl, by decide⟩ rfl rfl (Nat.le_of_ble_eq_true rfl) (by decide) hP_18 (Nat.le_of_ble_eq_true rfl) (fun _ => rfl) (k_f_LDraw_is O f (d + 7) v1 (2 : Int32) M) (fun x8 M7 => ?_)
      refine xZ.if_eq (me := xm145) hP_145 rfl (fun h3 => ?_) (fun h3 => ?_)
      · skip
        refine xZ.adv (me := xm145) hP_145 1 (pc' := 128) (lv' := [(0, .ref v0), (1, .ref v1), (2, .int v2), (3, .int v3), (4, .ref v4), (5, .int v5)]) (st' := [.int (4 : Int32), .int v5, .ref v4]) rfl ?_
        refine xZ.k_nA (me := xm145) hP_145 rfl rfl (by decide) (fun x9 M8 => ?_)
        refine xZ.adv (me := xm145) hP_145 4 (pc' := 134) (lv' := [(0, .ref v0), (1, .ref v1), (2, .int v2), (3, .int v3), (4, .ref v4), (5, .int v5)]) (st' := [.int (3 : Int32), .ref v1, .int (0 : Int32), .ref x9, .ref x9, .int v5, .ref v4]) rfl ?_
        refine xZ.callv (κ := oI) (av := [.int (3 : Int32)]) (rest := [.int (0 : Int32), .ref x9, .ref x9, .int v5, .ref v4]) (st' := fun x10 => [.int x10, .int (0 : Int32), .ref x9, .ref x9, .int v5, .ref v4]) (k0 := v1) (me := xm145) hP_145 rfl (Or.inl rfl) ⟨rfl, by decide⟩ rfl rfl (Nat.le_of_ble_eq_true rfl) (by decide) hP_12 (Nat.le_of_ble_eq_true rfl) (fun _ => rfl) (k_f_LDraw_n O f (d + 8) v1 (3 : Int32) M8) (fun x10 M9 => ?_)
        refine xZ.k_wI (me := xm145) hP_145 rfl (fun M10 => ?_)
        refine xZ.adv (me := xm145) hP_145 4 (pc' := 144) (lv' := [(0, .ref v0), (1, .ref v1), (2, .int v2), (3, .int v3), (4, .ref v4), (5, .int v5)]) (st' := [.int (128 : Int32), .ref v1, .int (1 : Int32), .ref x9, .ref x9, .int v5, .ref v4]) rfl ?_
        refine xZ.callv (κ := oI) (av := [.int (128 : Int32)]) (rest := [.int (1 : Int32), .ref x9, .ref x9, .int v5, .ref v4]) (st' := fun x11 => [.int x11, .int (1 : Int32), .ref x9, .ref x9, .int v5, .ref v4]) (k0 := v1) (me := xm145) hP_145 rfl (Or.inl rfl) ⟨rfl, by decide⟩ rfl rfl (Nat.le_of_ble_eq_true rfl) (by decide) hP_12 (Nat.le_of_ble_eq_true rfl) (fun _ => rfl) (k_f_LDraw_n O f (d + 8) v1 (128 : Int32) M10) (fun x11 M11 => ?_)
        refine xZ.k_wI (me := xm145) hP_145 rfl (fun M12 => ?_)
        refine xZ.adv (me := xm145) hP_145 5 (pc' := 155) (lv' := [(0, .ref v0), (1, .ref v1), (2, .int v2), (3, .int v3), (4, .ref v4), (5, .int v5)]) (st' := [.int (12 : Int32), .ref v1, .int (60 : Int32), .int (2 : Int32), .ref x9, .ref x9, .int v5, .ref v4]) rfl ?_
        refine xZ.callv (κ := oI) (av := [.int (12 : Int32)]) (rest := [.int (60 : Int32), .int (2 : Int32), .ref x9, .ref x9, .int v5, .ref v4]) (st' := fun x12 => [.int x12, .int (60 : Int32), .int (2 : Int32), .ref x9, .ref x9, .int v5, .ref v4]) (k0 := v1) (me := xm145) hP_145 rfl (Or.inl rfl) ⟨rfl, by decide⟩ rfl rfl (Nat.le_of_ble_eq_true rfl) (by decide) hP_12 (Nat.le_of_ble_eq_true rfl) (fun _ => rfl) (k_f_LDraw_n O f (d + 8) v1 (12 : Int32) M12) (fun x12 M13 => ?_)
        refine xZ.adv (me := xm145) hP_145 1 (pc' := 159) (lv' := [(0, .ref v0), (1, .ref v1), (2, .int v2), (3, .int v3), (4, .ref v4), (5, .int v5)]) (st' := [.int ((60 : Int32) * x12), .int (2 : Int32), .ref x9, .ref x9, .int v5, .ref v4]) rfl ?_
        refine xZ.k_wI (me := xm145) hP_145 rfl (fun M14 => ?_)
        refine xZ.adv (me := xm145) hP_145 6 (pc' := 169) (lv' := [(0, .ref v0), (1, .ref v1), (2, .int v2), (3, .int v3), (4, .ref v4), (5, .int v5)]) (st' := [.int (13 : Int32), .ref v1, .int (12 : Int32), .int (60 : Int32), .int (3 : Int32), .ref x9, .ref x9, .int v5, .ref v4]) rfl ?_
        refine xZ.callv (κ := oI) (av := [.int (13 : Int32)]) (rest := [.int (12 : Int32), .int (60 : Int32), .int (3 : Int32), .ref x9, .ref x9, .int v5, .ref v4]) (st' := fun x13 => [.int x13, .int (12 : Int32), .int (60 : Int32), .int (3 : Int32), .ref x9, .ref x9, .int v5, .ref v4]) (k0 := v1) (me := xm145) hP_145 rfl (Or.inl rfl) ⟨rfl, by decide⟩ rfl rfl (Nat.le_of_ble_eq_true rfl) (by decide) hP_12 (Nat.le_of_ble_eq_true rfl) (fun _ => rfl) (k_f_LDraw_n O f (d + 8) v1 (13 : Int32) M14) (fun x13 M15 => ?_)
        refine xZ.adv (me := xm145) hP_145 2 (pc' := 174) (lv' := [(0, .ref v0), (1, .ref v1), (2, .int v2), (3, .int v3), (4, .ref v4), (5, .int v5)]) (st' := [.int ((60 : Int32) * ((12 : Int32) + x13)), .int (3 : Int32), .ref x9, .ref x9, .int v5, .ref v4]) rfl ?_
        refine xZ.k_wI (me := xm145) hP_145 rfl (fun M16 => ?_)
        exact (k_f_Law_areFree_175 O f d (f_Law_areFree_82 O f n) ih v0 v1 v2 v3 v4 v5 v4 v5 x9 M16)
      · skip
        refine xZ.adv (me := xm145) hP_145 1 (pc' := 101) (lv' := [(0, .ref v0), (1, .ref v1), (2, .int v2), (3, .int v3), (4, .ref v4), (5, .int v5)]) (st' := [.int (4 : Int32), .int v5, .ref v4]) rfl ?_
        refine xZ.k_nA (me := xm145) hP_145 rfl rfl (by decide) (fun x14 M17 => ?_)
        refine xZ.adv (me := xm145) hP_145 3 (pc' := 106) (lv' := [(0, .ref v0), (1, .ref v1), (2, .int v2), (3, .int v3), (4, .ref v4), (5, .int v5)]) (st' := [.int (0 : Int32), .int (0 : Int32), .ref x14, .ref x14, .int v5, .ref v4]) rfl ?_
        refine xZ.k_wI (me := xm145) hP_145 rfl (fun M18 => ?_)
        refine xZ.adv (me := xm145) hP_145 3 (pc' := 111) (lv' := [(0, .ref v0), (1, .ref v1), (2, .int v2), (3, .int v3), (4, .ref v4), (5, .int v5)]) (st' := [.int (31 : Int32), .int (1 : Int32), .ref x14, .ref x14, .int v5, .ref v4]) rfl ?_
        refine xZ.k_wI (me := xm145) hP_145 rfl (fun M19 => ?_)
        refine xZ.adv (me := xm145) hP_145 3 (pc' := 117) (lv' := [(0, .ref v0), (1, .ref v1), (2, .int v2), (3, .int v3), (4, .ref v4), (5, .int v5)]) (st' := [.int (540 : Int32), .int (2 : Int32), .ref x14, .ref x14, .int v5, .ref v4]) rfl ?_
        refine xZ.k_wI (me := xm145) hP_145 rfl (fun M20 => ?_)
        refine xZ.adv (me := xm145) hP_145 3 (pc' := 123) (lv' := [(0, .ref v0), (1, .ref v1), (2, .int v2), (3, .int v3), (4, .ref v4), (5, .int v5)]) (st' := [.int (1020 : Int32), .int (3 : Int32), .ref x14, .ref x14, .int v5, .ref v4]) rfl ?_
        refine xZ.k_wI (me := xm145) hP_145 rfl (fun M21 => ?_)
        refine xZ.adv (me := xm145) hP_145 1 (pc' := 175) (lv' := [(0, .ref v0), (1, .ref v1), (2, .int v2), (3, .int v3), (4, .ref v4), (5, .int v5)]) (st' := [.ref x14, .int v5, .ref v4]) rfl ?_
        exact (k_f_Law_areFree_175 O f d (f_Law_areFree_82 O f n) ih v0 v1 v2 v3 v4 v5 v4 v5 x14 M21)
def f_Law_areFree_13 (O : Nat → Option va_E) (f : Nat) : Nat → Nat → Nat → Int32 → Int32 → xM → Option (Int32 × xM)
  | 0, _, _, _, _, _ => none
  | n + 1, v0, v1, v2, v3, M =>
    if (3 : Int32) ≤ v3 then (
      (isO O M v1 15).bind fun _ =>
      xcl (f_LDraw_n O f v1 (8 : Int32) M) fun x1 M1 =>
      xcl (f_Law_series O f v0 v1 ((1 : Int32) + x1) (4 : Int32) v2 M1) fun x2 M2 =>
      xcl (nA M2 5 (4 : Int32)) fun x3 M3 =>
      f_Law_areFree_82 O f f v0 v1 v2 x2 x3 (0 : Int32) M3
    ) else
    (isO O M v1 15).bind fun _ =>
    xcl (f_LDraw_is O f v1 (2 : Int32) M) fun x4 M4 =>
    if x4 = 0 then (
      f_Law_areFree_13 O f n v0 v1 v2 (v3 + (1 : Int32)) M4
    ) else
    (isO O M4 v1 15).bind fun _ =>
    xcl (f_LDraw_n O f v1 (9 : Int32) M4) fun x5 M5 =>
    (isO O M5 v1 15).bind fun _ =>
    xcl (f_LDraw_n O f v1 (2 : Int32) M5) fun x6 M6 =>
    (isO O M6 v0 12).bind fun _ =>
    xcl (f_Calendarhall_setZone O f v0 v3 ((60 : Int32) * (x5 - (4 : Int32))) ((60 : Int32) * x6) M6) fun x7 M7 =>
    f_Law_areFree_13 O f n v0 v1 v2 (v3 + (1 : Int32)) M7
set_option maxRecDepth 20000 in
theorem k_f_Law_areFree_13 (O : Nat → Option va_E) (f d : Nat) : ∀ (n : Nat) (v0 : Nat) (v1 : Nat) (v2 : Int32) (v3 : Int32) (M : xM), xZ oI O (d + 9) 145 13 [(0, .ref v0), (1, .ref v1), (2, .int v2), (3, .int v3)] [] M (f_Law_areFree_13 O f n v0 v1 v2 v3 M) := by
  intro n
  induction n with
  | zero =>
    intro v0 v1 v2 v3 M
    exact xZ.no
  | succ n ih =>
    intro v0 v1 v2 v3 M
    unfold f_Law_areFree_13
    refine xZ.adv (me := xm145) hP_145 2 (pc' := 15) (lv' := [(0, .ref v0), (1, .ref v1), (2, .int v2), (3, .int v3)]) (st' := [.int (3 : Int32), .int v3]) rfl ?_
    refine xZ.ic_ge (me := xm145) hP_145 rfl (fun h1 => ?_) (fun h1 => ?_)
    · skip
      refine xZ.adv (me := xm145) hP_145 5 (pc' := 63) (lv' := [(0, .ref v0), (1, .ref v1), (2, .int v2), (3, .int v3)]) (st' := [.int (8 : Int32), .ref v1, .int (1 : Int32), .ref v1, .ref v0]) rfl ?_
      refine xZ.callv (κ := oI) (av := [.int (8 : Int32)]) (rest := [.int (1 : Int32), .ref v1, .ref v0]) (st' := fun x1 => [.int x1, .int (1 : Int32), .ref v1, .ref v0]) (k0 := v1) (me := xm145) hP_145 rfl (Or.inl rfl) ⟨rfl, by decide⟩ rfl rfl (Nat.le_of_ble_eq_true rfl) (by decide) hP_12 (Nat.le_of_ble_eq_true rfl) (fun _ => rfl) (k_f_LDraw_n O f (d + 8) v1 (8 : Int32) M) (fun x1 M1 => ?_)
      refine xZ.adv (me := xm145) hP_145 3 (pc' := 69) (lv' := [(0, .ref v0), (1, .ref v1), (2, .int v2), (3, .int v3)]) (st' := [.int v2, .int (4 : Int32), .int ((1 : Int32) + x1), .ref v1, .ref v0]) rfl ?_
      refine xZ.calls (κ := oI) (av := [.ref v0, .ref v1, .int ((1 : Int32) + x1), .int (4 : Int32), .int v2]) (rest := []) (st' := fun x2 => [.int x2]) (me := xm145) hP_145 rfl rfl rfl (Nat.le_of_ble_eq_true rfl) (by decide) hP_146 (Nat.le_of_ble_eq_true rfl) (fun _ => rfl) (k_f_Law_series O f (d + 0) v0 v1 ((1 : Int32) + x1) (4 : Int32) v2 M1) (fun x2 M2 => ?_)
      refine xZ.adv (me := xm145) hP_145 2 (pc' := 74) (lv' := [(3, .int x2), (0, .ref v0), (1, .ref v1), (2, .int v2)]) (st' := [.int (4 : Int32)]) rfl ?_
      refine xZ.nRr (me := xm145) hP_145 rfl (by decide) (fun x3 M3 => ?_)
      refine xZ.adv (me := xm145) hP_145 3 (pc' := 82) (lv' := [(5, .int (0 : Int32)), (4, .ref x3), (3, .int x2), (0, .ref v0), (1, .ref v1), (2, .int v2)]) (st' := []) rfl ?_
      exact xZ.sub (xsc (.tail _ (.tail _ (.tail _ (.head _)))) (xsc (.tail _ (.tail _ (.tail _ (.tail _ (.head _))))) (xsc (.tail _ (.tail _ (.tail _ (.tail _ (.tail _ (.head _)))))) (xsc (.tail _ (.tail _ (.head _))) (xsc (.tail _ (.head _)) (xsc (.head _) xsn)))))) (show ([5, 4, 3, 0, 1, 2] : List Nat).Nodup from by decide) (k_f_Law_areFree_82 O f d f v0 v1 v2 x2 x3 (0 : Int32) M3)
    · skip
      refine xZ.adv (me := xm145) hP_145 2 (pc' := 20) (lv' := [(0, .ref v0), (1, .ref v1), (2, .int v2), (3, .int v3)]) (st' := [.int (2 : Int32), .ref v1]) rfl ?_
      refine xZ.callv (κ := oI) (av := [.int (2 : Int32)]) (rest := []) (st' := fun x4 => [.int x4]) (k0 := v1) (me := xm145) hP_145 rfl (Or.inl rfl) ⟨rfl, by decide⟩ rfl rfl (Nat.le_of_ble_eq_true rfl) (by decide) hP_18 (Nat.le_of_ble_eq_true rfl) (fun _ => rfl) (k_f_LDraw_is O f (d + 7) v1 (2 : Int32) M) (fun x4 M4 => ?_)
      refine xZ.if_eq (me := xm145) hP_145 rfl (fun h2 => ?_) (fun h2 => ?_)
      · skip
        refine xZ.adv (me := xm145) hP_145 2 (pc' := 13) (lv' := [(3, .int (v3 + (1 : Int32))), (0, .ref v0), (1, .ref v1), (2, .int v2)]) (st' := []) rfl ?_
        exact xZ.sub (xsc (.tail _ (.head _)) (xsc (.tail _ (.tail _ (.head _))) (xsc (.tail _ (.tail _ (.tail _ (.head _)))) (xsc (.head _) xsn)))) (show ([3, 0, 1, 2] : List Nat).Nodup from by decide) (ih v0 v1 v2 (v3 + (1 : Int32)) M4)
      · skip
        refine xZ.adv (me := xm145) hP_145 5 (pc' := 33) (lv' := [(0, .ref v0), (1, .ref v1), (2, .int v2), (3, .int v3)]) (st' := [.int (9 : Int32), .ref v1, .int (60 : Int32), .int v3, .ref v0]) rfl ?_
        refine xZ.callv (κ := oI) (av := [.int (9 : Int32)]) (rest := [.int (60 : Int32), .int v3, .ref v0]) (st' := fun x5 => [.int x5, .int (60 : Int32), .int v3, .ref v0]) (k0 := v1) (me := xm145) hP_145 rfl (Or.inl rfl) ⟨rfl, by decide⟩ rfl rfl (Nat.le_of_ble_eq_true rfl) (by decide) hP_12 (Nat.le_of_ble_eq_true rfl) (fun _ => rfl) (k_f_LDraw_n O f (d + 8) v1 (9 : Int32) M4) (fun x5 M5 => ?_)
        refine xZ.adv (me := xm145) hP_145 6 (pc' := 43) (lv' := [(0, .ref v0), (1, .ref v1), (2, .int v2), (3, .int v3)]) (st' := [.int (2 : Int32), .ref v1, .int (60 : Int32), .int ((60 : Int32) * (x5 - (4 : Int32))), .int v3, .ref v0]) rfl ?_
        refine xZ.callv (κ := oI) (av := [.int (2 : Int32)]) (rest := [.int (60 : Int32), .int ((60 : Int32) * (x5 - (4 : Int32))), .int v3, .ref v0]) (st' := fun x6 => [.int x6, .int (60 : Int32), .int ((60 : Int32) * (x5 - (4 : Int32))), .int v3, .ref v0]) (k0 := v1) (me := xm145) hP_145 rfl (Or.inl rfl) ⟨rfl, by decide⟩ rfl rfl (Nat.le_of_ble_eq_true rfl) (by decide) hP_12 (Nat.le_of_ble_eq_true rfl) (fun _ => rfl) (k_f_LDraw_n O f (d + 8) v1 (2 : Int32) M5) (fun x6 M6 => ?_)
        refine xZ.adv (me := xm145) hP_145 1 (pc' := 47) (lv' := [(0, .ref v0), (1, .ref v1), (2, .int v2), (3, .int v3)]) (st' := [.int ((60 : Int32) * x6), .int ((60 : Int32) * (x5 - (4 : Int32))), .int v3, .ref v0]) rfl ?_
        refine xZ.callv (κ := oI) (av := [.int v3, .int ((60 : Int32) * (x5 - (4 : Int32))), .int ((60 : Int32) * x6)]) (rest := []) (st' := fun x7 => [.int x7]) (k0 := v0) (me := xm145) hP_145 rfl (Or.inl rfl) ⟨rfl, by decide⟩ rfl rfl (Nat.le_of_ble_eq_true rfl) (by decide) hP_19 (Nat.le_of_ble_eq_true rfl) (fun _ => rfl) (k_f_Calendarhall_setZone O f (d + 3) v0 v3 ((60 : Int32) * (x5 - (4 : Int32))) ((60 : Int32) * x6) M6) (fun x7 M7 => ?_)
        refine xZ.adv (me := xm145) hP_145 3 (pc' := 13) (lv' := [(3, .int (v3 + (1 : Int32))), (0, .ref v0), (1, .ref v1), (2, .int v2)]) (st' := []) rfl ?_
        exact xZ.sub (xsc (.tail _ (.head _)) (xsc (.tail _ (.tail _ (.head _))) (xsc (.tail _ (.tail _ (.tail _ (.head _)))) (xsc (.head _) xsn)))) (show ([3, 0, 1, 2] : List Nat).Nodup from by decide) (ih v0 v1 v2 (v3 + (1 : Int32)) M7)
def f_Law_areFree (O : Nat → Option va_E) (f : Nat) (v0 : Nat) (v1 : Nat) (M : xM) : Option (Int32 × xM) :=
  (isO O M v1 15).bind fun _ =>
  xcl (f_LDraw_n O f v1 (400 : Int32) M) fun x1 M1 =>
  f_Law_areFree_13 O f f v0 v1 ((100 : Int32) + x1) (0 : Int32) M1
set_option maxRecDepth 20000 in
theorem k_f_Law_areFree (O : Nat → Option va_E) (f d : Nat) (v0 : Nat) (v1 : Nat) (M : xM) : xZ oI O (d + 9) 145 0 [(0, .ref v0), (1, .ref v1)] [] M (f_Law_areFree O f v0 v1 M) := by
  unfold f_Law_areFree
  refine xZ.adv (me := xm145) hP_145 3 (pc' := 6) (lv' := [(0, .ref v0), (1, .ref v1)]) (st' := [.int (400 : Int32), .ref v1, .int (100 : Int32)]) rfl ?_
  refine xZ.callv (κ := oI) (av := [.int (400 : Int32)]) (rest := [.int (100 : Int32)]) (st' := fun x1 => [.int x1, .int (100 : Int32)]) (k0 := v1) (me := xm145) hP_145 rfl (Or.inl rfl) ⟨rfl, by decide⟩ rfl rfl (Nat.le_of_ble_eq_true rfl) (by decide) hP_12 (Nat.le_of_ble_eq_true rfl) (fun _ => rfl) (k_f_LDraw_n O f (d + 8) v1 (400 : Int32) M) (fun x1 M1 => ?_)
  refine xZ.adv (me := xm145) hP_145 4 (pc' := 13) (lv' := [(3, .int (0 : Int32)), (2, .int ((100 : Int32) + x1)), (0, .ref v0), (1, .ref v1)]) (st' := []) rfl ?_
  exact xZ.sub (xsc (.tail _ (.tail _ (.head _))) (xsc (.tail _ (.tail _ (.tail _ (.head _)))) (xsc (.tail _ (.head _)) (xsc (.head _) xsn)))) (show ([3, 2, 0, 1] : List Nat).Nodup from by decide) (k_f_Law_areFree_13 O f d f v0 v1 ((100 : Int32) + x1) (0 : Int32) M1)
