/-! ===== texts ===== -/
def f_Calendarhall_behindBusy (O : Nat → Option va_E) (f : Nat) (v0 : Nat) (v1 : Int32) (v2 : Int32) (M : xM) : Option (Int32 × xM) :=
  (gR O M v0 12 4).bind fun x1 =>
  (isO O M x1 2).bind fun _ =>
  xcl (f_Dates_onFrom O f x1 v1 M) fun x2 M1 =>
  if (v1 + v2) ≤ x2 then (
    some (v1, M1)
  ) else
  (gR O M1 v0 12 4).bind fun x3 =>
  (isO O M1 x3 2).bind fun _ =>
  xcl (f_Dates_offFrom O f x3 x2 M1) fun x4 M2 =>
  some (x4, M2)
set_option maxRecDepth 20000 in
theorem k_f_Calendarhall_behindBusy (O : Nat → Option va_E) (f d : Nat) (v0 : Nat) (v1 : Int32) (v2 : Int32) (M : xM) : xZ oI O (d + 4) 182 0 [(0, .ref v0), (1, .int v1), (2, .int v2)] [] M (f_Calendarhall_behindBusy O f v0 v1 v2 M) := by
  unfold f_Calendarhall_behindBusy
  refine xZ.adv (me := xm182) hP_182 1 (pc' := 1) (lv' := [(0, .ref v0), (1, .int v1), (2, .int v2)]) (st' := [.ref v0]) rfl ?_
  refine xZ.k_gR (me := xm182) hP_182 rfl (fun x1 => ?_)
  refine xZ.adv (me := xm182) hP_182 1 (pc' := 5) (lv' := [(0, .ref v0), (1, .int v1), (2, .int v2)]) (st' := [.int v1, .ref x1]) rfl ?_
  refine xZ.callv (κ := oI) (av := [.int v1]) (rest := []) (st' := fun x2 => [.int x2]) (k0 := x1) (me := xm182) hP_182 rfl (Or.inl rfl) ⟨rfl, by decide⟩ rfl rfl (Nat.le_of_ble_eq_true rfl) (by decide) hP_169 (Nat.le_of_ble_eq_true rfl) (fun _ => rfl) (k_f_Dates_onFrom O f (d + 0) x1 v1 M) (fun x2 M1 => ?_)
  refine xZ.adv (me := xm182) hP_182 5 (pc' := 13) (lv' := [(3, .int x2), (0, .ref v0), (1, .int v1), (2, .int v2)]) (st' := [.int (v1 + v2), .int x2]) rfl ?_
  refine xZ.ic_ge (me := xm182) hP_182 rfl (fun h1 => ?_) (fun h1 => ?_)
  · skip
    refine xZ.adv (me := xm182) hP_182 1 (pc' := 28) (lv' := [(3, .int x2), (0, .ref v0), (1, .int v1), (2, .int v2)]) (st' := [.int v1]) rfl ?_
    exact xZ.reti (me := xm182) hP_182 rfl rfl
  · skip
    refine xZ.adv (me := xm182) hP_182 1 (pc' := 17) (lv' := [(3, .int x2), (0, .ref v0), (1, .int v1), (2, .int v2)]) (st' := [.ref v0]) rfl ?_
    refine xZ.k_gR (me := xm182) hP_182 rfl (fun x3 => ?_)
    refine xZ.adv (me := xm182) hP_182 1 (pc' := 21) (lv' := [(3, .int x2), (0, .ref v0), (1, .int v1), (2, .int v2)]) (st' := [.int x2, .ref x3]) rfl ?_
    refine xZ.callv (κ := oI) (av := [.int x2]) (rest := []) (st' := fun x4 => [.int x4]) (k0 := x3) (me := xm182) hP_182 rfl (Or.inl rfl) ⟨rfl, by decide⟩ rfl rfl (Nat.le_of_ble_eq_true rfl) (by decide) hP_178 (Nat.le_of_ble_eq_true rfl) (fun _ => rfl) (k_f_Dates_offFrom O f (d + 0) x3 x2 M1) (fun x4 M2 => ?_)
    refine xZ.adv (me := xm182) hP_182 1 (pc' := 28) (lv' := [(3, .int x2), (0, .ref v0), (1, .int v1), (2, .int v2)]) (st' := [.int x4]) rfl ?_
    exact xZ.reti (me := xm182) hP_182 rfl rfl
def f_Calendarhall_behindIdle_3 (O : Nat → Option va_E) (f : Nat) : Nat → Nat → Int32 → Int32 → Int32 → Int32 → Int32 → xM → Option (Int32 × xM)
  | 0, _, _, _, _, _, _, _ => none
  | n + 1, v0, v1, v2, v3, v4, v5, M =>
    if (8 : Int32) ≤ v5 then (
      some (v2, M)
    ) else
    if ((v1 >>> (v5 &&& 31)) &&& (1 : Int32)) = 0 then (
      f_Calendarhall_behindIdle_3 O f n v0 v1 v2 v3 v4 (v5 + (1 : Int32)) M
    ) else
    (gR O M v0 12 0).bind fun x1 =>
    (isO O M x1 4).bind fun _ =>
    xcl (f_Hall_anyPerson O f x1 v5 M) fun x2 M1 =>
    (gR O M1 v0 12 0).bind fun x3 =>
    (gI O M1 x2 6 0).bind fun x4 =>
    (isO O M1 x3 4).bind fun _ =>
    xcl (f_Hall_anyZone O f x3 x4 M1) fun x5 M2 =>
    (isO O M2 x2 6).bind fun _ =>
    xcl (f_Person_idleFrom O f x2 x5 v2 v4 M2) fun x6 M3 =>
    if (v2 + v3) ≤ x6 then (
      f_Calendarhall_behindIdle_3 O f n v0 v1 v2 v3 v4 (v5 + (1 : Int32)) M3
    ) else
    (isO O M3 x2 6).bind fun _ =>
    xcl (f_Person_workFrom O f x2 x5 x6 v4 M3) fun x7 M4 =>
    some (x7, M4)
set_option maxRecDepth 20000 in
theorem k_f_Calendarhall_behindIdle_3 (O : Nat → Option va_E) (f d : Nat) : ∀ (n : Nat) (v0 : Nat) (v1 : Int32) (v2 : Int32) (v3 : Int32) (v4 : Int32) (v5 : Int32) (M : xM), xZ oI O (d + 5) 183 3 [(0, .ref v0), (1, .int v1), (2, .int v2), (3, .int v3), (4, .int v4), (5, .int v5)] [] M (f_Calendarhall_behindIdle_3 O f n v0 v1 v2 v3 v4 v5 M) := by
  intro n
  induction n with
  | zero =>
    intro v0 v1 v2 v3 v4 v5 M
    exact xZ.no
  | succ n ih =>
    intro v0 v1 v2 v3 v4 v5 M
    unfold f_Calendarhall_behindIdle_3
    refine xZ.adv (me := xm183) hP_183 2 (pc' := 7) (lv' := [(0, .ref v0), (1, .int v1), (2, .int v2), (3, .int v3), (4, .int v4), (5, .int v5)]) (st' := [.int (8 : Int32), .int v5]) rfl ?_
    refine xZ.ic_ge (me := xm183) hP_183 rfl (fun h1 => ?_) (fun h1 => ?_)
    · skip
      refine xZ.adv (me := xm183) hP_183 1 (pc' := 86) (lv' := [(0, .ref v0), (1, .int v1), (2, .int v2), (3, .int v3), (4, .int v4), (5, .int v5)]) (st' := [.int v2]) rfl ?_
      exact xZ.reti (me := xm183) hP_183 rfl rfl
    · skip
      refine xZ.adv (me := xm183) hP_183 5 (pc' := 16) (lv' := [(0, .ref v0), (1, .int v1), (2, .int v2), (3, .int v3), (4, .int v4), (5, .int v5)]) (st' := [.int ((v1 >>> (v5 &&& 31)) &&& (1 : Int32))]) rfl ?_
      refine xZ.if_ne (me := xm183) hP_183 rfl (fun h2 => ?_) (fun h2 => ?_)
      · skip
        refine xZ.adv (me := xm183) hP_183 3 (pc' := 3) (lv' := [(5, .int (v5 + (1 : Int32))), (0, .ref v0), (1, .int v1), (2, .int v2), (3, .int v3), (4, .int v4)]) (st' := []) rfl ?_
        exact xZ.sub (xsc (.tail _ (.head _)) (xsc (.tail _ (.tail _ (.head _))) (xsc (.tail _ (.tail _ (.tail _ (.head _)))) (xsc (.tail _ (.tail _ (.tail _ (.tail _ (.head _))))) (xsc (.tail _ (.tail _ (.tail _ (.tail _ (.tail _ (.head _)))))) (xsc (.head _) xsn)))))) (show ([5, 0, 1, 2, 3, 4] : List Nat).Nodup from by decide) (ih v0 v1 v2 v3 v4 (v5 + (1 : Int32)) M)
      · skip
        refine xZ.adv (me := xm183) hP_183 1 (pc' := 23) (lv' := [(0, .ref v0), (1, .int v1), (2, .int v2), (3, .int v3), (4, .int v4), (5, .int v5)]) (st' := [.ref v0]) rfl ?_
        refine xZ.k_gR (me := xm183) hP_183 rfl (fun x1 => ?_)
        refine xZ.adv (me := xm183) hP_183 1 (pc' := 28) (lv' := [(0, .ref v0), (1, .int v1), (2, .int v2), (3, .int v3), (4, .int v4), (5, .int v5)]) (st' := [.int v5, .ref x1]) rfl ?_
        refine xZ.callv (κ := oR) (av := [.int v5]) (rest := []) (st' := fun x2 => [.ref x2]) (k0 := x1) (me := xm183) hP_183 rfl (Or.inl rfl) ⟨rfl, by decide⟩ rfl rfl (Nat.le_of_ble_eq_true rfl) (by decide) hP_26 (Nat.le_of_ble_eq_true rfl) (fun _ => rfl) (k_f_Hall_anyPerson O f (d + 4) x1 v5 M) (fun x2 M1 => ?_)
        refine xZ.adv (me := xm183) hP_183 2 (pc' := 34) (lv' := [(6, .ref x2), (0, .ref v0), (1, .int v1), (2, .int v2), (3, .int v3), (4, .int v4), (5, .int v5)]) (st' := [.ref v0]) rfl ?_
        refine xZ.k_gR (me := xm183) hP_183 rfl (fun x3 => ?_)
        refine xZ.adv (me := xm183) hP_183 1 (pc' := 39) (lv' := [(6, .ref x2), (0, .ref v0), (1, .int v1), (2, .int v2), (3, .int v3), (4, .int v4), (5, .int v5)]) (st' := [.ref x2, .ref x3]) rfl ?_
        refine xZ.k_gI (me := xm183) hP_183 rfl (fun x4 => ?_)
        refine xZ.callv (κ := oR) (av := [.int x4]) (rest := []) (st' := fun x5 => [.ref x5]) (k0 := x3) (me := xm183) hP_183 rfl (Or.inl rfl) ⟨rfl, by decide⟩ rfl rfl (Nat.le_of_ble_eq_true rfl) (by decide) hP_21 (Nat.le_of_ble_eq_true rfl) (fun _ => rfl) (k_f_Hall_anyZone O f (d + 4) x3 x4 M1) (fun x5 M2 => ?_)
        refine xZ.adv (me := xm183) hP_183 5 (pc' := 54) (lv' := [(7, .ref x5), (6, .ref x2), (0, .ref v0), (1, .int v1), (2, .int v2), (3, .int v3), (4, .int v4), (5, .int v5)]) (st' := [.int v4, .int v2, .ref x5, .ref x2]) rfl ?_
        refine xZ.callv (κ := oI) (av := [.ref x5, .int v2, .int v4]) (rest := []) (st' := fun x6 => [.int x6]) (k0 := x2) (me := xm183) hP_183 rfl (Or.inl rfl) ⟨rfl, by decide⟩ rfl rfl (Nat.le_of_ble_eq_true rfl) (by decide) hP_179 (Nat.le_of_ble_eq_true rfl) (fun _ => rfl) (k_f_Person_idleFrom O f (d + 0) x2 x5 v2 v4 M2) (fun x6 M3 => ?_)
        refine xZ.adv (me := xm183) hP_183 5 (pc' := 64) (lv' := [(8, .int x6), (7, .ref x5), (6, .ref x2), (0, .ref v0), (1, .int v1), (2, .int v2), (3, .int v3), (4, .int v4), (5, .int v5)]) (st' := [.int (v2 + v3), .int x6]) rfl ?_
        refine xZ.ic_ge (me := xm183) hP_183 rfl (fun h3 => ?_) (fun h3 => ?_)
        · skip
          refine xZ.adv (me := xm183) hP_183 2 (pc' := 3) (lv' := [(5, .int (v5 + (1 : Int32))), (8, .int x6), (7, .ref x5), (6, .ref x2), (0, .ref v0), (1, .int v1), (2, .int v2), (3, .int v3), (4, .int v4)]) (st' := []) rfl ?_
          exact xZ.sub (xsc (.tail _ (.tail _ (.tail _ (.tail _ (.head _))))) (xsc (.tail _ (.tail _ (.tail _ (.tail _ (.tail _ (.head _)))))) (xsc (.tail _ (.tail _ (.tail _ (.tail _ (.tail _ (.tail _ (.head _))))))) (xsc (.tail _ (.tail _ (.tail _ (.tail _ (.tail _ (.tail _ (.tail _ (.head _)))))))) (xsc (.tail _ (.tail _ (.tail _ (.tail _ (.tail _ (.tail _ (.tail _ (.tail _ (.head _))))))))) (xsc (.head _) xsn)))))) (show ([5, 8, 7, 6, 0, 1, 2, 3, 4] : List Nat).Nodup from by decide) (ih v0 v1 v2 v3 v4 (v5 + (1 : Int32)) M3)
        · skip
          refine xZ.adv (me := xm183) hP_183 4 (pc' := 75) (lv' := [(8, .int x6), (7, .ref x5), (6, .ref x2), (0, .ref v0), (1, .int v1), (2, .int v2), (3, .int v3), (4, .int v4), (5, .int v5)]) (st' := [.int v4, .int x6, .ref x5, .ref x2]) rfl ?_
          refine xZ.callv (κ := oI) (av := [.ref x5, .int x6, .int v4]) (rest := []) (st' := fun x7 => [.int x7]) (k0 := x2) (me := xm183) hP_183 rfl (Or.inl rfl) ⟨rfl, by decide⟩ rfl rfl (Nat.le_of_ble_eq_true rfl) (by decide) hP_175 (Nat.le_of_ble_eq_true rfl) (fun _ => rfl) (k_f_Person_workFrom O f (d + 0) x2 x5 x6 v4 M3) (fun x7 M4 => ?_)
          exact xZ.reti (me := xm183) hP_183 rfl rfl
def f_Calendarhall_behindIdle (O : Nat → Option va_E) (f : Nat) (v0 : Nat) (v1 : Int32) (v2 : Int32) (v3 : Int32) (v4 : Int32) (M : xM) : Option (Int32 × xM) :=
  f_Calendarhall_behindIdle_3 O f f v0 v1 v2 v3 v4 (0 : Int32) M
set_option maxRecDepth 20000 in
theorem k_f_Calendarhall_behindIdle (O : Nat → Option va_E) (f d : Nat) (v0 : Nat) (v1 : Int32) (v2 : Int32) (v3 : Int32) (v4 : Int32) (M : xM) : xZ oI O (d + 5) 183 0 [(0, .ref v0), (1, .int v1), (2, .int v2), (3, .int v3), (4, .int v4)] [] M (f_Calendarhall_behindIdle O f v0 v1 v2 v3 v4 M) := by
  unfold f_Calendarhall_behindIdle
  refine xZ.adv (me := xm183) hP_183 2 (pc' := 3) (lv' := [(5, .int (0 : Int32)), (0, .ref v0), (1, .int v1), (2, .int v2), (3, .int v3), (4, .int v4)]) (st' := []) rfl ?_
  exact xZ.sub (xsc (.tail _ (.head _)) (xsc (.tail _ (.tail _ (.head _))) (xsc (.tail _ (.tail _ (.tail _ (.head _)))) (xsc (.tail _ (.tail _ (.tail _ (.tail _ (.head _))))) (xsc (.tail _ (.tail _ (.tail _ (.tail _ (.tail _ (.head _)))))) (xsc (.head _) xsn)))))) (show ([5, 0, 1, 2, 3, 4] : List Nat).Nodup from by decide) (k_f_Calendarhall_behindIdle_3 O f d f v0 v1 v2 v3 v4 (0 : Int32) M)
def f_Calendarhall_freeNext_103 (O : Nat → Option va_E) (f : Nat) (K52 : Nat → Int32 → Int32 → Int32 → Int32 → Int32 → Int32 → xM → Option (Int32 × xM)) (v0 : Nat) (v1 : Int32) (v3 : Int32) (v4 : Int32) (v5 : Int32) (v6 : Int32) (v7 : Int32) (v8 : Int32) (M : xM) : Option (Int32 × xM) :=
  if v8 = v6 then (
    some (v6, M)
  ) else
  K52 v0 v1 v3 v4 v5 v8 (v7 + (1 : Int32)) M
set_option maxRecDepth 20000 in
theorem k_f_Calendarhall_freeNext_103 (O : Nat → Option va_E) (f d : Nat) (K52 : Nat → Int32 → Int32 → Int32 → Int32 → Int32 → Int32 → xM → Option (Int32 × xM)) (hK52 : ∀ (v0 : Nat) (v1 : Int32) (v3 : Int32) (v4 : Int32) (v5 : Int32) (v6 : Int32) (v7 : Int32) M, xZ oI O (d + 7) 181 52 [(0, .ref v0), (1, .int v1), (3, .int v3), (4, .int v4), (5, .int v5), (6, .int v6), (7, .int v7)] [] M (K52 v0 v1 v3 v4 v5 v6 v7 M)) (v0 : Nat) (v1 : Int32) (v3 : Int32) (v4 : Int32) (v5 : Int32) (v6 : Int32) (v7 : Int32) (v8 : Int32) (M : xM) : xZ oI O (d + 7) 181 103 [(0, .ref v0), (1, .int v1), (3, .int v3), (4, .int v4), (5, .int v5), (6, .int v6), (7, .int v7), (8, .int v8)] [] M (f_Calendarhall_freeNext_103 O f K52 v0 v1 v3 v4 v5 v6 v7 v8 M) := by
  unfold f_Calendarhall_freeNext_103
  refine xZ.adv (me := xm181) hP_181 2 (pc' := 107) (lv' := [(0, .ref v0), (1, .int v1), (3, .int v3), (4, .int v4), (5, .int v5), (6, .int v6), (7, .int v7), (8, .int v8)]) (st' := [.int v6, .int v8]) rfl ?_
  refine xZ.ic_ne (me := xm181) hP_181 rfl (fun h1 => ?_) (fun h1 => ?_)
  · skip
    refine xZ.adv (me := xm181) hP_181 1 (pc' := 112) (lv' := [(0, .ref v0), (1, .int v1), (3, .int v3), (4, .int v4), (5, .int v5), (6, .int v6), (7, .int v7), (8, .int v8)]) (st' := [.int v6]) rfl ?_
    exact xZ.reti (me := xm181) hP_181 rfl rfl
  · skip
    refine xZ.adv (me := xm181) hP_181 4 (pc' := 52) (lv' := [(7, .int (v7 + (1 : Int32))), (6, .int v8), (0, .ref v0), (1, .int v1), (3, .int v3), (4, .int v4), (5, .int v5), (8, .int v8)]) (st' := []) rfl ?_
    exact xZ.sub (xsc (.tail _ (.tail _ (.head _))) (xsc (.tail _ (.tail _ (.tail _ (.head _)))) (xsc (.tail _ (.tail _ (.tail _ (.tail _ (.head _))))) (xsc (.tail _ (.tail _ (.tail _ (.tail _ (.tail _ (.head _)))))) (xsc (.tail _ (.tail _ (.tail _ (.tail _ (.tail _ (.tail _ (.head _))))))) (xsc (.tail _ (.head _)) (xsc (.head _) xsn))))))) (show ([7, 6, 0, 1, 3, 4, 5, 8] : List Nat).Nodup from by decide) (hK52 v0 v1 v3 v4 v5 v8 (v7 + (1 : Int32)) M)
def f_Calendarhall_freeNext_52 (O : Nat → Option va_E) (f : Nat) : Nat → Nat → Int32 → Int32 → Int32 → Int32 → Int32 → Int32 → xM → Option (Int32 × xM)
  | 0, _, _, _, _, _, _, _, _ => none
  | n + 1, v0, v1, v3, v4, v5, v6, v7, M =>
    if (20160 : Int32) < v7 then (
      some ((-1 : Int32), M)
    ) else
    if v3 < (v6 + v4) then (
      some ((-1 : Int32), M)
    ) else
    (isO O M v0 12).bind fun _ =>
    xcl (f_Calendarhall_behindBusy O f v0 v6 v4 M) fun x1 M1 =>
    if x1 = v6 then (
      if v5 = 0 then (
        f_Calendarhall_freeNext_103 O f (f_Calendarhall_freeNext_52 O f n) v0 v1 v3 v4 v5 v6 v7 x1 M1
      ) else
      (isO O M1 v0 12).bind fun _ =>
      xcl (f_Calendarhall_behindIdle O f v0 v1 v6 v4 v3 M1) fun x2 M2 =>
      f_Calendarhall_freeNext_103 O f (f_Calendarhall_freeNext_52 O f n) v0 v1 v3 v4 v5 v6 v7 x2 M2
    ) else
    f_Calendarhall_freeNext_103 O f (f_Calendarhall_freeNext_52 O f n) v0 v1 v3 v4 v5 v6 v7 x1 M1
set_option maxRecDepth 20000 in
theorem k_f_Calendarhall_freeNext_52 (O : Nat → Option va_E) (f d : Nat) : ∀ (n : Nat) (v0 : Nat) (v1 : Int32) (v3 : Int32) (v4 : Int32) (v5 : Int32) (v6 : Int32) (v7 : Int32) (M : xM), xZ oI O (d + 7) 181 52 [(0, .ref v0), (1, .int v1), (3, .int v3), (4, .int v4), (5, .int v5), (6, .int v6), (7, .int v7)] [] M (f_Calendarhall_freeNext_52 O f n v0 v1 v3 v4 v5 v6 v7 M) := by
  intro n
  induction n with
  | zero =>
    intro v0 v1 v3 v4 v5 v6 v7 M
    exact xZ.no
  | succ n ih =>
    intro v0 v1 v3 v4 v5 v6 v7 M
    unfold f_Calendarhall_freeNext_52
    refine xZ.adv (me := xm181) hP_181 2 (pc' := 57) (lv' := [(0, .ref v0), (1, .int v1), (3, .int v3), (4, .int v4), (5, .int v5), (6, .int v6), (7, .int v7)]) (st' := [.int (20160 : Int32), .int v7]) rfl ?_
    refine xZ.ic_gt (me := xm181) hP_181 rfl (fun h1 => ?_) (fun h1 => ?_)
    · skip
      refine xZ.adv (me := xm181) hP_181 1 (pc' := 124) (lv' := [(0, .ref v0), (1, .int v1), (3, .int v3), (4, .int v4), (5, .int v5), (6, .int v6), (7, .int v7)]) (st' := [.int (-1 : Int32)]) rfl ?_
      exact xZ.reti (me := xm181) hP_181 rfl rfl
    · skip
      refine xZ.adv (me := xm181) hP_181 4 (pc' := 66) (lv' := [(0, .ref v0), (1, .int v1), (3, .int v3), (4, .int v4), (5, .int v5), (6, .int v6), (7, .int v7)]) (st' := [.int v3, .int (v6 + v4)]) rfl ?_
      refine xZ.ic_gt (me := xm181) hP_181 rfl (fun h2 => ?_) (fun h2 => ?_)
      · skip
        refine xZ.adv (me := xm181) hP_181 1 (pc' := 124) (lv' := [(0, .ref v0), (1, .int v1), (3, .int v3), (4, .int v4), (5, .int v5), (6, .int v6), (7, .int v7)]) (st' := [.int (-1 : Int32)]) rfl ?_
        exact xZ.reti (me := xm181) hP_181 rfl rfl
      · skip
        refine xZ.adv (me := xm181) hP_181 3 (pc' := 74) (lv' := [(0, .ref v0), (1, .int v1), (3, .int v3), (4, .int v4), (5, .int v5), (6, .int v6), (7, .int v7)]) (st' := [.int v4, .int v6, .ref v0]) rfl ?_
        refine xZ.callv (κ := oI) (av := [.int v6, .int v4]) (rest := []) (st' := fun x1 => [.int x1]) (k0 := v0) (me := xm181) hP_181 rfl (Or.inl rfl) ⟨rfl, by decide⟩ rfl rfl (Nat.le_of_ble_eq_true rfl) (by decide) hP_182 (Nat.le_of_ble_eq_true rfl) (fun _ => rfl) (k_f_Calendarhall_behindBusy O f (d + 2) v0 v6 v4 M) (fun x1 M1 => ?_)
        refine xZ.adv (me := xm181) hP_181 3 (pc' := 83) (lv' := [(8, .int x1), (0, .ref v0), (1, .int v1), (3, .int v3), (4, .int v4), (5, .int v5), (6, .int v6), (7, .int v7)]) (st' := [.int v6, .int x1]) rfl ?_
        refine xZ.ic_ne (me := xm181) hP_181 rfl (fun h3 => ?_) (fun h3 => ?_)
        · skip
          refine xZ.adv (me := xm181) hP_181 1 (pc' := 88) (lv' := [(8, .int x1), (0, .ref v0), (1, .int v1), (3, .int v3), (4, .int v4), (5, .int v5), (6, .int v6), (7, .int v7)]) (st' := [.int v5]) rfl ?_
          refine xZ.if_eq (me := xm181) hP_181 rfl (fun h4 => ?_) (fun h4 => ?_)
          · skip
            exact xZ.sub (xsc (.tail _ (.head _)) (xsc (.tail _ (.tail _ (.head _))) (xsc (.tail _ (.tail _ (.tail _ (.head _)))) (xsc (.tail _ (.tail _ (.tail _ (.tail _ (.head _))))) (xsc (.tail _ (.tail _ (.tail _ (.tail _ (.tail _ (.head _)))))) (xsc (.tail _ (.tail _ (.tail _ (.tail _ (.tail _ (.tail _ (.head _))))))) (xsc (.tail _ (.tail _ (.tail _ (.tail _ (.tail _ (.tail _ (.tail _ (.head _)))))))) (xsc (.head _) xsn)))))))) (show ([8, 0, 1, 3, 4, 5, 6, 7] : List Nat).Nodup from by decide) (k_f_Calendarhall_freeNext_103 O f d (f_Calendarhall_freeNext_52 O f n) ih v0 v1 v3 v4 v5 v6 v7 x1 M1)
          · skip
            refine xZ.adv (me := xm181) hP_181 5 (pc' := 98) (lv' := [(8, .int x1), (0, .ref v0), (1, .int v1), (3, .int v3), (4, .int v4), (5, .int v5), (6, .int v6), (7, .int v7)]) (st' := [.int v3, .int v4, .int v6, .int v1, .ref v0]) rfl ?_
            refine xZ.callv (κ := oI) (av := [.int v1, .int v6, .int v4, .int v3]) (rest := []) (st' := fun x2 => [.int x2]) (k0 := v0) (me := xm181) hP_181 rfl (Or.inl rfl) ⟨rfl, by decide⟩ rfl rfl (Nat.le_of_ble_eq_true rfl) (by decide) hP_183 (Nat.le_of_ble_eq_true rfl) (fun _ => rfl) (k_f_Calendarhall_behindIdle O f (d + 1) v0 v1 v6 v4 v3 M1) (fun x2 M2 => ?_)
            refine xZ.adv (me := xm181) hP_181 1 (pc' := 103) (lv' := [(8, .int x2), (0, .ref v0), (1, .int v1), (3, .int v3), (4, .int v4), (5, .int v5), (6, .int v6), (7, .int v7)]) (st' := []) rfl ?_
            exact xZ.sub (xsc (.tail _ (.head _)) (xsc (.tail _ (.tail _ (.head _))) (xsc (.tail _ (.tail _ (.tail _ (.head _)))) (xsc (.tail _ (.tail _ (.tail _ (.tail _ (.head _))))) (xsc (.tail _ (.tail _ (.tail _ (.tail _ (.tail _ (.head _)))))) (xsc (.tail _ (.tail _ (.tail _ (.tail _ (.tail _ (.tail _ (.head _))))))) (xsc (.tail _ (.tail _ (.tail _ (.tail _ (.tail _ (.tail _ (.tail _ (.head _)))))))) (xsc (.head _) xsn)))))))) (show ([8, 0, 1, 3, 4, 5, 6, 7] : List Nat).Nodup from by decide) (k_f_Calendarhall_freeNext_103 O f d (f_Calendarhall_freeNext_52 O f n) ih v0 v1 v3 v4 v5 v6 v7 x2 M2)
        · skip
          exact xZ.sub (xsc (.tail _ (.head _)) (xsc (.tail _ (.tail _ (.head _))) (xsc (.tail _ (.tail _ (.tail _ (.head _)))) (xsc (.tail _ (.tail _ (.tail _ (.tail _ (.head _))))) (xsc (.tail _ (.tail _ (.tail _ (.tail _ (.tail _ (.head _)))))) (xsc (.tail _ (.tail _ (.tail _ (.tail _ (.tail _ (.tail _ (.head _))))))) (xsc (.tail _ (.tail _ (.tail _ (.tail _ (.tail _ (.tail _ (.tail _ (.head _)))))))) (xsc (.head _) xsn)))))))) (show ([8, 0, 1, 3, 4, 5, 6, 7] : List Nat).Nodup from by decide) (k_f_Calendarhall_freeNext_103 O f d (f_Calendarhall_freeNext_52 O f n) ih v0 v1 v3 v4 v5 v6 v7 x1 M1)
def f_Calendarhall_freeNext (O : Nat → Option va_E) (f : Nat) (v0 : Nat) (v1 : Int32) (v2 : Int32) (v3 : Int32) (v4 : Int32) (v5 : Int32) (M : xM) : Option (Int32 × xM) :=
  xcl (f_Calendarhall_needRange O f v1 (1 : Int32) (255 : Int32) M) fun _ M1 =>
  xcl (f_Calendarhall_needPiece O f v2 v3 (20160 : Int32) M1) fun _ M2 =>
  xcl (f_Calendarhall_needRange O f v4 (1 : Int32) (600 : Int32) M2) fun _ M3 =>
  (gR O M3 v0 12 0).bind fun x4 =>
  (gR O M3 v0 12 4).bind fun x5 =>
  (gR O M3 v0 12 0).bind fun x6 =>
  (isO O M3 x6 4).bind fun _ =>
  xcl (f_Hall_seriesOf O f x6 v1 M3) fun x7 M4 =>
  (isO O M4 x4 4).bind fun _ =>
  xcl (f_Hall_collectOn O f x4 x5 x7 v2 v3 M4) fun _ M5 =>
  f_Calendarhall_freeNext_52 O f f v0 v1 v3 v4 v5 v2 (0 : Int32) M5
set_option maxRecDepth 20000 in
theorem k_f_Calendarhall_freeNext (O : Nat → Option va_E) (f d : Nat) (v0 : Nat) (v1 : Int32) (v2 : Int32) (v3 : Int32) (v4 : Int32) (v5 : Int32) (M : xM) : xZ oI O (d + 7) 181 0 [(0, .ref v0), (1, .int v1), (2, .int v2), (3, .int v3), (4, .int v4), (5, .int v5)] [] M (f_Calendarhall_freeNext O f v0 v1 v2 v3 v4 v5 M) := by
  unfold f_Calendarhall_freeNext
  refine xZ.adv (me := xm181) hP_181 3 (pc' := 5) (lv' := [(0, .ref v0), (1, .int v1), (2, .int v2), (3, .int v3), (4, .int v4), (5, .int v5)]) (st' := [.int (255 : Int32), .int (1 : Int32), .int v1]) rfl ?_
  refine xZ.calls (κ := oU) (av := [.int v1, .int (1 : Int32), .int (255 : Int32)]) (rest := []) (st' := fun _ => []) (me := xm181) hP_181 rfl rfl rfl (Nat.le_of_ble_eq_true rfl) (by decide) hP_22 (Nat.le_of_ble_eq_true rfl) (fun _ => rfl) (k_f_Calendarhall_needRange O f (d + 6) v1 (1 : Int32) (255 : Int32) M) (fun _ M1 => ?_)
  refine xZ.adv (me := xm181) hP_181 3 (pc' := 13) (lv' := [(0, .ref v0), (1, .int v1), (2, .int v2), (3, .int v3), (4, .int v4), (5, .int v5)]) (st' := [.int (20160 : Int32), .int v3, .int v2]) rfl ?_
  refine xZ.calls (κ := oU) (av := [.int v2, .int v3, .int (20160 : Int32)]) (rest := []) (st' := fun _ => []) (me := xm181) hP_181 rfl rfl rfl (Nat.le_of_ble_eq_true rfl) (by decide) hP_114 (Nat.le_of_ble_eq_true rfl) (fun _ => rfl) (k_f_Calendarhall_needPiece O f (d + 5) v2 v3 (20160 : Int32) M1) (fun _ M2 => ?_)
  refine xZ.adv (me := xm181) hP_181 3 (pc' := 22) (lv' := [(0, .ref v0), (1, .int v1), (2, .int v2), (3, .int v3), (4, .int v4), (5, .int v5)]) (st' := [.int (600 : Int32), .int (1 : Int32), .int v4]) rfl ?_
  refine xZ.calls (κ := oU) (av := [.int v4, .int (1 : Int32), .int (600 : Int32)]) (rest := []) (st' := fun _ => []) (me := xm181) hP_181 rfl rfl rfl (Nat.le_of_ble_eq_true rfl) (by decide) hP_22 (Nat.le_of_ble_eq_true rfl) (fun _ => rfl) (k_f_Calendarhall_needRange O f (d + 6) v4 (1 : Int32) (600 : Int32) M2) (fun _ M3 => ?_)
  refine xZ.adv (me := xm181) hP_181 1 (pc' := 26) (lv' := [(0, .ref v0), (1, .int v1), (2, .int v2), (3, .int v3), (4, .int v4), (5, .int v5)]) (st' := [.ref v0]) rfl ?_
  refine xZ.k_gR (me := xm181) hP_181 rfl (fun x4 => ?_)
  refine xZ.adv (me := xm181) hP_181 1 (pc' := 30) (lv' := [(0, .ref v0), (1, .int v1), (2, .int v2), (3, .int v3), (4, .int v4), (5, .int v5)]) (st' := [.ref v0, .ref x4]) rfl ?_
  refine xZ.k_gR (me := xm181) hP_181 rfl (fun x5 => ?_)
  refine xZ.adv (me := xm181) hP_181 1 (pc' := 34) (lv' := [(0, .ref v0), (1, .int v1), (2, .int v2), (3, .int v3), (4, .int v4), (5, .int v5)]) (st' := [.ref v0, .ref x5, .ref x4]) rfl ?_
  refine xZ.k_gR (me := xm181) hP_181 rfl (fun x6 => ?_)
  refine xZ.adv (me := xm181) hP_181 1 (pc' := 38) (lv' := [(0, .ref v0), (1, .int v1), (2, .int v2), (3, .int v3), (4, .int v4), (5, .int v5)]) (st' := [.int v1, .ref x6, .ref x5, .ref x4]) rfl ?_
  refine xZ.callv (κ := oI) (av := [.int v1]) (rest := [.ref x5, .ref x4]) (st' := fun x7 => [.int x7, .ref x5, .ref x4]) (k0 := x6) (me := xm181) hP_181 rfl (Or.inl rfl) ⟨rfl, by decide⟩ rfl rfl (Nat.le_of_ble_eq_true rfl) (by decide) hP_158 (Nat.le_of_ble_eq_true rfl) (fun _ => rfl) (k_f_Hall_seriesOf O f (d + 5) x6 v1 M3) (fun x7 M4 => ?_)
  refine xZ.adv (me := xm181) hP_181 2 (pc' := 43) (lv' := [(0, .ref v0), (1, .int v1), (2, .int v2), (3, .int v3), (4, .int v4), (5, .int v5)]) (st' := [.int v3, .int v2, .int x7, .ref x5, .ref x4]) rfl ?_
  refine xZ.callv (κ := oU) (av := [.ref x5, .int x7, .int v2, .int v3]) (rest := []) (st' := fun _ => []) (k0 := x4) (me := xm181) hP_181 rfl (Or.inl rfl) ⟨rfl, by decide⟩ rfl rfl (Nat.le_of_ble_eq_true rfl) (by decide) hP_162 (Nat.le_of_ble_eq_true rfl) (fun _ => rfl) (k_f_Hall_collectOn O f (d + 0) x4 x5 x7 v2 v3 M4) (fun _ M5 => ?_)
  refine xZ.adv (me := xm181) hP_181 4 (pc' := 52) (lv' := [(7, .int (0 : Int32)), (6, .int v2), (0, .ref v0), (1, .int v1), (2, .int v2), (3, .int v3), (4, .int v4), (5, .int v5)]) (st' := []) rfl ?_
  exact xZ.sub (xsc (.tail _ (.tail _ (.head _))) (xsc (.tail _ (.tail _ (.tail _ (.head _)))) (xsc (.tail _ (.tail _ (.tail _ (.tail _ (.tail _ (.head _)))))) (xsc (.tail _ (.tail _ (.tail _ (.tail _ (.tail _ (.tail _ (.head _))))))) (xsc (.tail _ (.tail _ (.tail _ (.tail _ (.tail _ (.tail _ (.tail _ (.head _)))))))) (xsc (.tail _ (.head _)) (xsc (.head _) xsn))))))) (show ([7, 6, 0, 1, 2, 3, 4, 5] : List Nat).Nodup from by decide) (k_f_Calendarhall_freeNext_52 O f d f v0 v1 v3 v4 v5 v2 (0 : Int32) M5)
def f_Calendarhall_addCosts_112 (O : Nat → Option va_E) (f : Nat) (K28 : Nat → Nat → Int32 → Int32 → Int32 → Int32 → Nat → Int32 → Int32 → Int32 → Int32 → Int32 → xM → Option (Unit × xM)) (v0 : Nat) (v1 : Nat) (v2 : Int32) (v3 : Int32) (v4 : Int32) (v5 : Int32) (v6 : Nat) (v7 : Int32) (v8 : Int32) (v9 : Int32) (v10 : Int32) (v11 : Int32) (v12 : Int32) (M : xM) : Option (Unit × xM) :=
  if (v12 + v4) ≤ v7 then (
    if (v12 + v4) ≤ v9 then (
      K28 v0 v1 v2 v3 v4 v5 v6 v7 v8 v9 v10 (v11 + (1 : Int32)) M
    ) else
    (gR O M v0 12 9).bind fun x1 =>
    (aI O M x1 v11).bind fun x2 =>
    (wI M x1 v11 (x2 + (1 : Int32))).bind fun M1 =>
    K28 v0 v1 v2 v3 v4 v5 v6 v7 v8 v9 v10 (v11 + (1 : Int32)) M1
  ) else
  (gR O M v0 12 9).bind fun x3 =>
  (aI O M x3 v11).bind fun x4 =>
  (wI M x3 v11 (x4 + (3 : Int32))).bind fun M2 =>
  K28 v0 v1 v2 v3 v4 v5 v6 v7 v8 v9 v10 (v11 + (1 : Int32)) M2
set_option maxRecDepth 20000 in
theorem k_f_Calendarhall_addCosts_112 (O : Nat → Option va_E) (f d : Nat) (K28 : Nat → Nat → Int32 → Int32 → Int32 → Int32 → Nat → Int32 → Int32 → Int32 → Int32 → Int32 → xM → Option (Unit × xM)) (hK28 : ∀ (v0 : Nat) (v1 : Nat) (v2 : Int32) (v3 : Int32) (v4 : Int32) (v5 : Int32) (v6 : Nat) (v7 : Int32) (v8 : Int32) (v9 : Int32) (v10 : Int32) (v11 : Int32) M, xZ oU O (d + 5) 185 28 [(0, .ref v0), (1, .ref v1), (2, .int v2), (3, .int v3), (4, .int v4), (5, .int v5), (6, .ref v6), (7, .int v7), (8, .int v8), (9, .int v9), (10, .int v10), (11, .int v11)] [] M (K28 v0 v1 v2 v3 v4 v5 v6 v7 v8 v9 v10 v11 M)) (v0 : Nat) (v1 : Nat) (v2 : Int32) (v3 : Int32) (v4 : Int32) (v5 : Int32) (v6 : Nat) (v7 : Int32) (v8 : Int32) (v9 : Int32) (v10 : Int32) (v11 : Int32) (v12 : Int32) (M : xM) : xZ oU O (d + 5) 185 112 [(0, .ref v0), (1, .ref v1), (2, .int v2), (3, .int v3), (4, .int v4), (5, .int v5), (6, .ref v6), (7, .int v7), (8, .int v8), (9, .int v9), (10, .int v10), (11, .int v11), (12, .int v12)] [] M (f_Calendarhall_addCosts_112 O f K28 v0 v1 v2 v3 v4 v5 v6 v7 v8 v9 v10 v11 v12 M) := by
  unfold f_Calendarhall_addCosts_112
  refine xZ.adv (me := xm185) hP_185 4 (pc' := 119) (lv' := [(0, .ref v0), (1, .ref v1), (2, .int v2), (3, .int v3), (4, .int v4), (5, .int v5), (6, .ref v6), (7, .int v7), (8, .int v8), (9, .int v9), (10, .int v10), (11, .int v11), (12, .int v12)]) (st' := [.int (v12 + v4), .int v7]) rfl ?_
  refine xZ.ic_ge (me := xm185) hP_185 rfl (fun h1 => ?_) (fun h1 => ?_)
  · skip
    refine xZ.adv (me := xm185) hP_185 4 (pc' := 143) (lv' := [(0, .ref v0), (1, .ref v1), (2, .int v2), (3, .int v3), (4, .int v4), (5, .int v5), (6, .ref v6), (7, .int v7), (8, .int v8), (9, .int v9), (10, .int v10), (11, .int v11), (12, .int v12)]) (st' := [.int (v12 + v4), .int v9]) rfl ?_
    refine xZ.ic_ge (me := xm185) hP_185 rfl (fun h2 => ?_) (fun h2 => ?_)
    · skip
      refine xZ.adv (me := xm185) hP_185 2 (pc' := 28) (lv' := [(11, .int (v11 + (1 : Int32))), (0, .ref v0), (1, .ref v1), (2, .int v2), (3, .int v3), (4, .int v4), (5, .int v5), (6, .ref v6), (7, .int v7), (8, .int v8), (9, .int v9), (10, .int v10), (12, .int v12)]) (st' := []) rfl ?_
      exact xZ.sub (xsc (.tail _ (.head _)) (xsc (.tail _ (.tail _ (.head _))) (xsc (.tail _ (.tail _ (.tail _ (.head _)))) (xsc (.tail _ (.tail _ (.tail _ (.tail _ (.head _))))) (xsc (.tail _ (.tail _ (.tail _ (.tail _ (.tail _ (.head _)))))) (xsc (.tail _ (.tail _ (.tail _ (.tail _ (.tail _ (.tail _ (.head _))))))) (xsc (.tail _ (.tail _ (.tail _ (.tail _ (.tail _ (.tail _ (.tail _ (.head _)))))))) (xsc (.tail _ (.tail _ (.tail _ (.tail _ (.tail _ (.tail _ (.tail _ (.tail _ (.head _))))))))) (xsc (.tail _ (.tail _ (.tail _ (.tail _ (.tail _ (.tail _ (.tail _ (.tail _ (.tail _ (.head _)))))))))) (xsc (.tail _ (.tail _ (.tail _ (.tail _ (.tail _ (.tail _ (.tail _ (.tail _ (.tail _ (.tail _ (.head _))))))))))) (xsc (.tail _ (.tail _ (.tail _ (.tail _ (.tail _ (.tail _ (.tail _ (.tail _ (.tail _ (.tail _ (.tail _ (.head _)))))))))))) (xsc (.head _) xsn)))))))))))) (show ([11, 0, 1, 2, 3, 4, 5, 6, 7, 8, 9, 10, 12] : List Nat).Nodup from by decide) (hK28 v0 v1 v2 v3 v4 v5 v6 v7 v8 v9 v10 (v11 + (1 : Int32)) M)
    · skip
      refine xZ.adv (me := xm185) hP_185 1 (pc' := 147) (lv' := [(0, .ref v0), (1, .ref v1), (2, .int v2), (3, .int v3), (4, .int v4), (5, .int v5), (6, .ref v6), (7, .int v7), (8, .int v8), (9, .int v9), (10, .int v10), (11, .int v11), (12, .int v12)]) (st' := [.ref v0]) rfl ?_
      refine xZ.k_gR (me := xm185) hP_185 rfl (fun x1 => ?_)
      refine xZ.adv (me := xm185) hP_185 2 (pc' := 153) (lv' := [(0, .ref v0), (1, .ref v1), (2, .int v2), (3, .int v3), (4, .int v4), (5, .int v5), (6, .ref v6), (7, .int v7), (8, .int v8), (9, .int v9), (10, .int v10), (11, .int v11), (12, .int v12)]) (st' := [.int v11, .ref x1, .int v11, .ref x1]) rfl ?_
      refine xZ.k_aI (me := xm185) hP_185 rfl (fun x2 => ?_)
      refine xZ.adv (me := xm185) hP_185 2 (pc' := 156) (lv' := [(0, .ref v0), (1, .ref v1), (2, .int v2), (3, .int v3), (4, .int v4), (5, .int v5), (6, .ref v6), (7, .int v7), (8, .int v8), (9, .int v9), (10, .int v10), (11, .int v11), (12, .int v12)]) (st' := [.int (x2 + (1 : Int32)), .int v11, .ref x1]) rfl ?_
      refine xZ.k_wI (me := xm185) hP_185 rfl (fun M1 => ?_)
      refine xZ.adv (me := xm185) hP_185 2 (pc' := 28) (lv' := [(11, .int (v11 + (1 : Int32))), (0, .ref v0), (1, .ref v1), (2, .int v2), (3, .int v3), (4, .int v4), (5, .int v5), (6, .ref v6), (7, .int v7), (8, .int v8), (9, .int v9), (10, .int v10), (12, .int v12)]) (st' := []) rfl ?_
      exact xZ.sub (xsc (.tail _ (.head _)) (xsc (.tail _ (.tail _ (.head _))) (xsc (.tail _ (.tail _ (.tail _ (.head _)))) (xsc (.tail _ (.tail _ (.tail _ (.tail _ (.head _))))) (xsc (.tail _ (.tail _ (.tail _ (.tail _ (.tail _ (.head _)))))) (xsc (.tail _ (.tail _ (.tail _ (.tail _ (.tail _ (.tail _ (.head _))))))) (xsc (.tail _ (.tail _ (.tail _ (.tail _ (.tail _ (.tail _ (.tail _ (.head _)))))))) (xsc (.tail _ (.tail _ (.tail _ (.tail _ (.tail _ (.tail _ (.tail _ (.tail _ (.head _))))))))) (xsc (.tail _ (.tail _ (.tail _ (.tail _ (.tail _ (.tail _ (.tail _ (.tail _ (.tail _ (.head _)))))))))) (xsc (.tail _ (.tail _ (.tail _ (.tail _ (.tail _ (.tail _ (.tail _ (.tail _ (.tail _ (.tail _ (.head _))))))))))) (xsc (.tail _ (.tail _ (.tail _ (.tail _ (.tail _ (.tail _ (.tail _ (.tail _ (.tail _ (.tail _ (.tail _ (.head _)))))))))))) (xsc (.head _) xsn)))))))))))) (show ([11, 0, 1, 2, 3, 4, 5, 6, 7, 8, 9, 10, 12] : List Nat).Nodup from by decide) (hK28 v0 v1 v2 v3 v4 v5 v6 v7 v8 v9 v10 (v11 + (1 : Int32)) M1)
  · skip
    refine xZ.adv (me := xm185) hP_185 1 (pc' := 123) (lv' := [(0, .ref v0), (1, .ref v1), (2, .int v2), (3, .int v3), (4, .int v4), (5, .int v5), (6, .ref v6), (7, .int v7), (8, .int v8), (9, .int v9), (10, .int v10), (11, .int v11), (12, .int v12)]) (st' := [.ref v0]) rfl ?_
    refine xZ.k_gR (me := xm185) hP_185 rfl (fun x3 => ?_)
    refine xZ.adv (me := xm185) hP_185 2 (pc' := 129) (lv' := [(0, .ref v0), (1, .ref v1), (2, .int v2), (3, .int v3), (4, .int v4), (5, .int v5), (6, .ref v6), (7, .int v7), (8, .int v8), (9, .int v9), (10, .int v10), (11, .int v11), (12, .int v12)]) (st' := [.int v11, .ref x3, .int v11, .ref x3]) rfl ?_
    refine xZ.k_aI (me := xm185) hP_185 rfl (fun x4 => ?_)
    refine xZ.adv (me := xm185) hP_185 2 (pc' := 132) (lv' := [(0, .ref v0), (1, .ref v1), (2, .int v2), (3, .int v3), (4, .int v4), (5, .int v5), (6, .ref v6), (7, .int v7), (8, .int v8), (9, .int v9), (10, .int v10), (11, .int v11), (12, .int v12)]) (st' := [.int (x4 + (3 : Int32)), .int v11, .ref x3]) rfl ?_
    refine xZ.k_wI (me := xm185) hP_185 rfl (fun M2 => ?_)
    refine xZ.adv (me := xm185) hP_185 3 (pc' := 28) (lv' := [(11, .int (v11 + (1 : Int32))), (0, .ref v0), (1, .ref v1), (2, .int v2), (3, .int v3), (4, .int v4), (5, .int v5), (6, .ref v6), (7, .int v7), (8, .int v8), (9, .int v9), (10, .int v10), (12, .int v12)]) (st' := []) rfl ?_
    exact xZ.sub (xsc (.tail _ (.head _)) (xsc (.tail _ (.tail _ (.head _))) (xsc (.tail _ (.tail _ (.tail _ (.head _)))) (xsc (.tail _ (.tail _ (.tail _ (.tail _ (.head _))))) (xsc (.tail _ (.tail _ (.tail _ (.tail _ (.tail _ (.head _)))))) (xsc (.tail _ (.tail _ (.tail _ (.tail _ (.tail _ (.tail _ (.head _))))))) (xsc (.tail _ (.tail _ (.tail _ (.tail _ (.tail _ (.tail _ (.tail _ (.head _)))))))) (xsc (.tail _ (.tail _ (.tail _ (.tail _ (.tail _ (.tail _ (.tail _ (.tail _ (.head _))))))))) (xsc (.tail _ (.tail _ (.tail _ (.tail _ (.tail _ (.tail _ (.tail _ (.tail _ (.tail _ (.head _)))))))))) (xsc (.tail _ (.tail _ (.tail _ (.tail _ (.tail _ (.tail _ (.tail _ (.tail _ (.tail _ (.tail _ (.head _))))))))))) (xsc (.tail _ (.tail _ (.tail _ (.tail _ (.tail _ (.tail _ (.tail _ (.tail _ (.tail _ (.tail _ (.tail _ (.head _)))))))))))) (xsc (.head _) xsn)))))))))))) (show ([11, 0, 1, 2, 3, 4, 5, 6, 7, 8, 9, 10, 12] : List Nat).Nodup from by decide) (hK28 v0 v1 v2 v3 v4 v5 v6 v7 v8 v9 v10 (v11 + (1 : Int32)) M2)
def f_Calendarhall_addCosts_83 (O : Nat → Option va_E) (f : Nat) (K28 : Nat → Nat → Int32 → Int32 → Int32 → Int32 → Nat → Int32 → Int32 → Int32 → Int32 → Int32 → xM → Option (Unit × xM)) (v0 : Nat) (v1 : Nat) (v2 : Int32) (v3 : Int32) (v4 : Int32) (v5 : Int32) (v6 : Nat) (v7 : Int32) (v8 : Int32) (v9 : Int32) (v10 : Int32) (v11 : Int32) (v12 : Int32) (M : xM) : Option (Unit × xM) :=
  if v12 < v10 then (
    f_Calendarhall_addCosts_112 O f K28 v0 v1 v2 v3 v4 v5 v6 v7 v8 v9 v10 v11 v12 M
  ) else
  (isO O M v1 6).bind fun _ =>
  xcl (f_Person_idleFrom O f v1 v6 v12 v3 M) fun x1 M1 =>
  (isO O M1 v1 6).bind fun _ =>
  xcl (f_Person_workFrom O f v1 v6 x1 v3 M1) fun x2 M2 =>
  f_Calendarhall_addCosts_112 O f K28 v0 v1 v2 v3 v4 v5 v6 v7 v8 x1 x2 v11 v12 M2
set_option maxRecDepth 20000 in
theorem k_f_Calendarhall_addCosts_83 (O : Nat → Option va_E) (f d : Nat) (K28 : Nat → Nat → Int32 → Int32 → Int32 → Int32 → Nat → Int32 → Int32 → Int32 → Int32 → Int32 → xM → Option (Unit × xM)) (hK28 : ∀ (v0 : Nat) (v1 : Nat) (v2 : Int32) (v3 : Int32) (v4 : Int32) (v5 : Int32) (v6 : Nat) (v7 : Int32) (v8 : Int32) (v9 : Int32) (v10 : Int32) (v11 : Int32) M, xZ oU O (d + 5) 185 28 [(0, .ref v0), (1, .ref v1), (2, .int v2), (3, .int v3), (4, .int v4), (5, .int v5), (6, .ref v6), (7, .int v7), (8, .int v8), (9, .int v9), (10, .int v10), (11, .int v11)] [] M (K28 v0 v1 v2 v3 v4 v5 v6 v7 v8 v9 v10 v11 M)) (v0 : Nat) (v1 : Nat) (v2 : Int32) (v3 : Int32) (v4 : Int32) (v5 : Int32) (v6 : Nat) (v7 : Int32) (v8 : Int32) (v9 : Int32) (v10 : Int32) (v11 : Int32) (v12 : Int32) (M : xM) : xZ oU O (d + 5) 185 83 [(0, .ref v0), (1, .ref v1), (2, .int v2), (3, .int v3), (4, .int v4), (5, .int v5), (6, .ref v6), (7, .int v7), (8, .int v8), (9, .int v9), (10, .int v10), (11, .int v11), (12, .int v12)] [] M (f_Calendarhall_addCosts_83 O f K28 v0 v1 v2 v3 v4 v5 v6 v7 v8 v9 v10 v11 v12 M) := by
  unfold f_Calendarhall_addCosts_83
  refine xZ.adv (me := xm185) hP_185 2 (pc' := 87) (lv' := [(0, .ref v0), (1, .ref v1), (2, .int v2), (3, .int v3), (4, .int v4), (5, .int v5), (6, .ref v6), (7, .int v7), (8, .int v8), (9, .int v9), (10, .int v10), (11, .int v11), (12, .int v12)]) (st' := [.int v12, .int v10]) rfl ?_
  refine xZ.ic_gt (me := xm185) hP_185 rfl (fun h1 => ?_) (fun h1 => ?_)
  · skip
    exact (k_f_Calendarhall_addCosts_112 O f d K28 hK28 v0 v1 v2 v3 v4 v5 v6 v7 v8 v9 v10 v11 v12 M)
  · skip
    refine xZ.adv (me := xm185) hP_185 4 (pc' := 96) (lv' := [(0, .ref v0), (1, .ref v1), (2, .int v2), (3, .int v3), (4, .int v4), (5, .int v5), (6, .ref v6), (7, .int v7), (8, .int v8), (9, .int v9), (10, .int v10), (11, .int v11), (12, .int v12)]) (st' := [.int v3, .int v12, .ref v6, .ref v1]) rfl ?_
    refine xZ.callv (κ := oI) (av := [.ref v6, .int v12, .int v3]) (rest := []) (st' := fun x1 => [.int x1]) (k0 := v1) (me := xm185) hP_185 rfl (Or.inl rfl) ⟨rfl, by decide⟩ rfl rfl (Nat.le_of_ble_eq_true rfl) (by decide) hP_179 (Nat.le_of_ble_eq_true rfl) (fun _ => rfl) (k_f_Person_idleFrom O f (d + 0) v1 v6 v12 v3 M) (fun x1 M1 => ?_)
    refine xZ.adv (me := xm185) hP_185 5 (pc' := 107) (lv' := [(9, .int x1), (0, .ref v0), (1, .ref v1), (2, .int v2), (3, .int v3), (4, .int v4), (5, .int v5), (6, .ref v6), (7, .int v7), (8, .int v8), (10, .int v10), (11, .int v11), (12, .int v12)]) (st' := [.int v3, .int x1, .ref v6, .ref v1]) rfl ?_
    refine xZ.callv (κ := oI) (av := [.ref v6, .int x1, .int v3]) (rest := []) (st' := fun x2 => [.int x2]) (k0 := v1) (me := xm185) hP_185 rfl (Or.inl rfl) ⟨rfl, by decide⟩ rfl rfl (Nat.le_of_ble_eq_true rfl) (by decide) hP_175 (Nat.le_of_ble_eq_true rfl) (fun _ => rfl) (k_f_Person_workFrom O f (d + 0) v1 v6 x1 v3 M1) (fun x2 M2 => ?_)
    refine xZ.adv (me := xm185) hP_185 1 (pc' := 112) (lv' := [(10, .int x2), (9, .int x1), (0, .ref v0), (1, .ref v1), (2, .int v2), (3, .int v3), (4, .int v4), (5, .int v5), (6, .ref v6), (7, .int v7), (8, .int v8), (11, .int v11), (12, .int v12)]) (st' := []) rfl ?_
    exact xZ.sub (xsc (.tail _ (.tail _ (.head _))) (xsc (.tail _ (.tail _ (.tail _ (.head _)))) (xsc (.tail _ (.tail _ (.tail _ (.tail _ (.head _))))) (xsc (.tail _ (.tail _ (.tail _ (.tail _ (.tail _ (.head _)))))) (xsc (.tail _ (.tail _ (.tail _ (.tail _ (.tail _ (.tail _ (.head _))))))) (xsc (.tail _ (.tail _ (.tail _ (.tail _ (.tail _ (.tail _ (.tail _ (.head _)))))))) (xsc (.tail _ (.tail _ (.tail _ (.tail _ (.tail _ (.tail _ (.tail _ (.tail _ (.head _))))))))) (xsc (.tail _ (.tail _ (.tail _ (.tail _ (.tail _ (.tail _ (.tail _ (.tail _ (.tail _ (.head _)))))))))) (xsc (.tail _ (.tail _ (.tail _ (.tail _ (.tail _ (.tail _ (.tail _ (.tail _ (.tail _ (.tail _ (.head _))))))))))) (xsc (.tail _ (.head _)) (xsc (.head _) (xsc (.tail _ (.tail _ (.tail _ (.tail _ (.tail _ (.tail _ (.tail _ (.tail _ (.tail _ (.tail _ (.tail _ (.head _)))))))))))) (xsc (.tail _ (.tail _ (.tail _ (.tail _ (.tail _ (.tail _ (.tail _ (.tail _ (.tail _ (.tail _ (.tail _ (.tail _ (.head _))))))))))))) xsn))))))))))))) (show ([10, 9, 0, 1, 2, 3, 4, 5, 6, 7, 8, 11, 12] : List Nat).Nodup from by decide) (k_f_Calendarhall_addCosts_112 O f d K28 hK28 v0 v1 v2 v3 v4 v5 v6 v7 v8 x1 x2 v11 v12 M2)
def f_Calendarhall_addCosts_28 (O : Nat → Option va_E) (f : Nat) : Nat → Nat → Nat → Int32 → Int32 → Int32 → Int32 → Nat → Int32 → Int32 → Int32 → Int32 → Int32 → xM → Option (Unit × xM)
  | 0, _, _, _, _, _, _, _, _, _, _, _, _, _ => none
  | n + 1, v0, v1, v2, v3, v4, v5, v6, v7, v8, v9, v10, v11, M =>
    if v5 ≤ v11 then (
      some ((), M)
    ) else
    (gR O M v0 12 9).bind fun x1 =>
    (aN O M x1).bind fun x2 =>
    if x2 ≤ v11 then (
      some ((), M)
    ) else
    if (v2 + ((15 : Int32) * v11)) < v8 then (
      f_Calendarhall_addCosts_83 O f (f_Calendarhall_addCosts_28 O f n) v0 v1 v2 v3 v4 v5 v6 v7 v8 v9 v10 v11 (v2 + ((15 : Int32) * v11)) M
    ) else
    (gR O M v0 12 4).bind fun x3 =>
    (isO O M x3 2).bind fun _ =>
    xcl (f_Dates_onFrom O f x3 (v2 + ((15 : Int32) * v11)) M) fun x4 M1 =>
    (gR O M1 v0 12 4).bind fun x5 =>
    (isO O M1 x5 2).bind fun _ =>
    xcl (f_Dates_offFrom O f x5 x4 M1) fun x6 M2 =>
    f_Calendarhall_addCosts_83 O f (f_Calendarhall_addCosts_28 O f n) v0 v1 v2 v3 v4 v5 v6 x4 x6 v9 v10 v11 (v2 + ((15 : Int32) * v11)) M2
set_option maxRecDepth 20000 in
theorem k_f_Calendarhall_addCosts_28 (O : Nat → Option va_E) (f d : Nat) : ∀ (n : Nat) (v0 : Nat) (v1 : Nat) (v2 : Int32) (v3 : Int32) (v4 : Int32) (v5 : Int32) (v6 : Nat) (v7 : Int32) (v8 : Int32) (v9 : Int32) (v10 : Int32) (v11 : Int32) (M : xM), xZ oU O (d + 5) 185 28 [(0, .ref v0), (1, .ref v1), (2, .int v2), (3, .int v3), (4, .int v4), (5, .int v5), (6, .ref v6), (7, .int v7), (8, .int v8), (9, .int v9), (10, .int v10), (11, .int v11)] [] M (f_Calendarhall_addCosts_28 O f n v0 v1 v2 v3 v4 v5 v6 v7 v8 v9 v10 v11 M) := by
  intro n
  induction n with
  | zero =>
    intro v0 v1 v2 v3 v4 v5 v6 v7 v8 v9 v10 v11 M
    exact xZ.no
  | succ n ih =>
    intro v0 v1 v2 v3 v4 v5 v6 v7 v8 v9 v10 v11 M
    unfold f_Calendarhall_addCosts_28
    refine xZ.adv (me := xm185) hP_185 2 (pc' := 32) (lv' := [(0, .ref v0), (1, .ref v1), (2, .int v2), (3, .int v3), (4, .int v4), (5, .int v5), (6, .ref v6), (7, .int v7), (8, .int v8), (9, .int v9), (10, .int v10), (11, .int v11)]) (st' := [.int v5, .int v11]) rfl ?_
    refine xZ.ic_ge (me := xm185) hP_185 rfl (fun h1 => ?_) (fun h1 => ?_)
    · skip
      exact xZ.retu (me := xm185) hP_185 rfl rfl
    · skip
      refine xZ.adv (me := xm185) hP_185 2 (pc' := 38) (lv' := [(0, .ref v0), (1, .ref v1), (2, .int v2), (3, .int v3), (4, .int v4), (5, .int v5), (6, .ref v6), (7, .int v7), (8, .int v8), (9, .int v9), (10, .int v10), (11, .int v11)]) (st' := [.ref v0, .int v11]) rfl ?_
      refine xZ.k_gR (me := xm185) hP_185 rfl (fun x1 => ?_)
      refine xZ.k_aN (me := xm185) hP_185 rfl (fun x2 => ?_)
      refine xZ.ic_ge (me := xm185) hP_185 rfl (fun h2 => ?_) (fun h2 => ?_)
      · skip
        exact xZ.retu (me := xm185) hP_185 rfl rfl
      · skip
        refine xZ.adv (me := xm185) hP_185 8 (pc' := 58) (lv' := [(12, .int (v2 + ((15 : Int32) * v11))), (0, .ref v0), (1, .ref v1), (2, .int v2), (3, .int v3), (4, .int v4), (5, .int v5), (6, .ref v6), (7, .int v7), (8, .int v8), (9, .int v9), (10, .int v10), (11, .int v11)]) (st' := [.int (v2 + ((15 : Int32) * v11)), .int v8]) rfl ?_
        refine xZ.ic_gt (me := xm185) hP_185 rfl (fun h3 => ?_) (fun h3 => ?_)
        · skip
          exact xZ.sub (xsc (.tail _ (.head _)) (xsc (.tail _ (.tail _ (.head _))) (xsc (.tail _ (.tail _ (.tail _ (.head _)))) (xsc (.tail _ (.tail _ (.tail _ (.tail _ (.head _))))) (xsc (.tail _ (.tail _ (.tail _ (.tail _ (.tail _ (.head _)))))) (xsc (.tail _ (.tail _ (.tail _ (.tail _ (.tail _ (.tail _ (.head _))))))) (xsc (.tail _ (.tail _ (.tail _ (.tail _ (.tail _ (.tail _ (.tail _ (.head _)))))))) (xsc (.tail _ (.tail _ (.tail _ (.tail _ (.tail _ (.tail _ (.tail _ (.tail _ (.head _))))))))) (xsc (.tail _ (.tail _ (.tail _ (.tail _ (.tail _ (.tail _ (.tail _ (.tail _ (.tail _ (.head _)))))))))) (xsc (.tail _ (.tail _ (.tail _ (.tail _ (.tail _ (.tail _ (.tail _ (.tail _ (.tail _ (.tail _ (.head _))))))))))) (xsc (.tail _ (.tail _ (.tail _ (.tail _ (.tail _ (.tail _ (.tail _ (.tail _ (.tail _ (.tail _ (.tail _ (.head _)))))))))))) (xsc (.tail _ (.tail _ (.tail _ (.tail _ (.tail _ (.tail _ (.tail _ (.tail _ (.tail _ (.tail _ (.tail _ (.tail _ (.head _))))))))))))) (xsc (.head _) xsn))))))))))))) (show ([12, 0, 1, 2, 3, 4, 5, 6, 7, 8, 9, 10, 11] : List Nat).Nodup from by decide) (k_f_Calendarhall_addCosts_83 O f d (f_Calendarhall_addCosts_28 O f n) ih v0 v1 v2 v3 v4 v5 v6 v7 v8 v9 v10 v11 (v2 + ((15 : Int32) * v11)) M)
        · skip
          refine xZ.adv (me := xm185) hP_185 1 (pc' := 62) (lv' := [(12, .int (v2 + ((15 : Int32) * v11))), (0, .ref v0), (1, .ref v1), (2, .int v2), (3, .int v3), (4, .int v4), (5, .int v5), (6, .ref v6), (7, .int v7), (8, .int v8), (9, .int v9), (10, .int v10), (11, .int v11)]) (st' := [.ref v0]) rfl ?_
          refine xZ.k_gR (me := xm185) hP_185 rfl (fun x3 => ?_)
          refine xZ.adv (me := xm185) hP_185 1 (pc' := 67) (lv' := [(12, .int (v2 + ((15 : Int32) * v11))), (0, .ref v0), (1, .ref v1), (2, .int v2), (3, .int v3), (4, .int v4), (5, .int v5), (6, .ref v6), (7, .int v7), (8, .int v8), (9, .int v9), (10, .int v10), (11, .int v11)]) (st' := [.int (v2 + ((15 : Int32) * v11)), .ref x3]) rfl ?_
          refine xZ.callv (κ := oI) (av := [.int (v2 + ((15 : Int32) * v11))]) (rest := []) (st' := fun x4 => [.int x4]) (k0 := x3) (me := xm185) hP_185 rfl (Or.inl rfl) ⟨rfl, by decide⟩ rfl rfl (Nat.le_of_ble_eq_true rfl) (by decide) hP_169 (Nat.le_of_ble_eq_true rfl) (fun _ => rfl) (k_f_Dates_onFrom O f (d + 1) x3 (v2 + ((15 : Int32) * v11)) M) (fun x4 M1 => ?_)
          refine xZ.adv (me := xm185) hP_185 2 (pc' := 73) (lv' := [(7, .int x4), (12, .int (v2 + ((15 : Int32) * v11))), (0, .ref v0), (1, .ref v1), (2, .int v2), (3, .int v3), (4, .int v4), (5, .int v5), (6, .ref v6), (8, .int v8), (9, .int v9), (10, .int v10), (11, .int v11)]) (st' := [.ref v0]) rfl ?_
          refine xZ.k_gR (me := xm185) hP_185 rfl (fun x5 => ?_)
          refine xZ.adv (me := xm185) hP_185 1 (pc' := 78) (lv' := [(7, .int x4), (12, .int (v2 + ((15 : Int32) * v11))), (0, .ref v0), (1, .ref v1), (2, .int v2), (3, .int v3), (4, .int v4), (5, .int v5), (6, .ref v6), (8, .int v8), (9, .int v9), (10, .int v10), (11, .int v11)]) (st' := [.int x4, .ref x5]) rfl ?_
          refine xZ.callv (κ := oI) (av := [.int x4]) (rest := []) (st' := fun x6 => [.int x6]) (k0 := x5) (me := xm185) hP_185 rfl (Or.inl rfl) ⟨rfl, by decide⟩ rfl rfl (Nat.le_of_ble_eq_true rfl) (by decide) hP_178 (Nat.le_of_ble_eq_true rfl) (fun _ => rfl) (k_f_Dates_offFrom O f (d + 1) x5 x4 M1) (fun x6 M2 => ?_)
          refine xZ.adv (me := xm185) hP_185 1 (pc' := 83) (lv' := [(8, .int x6), (7, .int x4), (12, .int (v2 + ((15 : Int32) * v11))), (0, .ref v0), (1, .ref v1), (2, .int v2), (3, .int v3), (4, .int v4), (5, .int v5), (6, .ref v6), (9, .int v9), (10, .int v10), (11, .int v11)]) (st' := []) rfl ?_
          exact xZ.sub (xsc (.tail _ (.tail _ (.tail _ (.head _)))) (xsc (.tail _ (.tail _ (.tail _ (.tail _ (.head _))))) (xsc (.tail _ (.tail _ (.tail _ (.tail _ (.tail _ (.head _)))))) (xsc (.tail _ (.tail _ (.tail _ (.tail _ (.tail _ (.tail _ (.head _))))))) (xsc (.tail _ (.tail _ (.tail _ (.tail _ (.tail _ (.tail _ (.tail _ (.head _)))))))) (xsc (.tail _ (.tail _ (.tail _ (.tail _ (.tail _ (.tail _ (.tail _ (.tail _ (.head _))))))))) (xsc (.tail _ (.tail _ (.tail _ (.tail _ (.tail _ (.tail _ (.tail _ (.tail _ (.tail _ (.head _)))))))))) (xsc (.tail _ (.head _)) (xsc (.head _) (xsc (.tail _ (.tail _ (.tail _ (.tail _ (.tail _ (.tail _ (.tail _ (.tail _ (.tail _ (.tail _ (.head _))))))))))) (xsc (.tail _ (.tail _ (.tail _ (.tail _ (.tail _ (.tail _ (.tail _ (.tail _ (.tail _ (.tail _ (.tail _ (.head _)))))))))))) (xsc (.tail _ (.tail _ (.tail _ (.tail _ (.tail _ (.tail _ (.tail _ (.tail _ (.tail _ (.tail _ (.tail _ (.tail _ (.head _))))))))))))) (xsc (.tail _ (.tail _ (.head _))) xsn))))))))))))) (show ([8, 7, 12, 0, 1, 2, 3, 4, 5, 6, 9, 10, 11] : List Nat).Nodup from by decide) (k_f_Calendarhall_addCosts_83 O f d (f_Calendarhall_addCosts_28 O f n) ih v0 v1 v2 v3 v4 v5 v6 x4 x6 v9 v10 v11 (v2 + ((15 : Int32) * v11)) M2)
def f_Calendarhall_addCosts (O : Nat → Option va_E) (f : Nat) (v0 : Nat) (v1 : Nat) (v2 : Int32) (v3 : Int32) (v4 : Int32) (v5 : Int32) (M : xM) : Option (Unit × xM) :=
  (gR O M v0 12 0).bind fun x1 =>
  (gI O M v1 6 0).bind fun x2 =>
  (isO O M x1 4).bind fun _ =>
  xcl (f_Hall_anyZone O f x1 x2 M) fun x3 M1 =>
  f_Calendarhall_addCosts_28 O f f v0 v1 v2 v3 v4 v5 x3 v2 v2 v2 v2 (0 : Int32) M1
set_option maxRecDepth 20000 in
theorem k_f_Calendarhall_addCosts (O : Nat → Option va_E) (f d : Nat) (v0 : Nat) (v1 : Nat) (v2 : Int32) (v3 : Int32) (v4 : Int32) (v5 : Int32) (M : xM) : xZ oU O (d + 5) 185 0 [(0, .ref v0), (1, .ref v1), (2, .int v2), (3, .int v3), (4, .int v4), (5, .int v5)] [] M (f_Calendarhall_addCosts O f v0 v1 v2 v3 v4 v5 M) := by
  unfold f_Calendarhall_addCosts
  refine xZ.adv (me := xm185) hP_185 1 (pc' := 1) (lv' := [(0, .ref v0), (1, .ref v1), (2, .int v2), (3, .int v3), (4, .int v4), (5, .int v5)]) (st' := [.ref v0]) rfl ?_
  refine xZ.k_gR (me := xm185) hP_185 rfl (fun x1 => ?_)
  refine xZ.adv (me := xm185) hP_185 1 (pc' := 5) (lv' := [(0, .ref v0), (1, .ref v1), (2, .int v2), (3, .int v3), (4, .int v4), (5, .int v5)]) (st' := [.ref v1, .ref x1]) rfl ?_
  refine xZ.k_gI (me := xm185) hP_185 rfl (fun x2 => ?_)
  refine xZ.callv (κ := oR) (av := [.int x2]) (rest := []) (st' := fun x3 => [.ref x3]) (k0 := x1) (me := xm185) hP_185 rfl (Or.inl rfl) ⟨rfl, by decide⟩ rfl rfl (Nat.le_of_ble_eq_true rfl) (by decide) hP_21 (Nat.le_of_ble_eq_true rfl) (fun _ => rfl) (k_f_Hall_anyZone O f (d + 4) x1 x2 M) (fun x3 M1 => ?_)
  refine xZ.adv (me := xm185) hP_185 11 (pc' := 28) (lv' := [(11, .int (0 : Int32)), (10, .int v2), (9, .int v2), (8, .int v2), (7, .int v2), (6, .ref x3), (0, .ref v0), (1, .ref v1), (2, .int v2), (3, .int v3), (4, .int v4), (5, .int v5)]) (st' := []) rfl ?_
  exact xZ.sub (xsc (.tail _ (.tail _ (.tail _ (.tail _ (.tail _ (.tail _ (.head _))))))) (xsc (.tail _ (.tail _ (.tail _ (.tail _ (.tail _ (.tail _ (.tail _ (.head _)))))))) (xsc (.tail _ (.tail _ (.tail _ (.tail _ (.tail _ (.tail _ (.tail _ (.tail _ (.head _))))))))) (xsc (.tail _ (.tail _ (.tail _ (.tail _ (.tail _ (.tail _ (.tail _ (.tail _ (.tail _ (.head _)))))))))) (xsc (.tail _ (.tail _ (.tail _ (.tail _ (.tail _ (.tail _ (.tail _ (.tail _ (.tail _ (.tail _ (.head _))))))))))) (xsc (.tail _ (.tail _ (.tail _ (.tail _ (.tail _ (.tail _ (.tail _ (.tail _ (.tail _ (.tail _ (.tail _ (.head _)))))))))))) (xsc (.tail _ (.tail _ (.tail _ (.tail _ (.tail _ (.head _)))))) (xsc (.tail _ (.tail _ (.tail _ (.tail _ (.head _))))) (xsc (.tail _ (.tail _ (.tail _ (.head _)))) (xsc (.tail _ (.tail _ (.head _))) (xsc (.tail _ (.head _)) (xsc (.head _) xsn)))))))))))) (show ([11, 10, 9, 8, 7, 6, 0, 1, 2, 3, 4, 5] : List Nat).Nodup from by decide) (k_f_Calendarhall_addCosts_28 O f d f v0 v1 v2 v3 v4 v5 x3 v2 v2 v2 v2 (0 : Int32) M1)
def f_Calendarhall_best_157 (O : Nat → Option va_E) (f : Nat) : Nat → Nat → Int32 → Int32 → Int32 → Int32 → Int32 → xM → Option (Int32 × xM)
  | 0, _, _, _, _, _, _, _ => none
  | n + 1, v0, v2, v5, v6, v7, v8, M =>
    if v6 ≤ v8 then (
      if v5 = 0 then (
        some ((v2 + ((15 : Int32) * v7)), M)
      ) else
      (gR O M v0 12 9).bind fun x1 =>
      (aI O M x1 v7).bind fun x2 =>
      some (x2, M)
    ) else
    (gR O M v0 12 9).bind fun x3 =>
    (aI O M x3 v8).bind fun x4 =>
    (gR O M v0 12 9).bind fun x5 =>
    (aI O M x5 v7).bind fun x6 =>
    if x6 ≤ x4 then (
      f_Calendarhall_best_157 O f n v0 v2 v5 v6 v7 (v8 + (1 : Int32)) M
    ) else
    f_Calendarhall_best_157 O f n v0 v2 v5 v6 v8 (v8 + (1 : Int32)) M
set_option maxRecDepth 20000 in
theorem k_f_Calendarhall_best_157 (O : Nat → Option va_E) (f d : Nat) : ∀ (n : Nat) (v0 : Nat) (v2 : Int32) (v5 : Int32) (v6 : Int32) (v7 : Int32) (v8 : Int32) (M : xM), xZ oI O (d + 7) 184 157 [(0, .ref v0), (2, .int v2), (5, .int v5), (6, .int v6), (7, .int v7), (8, .int v8)] [] M (f_Calendarhall_best_157 O f n v0 v2 v5 v6 v7 v8 M) := by
  intro n
  induction n with
  | zero =>
    intro v0 v2 v5 v6 v7 v8 M
    exact xZ.no
  | succ n ih =>
    intro v0 v2 v5 v6 v7 v8 M
    unfold f_Calendarhall_best_157
    refine xZ.adv (me := xm184) hP_184 2 (pc' := 161) (lv' := [(0, .ref v0), (2, .int v2), (5, .int v5), (6, .int v6), (7, .int v7), (8, .int v8)]) (st' := [.int v6, .int v8]) rfl ?_
    refine xZ.ic_ge (me := xm184) hP_184 rfl (fun h1 => ?_) (fun h1 => ?_)
    · skip
      refine xZ.adv (me := xm184) hP_184 1 (pc' := 193) (lv' := [(0, .ref v0), (2, .int v2), (5, .int v5), (6, .int v6), (7, .int v7), (8, .int v8)]) (st' := [.int v5]) rfl ?_
      refine xZ.if_eq (me := xm184) hP_184 rfl (fun h2 => ?_) (fun h2 => ?_)
      · skip
        refine xZ.adv (me := xm184) hP_184 5 (pc' := 213) (lv' := [(0, .ref v0), (2, .int v2), (5, .int v5), (6, .int v6), (7, .int v7), (8, .int v8)]) (st' := [.int (v2 + ((15 : Int32) * v7))]) rfl ?_
        exact xZ.reti (me := xm184) hP_184 rfl rfl
      · skip
        refine xZ.adv (me := xm184) hP_184 1 (pc' := 197) (lv' := [(0, .ref v0), (2, .int v2), (5, .int v5), (6, .int v6), (7, .int v7), (8, .int v8)]) (st' := [.ref v0]) rfl ?_
        refine xZ.k_gR (me := xm184) hP_184 rfl (fun x1 => ?_)
        refine xZ.adv (me := xm184) hP_184 1 (pc' := 202) (lv' := [(0, .ref v0), (2, .int v2), (5, .int v5), (6, .int v6), (7, .int v7), (8, .int v8)]) (st' := [.int v7, .ref x1]) rfl ?_
        refine xZ.k_aI (me := xm184) hP_184 rfl (fun x2 => ?_)
        refine xZ.adv (me := xm184) hP_184 1 (pc' := 213) (lv' := [(0, .ref v0), (2, .int v2), (5, .int v5), (6, .int v6), (7, .int v7), (8, .int v8)]) (st' := [.int x2]) rfl ?_
        exact xZ.reti (me := xm184) hP_184 rfl rfl
    · skip
      refine xZ.adv (me := xm184) hP_184 1 (pc' := 165) (lv' := [(0, .ref v0), (2, .int v2), (5, .int v5), (6, .int v6), (7, .int v7), (8, .int v8)]) (st' := [.ref v0]) rfl ?_
      refine xZ.k_gR (me := xm184) hP_184 rfl (fun x3 => ?_)
      refine xZ.adv (me := xm184) hP_184 1 (pc' := 170) (lv' := [(0, .ref v0), (2, .int v2), (5, .int v5), (6, .int v6), (7, .int v7), (8, .int v8)]) (st' := [.int v8, .ref x3]) rfl ?_
      refine xZ.k_aI (me := xm184) hP_184 rfl (fun x4 => ?_)
      refine xZ.adv (me := xm184) hP_184 1 (pc' := 172) (lv' := [(0, .ref v0), (2, .int v2), (5, .int v5), (6, .int v6), (7, .int v7), (8, .int v8)]) (st' := [.ref v0, .int x4]) rfl ?_
      refine xZ.k_gR (me := xm184) hP_184 rfl (fun x5 => ?_)
      refine xZ.adv (me := xm184) hP_184 1 (pc' := 177) (lv' := [(0, .ref v0), (2, .int v2), (5, .int v5), (6, .int v6), (7, .int v7), (8, .int v8)]) (st' := [.int v7, .ref x5, .int x4]) rfl ?_
      refine xZ.k_aI (me := xm184) hP_184 rfl (fun x6 => ?_)
      refine xZ.ic_ge (me := xm184) hP_184 rfl (fun h3 => ?_) (fun h3 => ?_)
      · skip
        refine xZ.adv (me := xm184) hP_184 2 (pc' := 157) (lv' := [(8, .int (v8 + (1 : Int32))), (0, .ref v0), (2, .int v2), (5, .int v5), (6, .int v6), (7, .int v7)]) (st' := []) rfl ?_
        exact xZ.sub (xsc (.tail _ (.head _)) (xsc (.tail _ (.tail _ (.head _))) (xsc (.tail _ (.tail _ (.tail _ (.head _)))) (xsc (.tail _ (.tail _ (.tail _ (.tail _ (.head _))))) (xsc (.tail _ (.tail _ (.tail _ (.tail _ (.tail _ (.head _)))))) (xsc (.head _) xsn)))))) (show ([8, 0, 2, 5, 6, 7] : List Nat).Nodup from by decide) (ih v0 v2 v5 v6 v7 (v8 + (1 : Int32)) M)
      · skip
        refine xZ.adv (me := xm184) hP_184 4 (pc' := 157) (lv' := [(8, .int (v8 + (1 : Int32))), (7, .int v8), (0, .ref v0), (2, .int v2), (5, .int v5), (6, .int v6)]) (st' := []) rfl ?_
        exact xZ.sub (xsc (.tail _ (.tail _ (.head _))) (xsc (.tail _ (.tail _ (.tail _ (.head _)))) (xsc (.tail _ (.tail _ (.tail _ (.tail _ (.head _))))) (xsc (.tail _ (.tail _ (.tail _ (.tail _ (.tail _ (.head _)))))) (xsc (.tail _ (.head _)) (xsc (.head _) xsn)))))) (show ([8, 7, 0, 2, 5, 6] : List Nat).Nodup from by decide) (ih v0 v2 v5 v6 v8 (v8 + (1 : Int32)) M)
def f_Calendarhall_best_83 (O : Nat → Option va_E) (f : Nat) : Nat → Nat → Int32 → Int32 → Int32 → Int32 → Int32 → Int32 → Int32 → xM → Option (Int32 × xM)
  | 0, _, _, _, _, _, _, _, _, _ => none
  | n + 1, v0, v1, v2, v3, v4, v5, v6, v7, M =>
    if (8 : Int32) ≤ v7 then (
      f_Calendarhall_best_157 O f f v0 v2 v5 v6 (0 : Int32) (1 : Int32) M
    ) else
    if ((v1 >>> (v7 &&& 31)) &&& (1 : Int32)) = 0 then (
      f_Calendarhall_best_83 O f n v0 v1 v2 v3 v4 v5 v6 (v7 + (1 : Int32)) M
    ) else
    (gR O M v0 12 0).bind fun x1 =>
    (gR O M v0 12 4).bind fun x2 =>
    (gR O M v0 12 0).bind fun x3 =>
    (isO O M x3 4).bind fun _ =>
    xcl (f_Hall_seriesOf O f x3 ((1 : Int32) <<< (v7 &&& 31)) M) fun x4 M1 =>
    (isO O M1 x1 4).bind fun _ =>
    xcl (f_Hall_collectOn O f x1 x2 x4 v2 v3 M1) fun _ M2 =>
    (gR O M2 v0 12 0).bind fun x6 =>
    (isO O M2 x6 4).bind fun _ =>
    xcl (f_Hall_anyPerson O f x6 v7 M2) fun x7 M3 =>
    (isO O M3 v0 12).bind fun _ =>
    xcl (f_Calendarhall_addCosts O f v0 x7 v2 v3 v4 v6 M3) fun _ M4 =>
    f_Calendarhall_best_83 O f n v0 v1 v2 v3 v4 v5 v6 (v7 + (1 : Int32)) M4
set_option maxRecDepth 20000 in
theorem k_f_Calendarhall_best_83 (O : Nat → Option va_E) (f d : Nat) : ∀ (n : Nat) (v0 : Nat) (v1 : Int32) (v2 : Int32) (v3 : Int32) (v4 : Int32) (v5 : Int32) (v6 : Int32) (v7 : Int32) (M : xM), xZ oI O (d + 7) 184 83 [(0, .ref v0), (1, .int v1), (2, .int v2), (3, .int v3), (4, .int v4), (5, .int v5), (6, .int v6), (7, .int v7)] [] M (f_Calendarhall_best_83 O f n v0 v1 v2 v3 v4 v5 v6 v7 M) := by
  intro n
  induction n with
  | zero =>
    intro v0 v1 v2 v3 v4 v5 v6 v7 M
    exact xZ.no
  | succ n ih =>
    intro v0 v1 v2 v3 v4 v5 v6 v7 M
    unfold f_Calendarhall_best_83
    refine xZ.adv (me := xm184) hP_184 2 (pc' := 87) (lv' := [(0, .ref v0), (1, .int v1), (2, .int v2), (3, .int v3), (4, .int v4), (5, .int v5), (6, .int v6), (7, .int v7)]) (st' := [.int (8 : Int32), .int v7]) rfl ?_
    refine xZ.ic_ge (me := xm184) hP_184 rfl (fun h1 => ?_) (fun h1 => ?_)
    · skip
      refine xZ.adv (me := xm184) hP_184 4 (pc' := 157) (lv' := [(8, .int (1 : Int32)), (7, .int (0 : Int32)), (0, .ref v0), (1, .int v1), (2, .int v2), (3, .int v3), (4, .int v4), (5, .int v5), (6, .int v6)]) (st' := []) rfl ?_
      exact xZ.sub (xsc (.tail _ (.tail _ (.head _))) (xsc (.tail _ (.tail _ (.tail _ (.tail _ (.head _))))) (xsc (.tail _ (.tail _ (.tail _ (.tail _ (.tail _ (.tail _ (.tail _ (.head _)))))))) (xsc (.tail _ (.tail _ (.tail _ (.tail _ (.tail _ (.tail _ (.tail _ (.tail _ (.head _))))))))) (xsc (.tail _ (.head _)) (xsc (.head _) xsn)))))) (show ([8, 7, 0, 1, 2, 3, 4, 5, 6] : List Nat).Nodup from by decide) (k_f_Calendarhall_best_157 O f d f v0 v2 v5 v6 (0 : Int32) (1 : Int32) M)
    · skip
      refine xZ.adv (me := xm184) hP_184 5 (pc' := 96) (lv' := [(0, .ref v0), (1, .int v1), (2, .int v2), (3, .int v3), (4, .int v4), (5, .int v5), (6, .int v6), (7, .int v7)]) (st' := [.int ((v1 >>> (v7 &&& 31)) &&& (1 : Int32))]) rfl ?_
      refine xZ.if_ne (me := xm184) hP_184 rfl (fun h2 => ?_) (fun h2 => ?_)
      · skip
        refine xZ.adv (me := xm184) hP_184 3 (pc' := 83) (lv' := [(7, .int (v7 + (1 : Int32))), (0, .ref v0), (1, .int v1), (2, .int v2), (3, .int v3), (4, .int v4), (5, .int v5), (6, .int v6)]) (st' := []) rfl ?_
        exact xZ.sub (xsc (.tail _ (.head _)) (xsc (.tail _ (.tail _ (.head _))) (xsc (.tail _ (.tail _ (.tail _ (.head _)))) (xsc (.tail _ (.tail _ (.tail _ (.tail _ (.head _))))) (xsc (.tail _ (.tail _ (.tail _ (.tail _ (.tail _ (.head _)))))) (xsc (.tail _ (.tail _ (.tail _ (.tail _ (.tail _ (.tail _ (.head _))))))) (xsc (.tail _ (.tail _ (.tail _ (.tail _ (.tail _ (.tail _ (.tail _ (.head _)))))))) (xsc (.head _) xsn)))))))) (show ([7, 0, 1, 2, 3, 4, 5, 6] : List Nat).Nodup from by decide) (ih v0 v1 v2 v3 v4 v5 v6 (v7 + (1 : Int32)) M)
      · skip
        refine xZ.adv (me := xm184) hP_184 1 (pc' := 103) (lv' := [(0, .ref v0), (1, .int v1), (2, .int v2), (3, .int v3), (4, .int v4), (5, .int v5), (6, .int v6), (7, .int v7)]) (st' := [.ref v0]) rfl ?_
        refine xZ.k_gR (me := xm184) hP_184 rfl (fun x1 => ?_)
        refine xZ.adv (me := xm184) hP_184 1 (pc' := 107) (lv' := [(0, .ref v0), (1, .int v1), (2, .int v2), (3, .int v3), (4, .int v4), (5, .int v5), (6, .int v6), (7, .int v7)]) (st' := [.ref v0, .ref x1]) rfl ?_
        refine xZ.k_gR (me := xm184) hP_184 rfl (fun x2 => ?_)
        refine xZ.adv (me := xm184) hP_184 1 (pc' := 111) (lv' := [(0, .ref v0), (1, .int v1), (2, .int v2), (3, .int v3), (4, .int v4), (5, .int v5), (6, .int v6), (7, .int v7)]) (st' := [.ref v0, .ref x2, .ref x1]) rfl ?_
        refine xZ.k_gR (me := xm184) hP_184 rfl (fun x3 => ?_)
        refine xZ.adv (me := xm184) hP_184 3 (pc' := 118) (lv' := [(0, .ref v0), (1, .int v1), (2, .int v2), (3, .int v3), (4, .int v4), (5, .int v5), (6, .int v6), (7, .int v7)]) (st' := [.int ((1 : Int32) <<< (v7 &&& 31)), .ref x3, .ref x2, .ref x1]) rfl ?_
        refine xZ.callv (κ := oI) (av := [.int ((1 : Int32) <<< (v7 &&& 31))]) (rest := [.ref x2, .ref x1]) (st' := fun x4 => [.int x4, .ref x2, .ref x1]) (k0 := x3) (me := xm184) hP_184 rfl (Or.inl rfl) ⟨rfl, by decide⟩ rfl rfl (Nat.le_of_ble_eq_true rfl) (by decide) hP_158 (Nat.le_of_ble_eq_true rfl) (fun _ => rfl) (k_f_Hall_seriesOf O f (d + 5) x3 ((1 : Int32) <<< (v7 &&& 31)) M) (fun x4 M1 => ?_)
        refine xZ.adv (me := xm184) hP_184 2 (pc' := 123) (lv' := [(0, .ref v0), (1, .int v1), (2, .int v2), (3, .int v3), (4, .int v4), (5, .int v5), (6, .int v6), (7, .int v7)]) (st' := [.int v3, .int v2, .int x4, .ref x2, .ref x1]) rfl ?_
        refine xZ.callv (κ := oU) (av := [.ref x2, .int x4, .int v2, .int v3]) (rest := []) (st' := fun _ => []) (k0 := x1) (me := xm184) hP_184 rfl (Or.inl rfl) ⟨rfl, by decide⟩ rfl rfl (Nat.le_of_ble_eq_true rfl) (by decide) hP_162 (Nat.le_of_ble_eq_true rfl) (fun _ => rfl) (k_f_Hall_collectOn O f (d + 0) x1 x2 x4 v2 v3 M1) (fun _ M2 => ?_)
        refine xZ.adv (me := xm184) hP_184 2 (pc' := 128) (lv' := [(0, .ref v0), (1, .int v1), (2, .int v2), (3, .int v3), (4, .int v4), (5, .int v5), (6, .int v6), (7, .int v7)]) (st' := [.ref v0, .ref v0]) rfl ?_
        refine xZ.k_gR (me := xm184) hP_184 rfl (fun x6 => ?_)
        refine xZ.adv (me := xm184) hP_184 1 (pc' := 133) (lv' := [(0, .ref v0), (1, .int v1), (2, .int v2), (3, .int v3), (4, .int v4), (5, .int v5), (6, .int v6), (7, .int v7)]) (st' := [.int v7, .ref x6, .ref v0]) rfl ?_
        refine xZ.callv (κ := oR) (av := [.int v7]) (rest := [.ref v0]) (st' := fun x7 => [.ref x7, .ref v0]) (k0 := x6) (me := xm184) hP_184 rfl (Or.inl rfl) ⟨rfl, by decide⟩ rfl rfl (Nat.le_of_ble_eq_true rfl) (by decide) hP_26 (Nat.le_of_ble_eq_true rfl) (fun _ => rfl) (k_f_Hall_anyPerson O f (d + 6) x6 v7 M2) (fun x7 M3 => ?_)
        refine xZ.adv (me := xm184) hP_184 4 (pc' := 142) (lv' := [(0, .ref v0), (1, .int v1), (2, .int v2), (3, .int v3), (4, .int v4), (5, .int v5), (6, .int v6), (7, .int v7)]) (st' := [.int v6, .int v4, .int v3, .int v2, .ref x7, .ref v0]) rfl ?_
        refine xZ.callv (κ := oU) (av := [.ref x7, .int v2, .int v3, .int v4, .int v6]) (rest := []) (st' := fun _ => []) (k0 := v0) (me := xm184) hP_184 rfl (Or.inl rfl) ⟨rfl, by decide⟩ rfl rfl (Nat.le_of_ble_eq_true rfl) (by decide) hP_185 (Nat.le_of_ble_eq_true rfl) (fun _ => rfl) (k_f_Calendarhall_addCosts O f (d + 1) v0 x7 v2 v3 v4 v6 M3) (fun _ M4 => ?_)
        refine xZ.adv (me := xm184) hP_184 2 (pc' := 83) (lv' := [(7, .int (v7 + (1 : Int32))), (0, .ref v0), (1, .int v1), (2, .int v2), (3, .int v3), (4, .int v4), (5, .int v5), (6, .int v6)]) (st' := []) rfl ?_
        exact xZ.sub (xsc (.tail _ (.head _)) (xsc (.tail _ (.tail _ (.head _))) (xsc (.tail _ (.tail _ (.tail _ (.head _)))) (xsc (.tail _ (.tail _ (.tail _ (.tail _ (.head _))))) (xsc (.tail _ (.tail _ (.tail _ (.tail _ (.tail _ (.head _)))))) (xsc (.tail _ (.tail _ (.tail _ (.tail _ (.tail _ (.tail _ (.head _))))))) (xsc (.tail _ (.tail _ (.tail _ (.tail _ (.tail _ (.tail _ (.tail _ (.head _)))))))) (xsc (.head _) xsn)))))))) (show ([7, 0, 1, 2, 3, 4, 5, 6] : List Nat).Nodup from by decide) (ih v0 v1 v2 v3 v4 v5 v6 (v7 + (1 : Int32)) M4)
def f_Calendarhall_best_59 (O : Nat → Option va_E) (f : Nat) : Nat → Nat → Int32 → Int32 → Int32 → Int32 → Int32 → Int32 → Int32 → xM → Option (Int32 × xM)
  | 0, _, _, _, _, _, _, _, _, _ => none
  | n + 1, v0, v1, v2, v3, v4, v5, v6, v7, M =>
    if v6 ≤ v7 then (
      f_Calendarhall_best_83 O f f v0 v1 v2 v3 v4 v5 v6 (0 : Int32) M
    ) else
    (gR O M v0 12 9).bind fun x1 =>
    (wI M x1 v7 (0 : Int32)).bind fun M1 =>
    f_Calendarhall_best_59 O f n v0 v1 v2 v3 v4 v5 v6 (v7 + (1 : Int32)) M1
set_option maxRecDepth 20000 in
theorem k_f_Calendarhall_best_59 (O : Nat → Option va_E) (f d : Nat) : ∀ (n : Nat) (v0 : Nat) (v1 : Int32) (v2 : Int32) (v3 : Int32) (v4 : Int32) (v5 : Int32) (v6 : Int32) (v7 : Int32) (M : xM), xZ oI O (d + 7) 184 59 [(0, .ref v0), (1, .int v1), (2, .int v2), (3, .int v3), (4, .int v4), (5, .int v5), (6, .int v6), (7, .int v7)] [] M (f_Calendarhall_best_59 O f n v0 v1 v2 v3 v4 v5 v6 v7 M) := by
  intro n
  induction n with
  | zero =>
    intro v0 v1 v2 v3 v4 v5 v6 v7 M
    exact xZ.no
  | succ n ih =>
    intro v0 v1 v2 v3 v4 v5 v6 v7 M
    unfold f_Calendarhall_best_59
    refine xZ.adv (me := xm184) hP_184 2 (pc' := 63) (lv' := [(0, .ref v0), (1, .int v1), (2, .int v2), (3, .int v3), (4, .int v4), (5, .int v5), (6, .int v6), (7, .int v7)]) (st' := [.int v6, .int v7]) rfl ?_
    refine xZ.ic_ge (me := xm184) hP_184 rfl (fun h1 => ?_) (fun h1 => ?_)
    · skip
      refine xZ.adv (me := xm184) hP_184 2 (pc' := 83) (lv' := [(7, .int (0 : Int32)), (0, .ref v0), (1, .int v1), (2, .int v2), (3, .int v3), (4, .int v4), (5, .int v5), (6, .int v6)]) (st' := []) rfl ?_
      exact xZ.sub (xsc (.tail _ (.head _)) (xsc (.tail _ (.tail _ (.head _))) (xsc (.tail _ (.tail _ (.tail _ (.head _)))) (xsc (.tail _ (.tail _ (.tail _ (.tail _ (.head _))))) (xsc (.tail _ (.tail _ (.tail _ (.tail _ (.tail _ (.head _)))))) (xsc (.tail _ (.tail _ (.tail _ (.tail _ (.tail _ (.tail _ (.head _))))))) (xsc (.tail _ (.tail _ (.tail _ (.tail _ (.tail _ (.tail _ (.tail _ (.head _)))))))) (xsc (.head _) xsn)))))))) (show ([7, 0, 1, 2, 3, 4, 5, 6] : List Nat).Nodup from by decide) (k_f_Calendarhall_best_83 O f d f v0 v1 v2 v3 v4 v5 v6 (0 : Int32) M)
    · skip
      refine xZ.adv (me := xm184) hP_184 1 (pc' := 67) (lv' := [(0, .ref v0), (1, .int v1), (2, .int v2), (3, .int v3), (4, .int v4), (5, .int v5), (6, .int v6), (7, .int v7)]) (st' := [.ref v0]) rfl ?_
      refine xZ.k_gR (me := xm184) hP_184 rfl (fun x1 => ?_)
      refine xZ.adv (me := xm184) hP_184 2 (pc' := 73) (lv' := [(0, .ref v0), (1, .int v1), (2, .int v2), (3, .int v3), (4, .int v4), (5, .int v5), (6, .int v6), (7, .int v7)]) (st' := [.int (0 : Int32), .int v7, .ref x1]) rfl ?_
      refine xZ.k_wI (me := xm184) hP_184 rfl (fun M1 => ?_)
      refine xZ.adv (me := xm184) hP_184 2 (pc' := 59) (lv' := [(7, .int (v7 + (1 : Int32))), (0, .ref v0), (1, .int v1), (2, .int v2), (3, .int v3), (4, .int v4), (5, .int v5), (6, .int v6)]) (st' := []) rfl ?_
      exact xZ.sub (xsc (.tail _ (.head _)) (xsc (.tail _ (.tail _ (.head _))) (xsc (.tail _ (.tail _ (.tail _ (.head _)))) (xsc (.tail _ (.tail _ (.tail _ (.tail _ (.head _))))) (xsc (.tail _ (.tail _ (.tail _ (.tail _ (.tail _ (.head _)))))) (xsc (.tail _ (.tail _ (.tail _ (.tail _ (.tail _ (.tail _ (.head _))))))) (xsc (.tail _ (.tail _ (.tail _ (.tail _ (.tail _ (.tail _ (.tail _ (.head _)))))))) (xsc (.head _) xsn)))))))) (show ([7, 0, 1, 2, 3, 4, 5, 6] : List Nat).Nodup from by decide) (ih v0 v1 v2 v3 v4 v5 v6 (v7 + (1 : Int32)) M1)
def f_Calendarhall_best (O : Nat → Option va_E) (f : Nat) (v0 : Nat) (v1 : Int32) (v2 : Int32) (v3 : Int32) (v4 : Int32) (v5 : Int32) (M : xM) : Option (Int32 × xM) :=
  xcl (f_Calendarhall_needRange O f v1 (1 : Int32) (255 : Int32) M) fun _ M1 =>
  xcl (f_Calendarhall_needPiece O f v2 v3 (10080 : Int32) M1) fun _ M2 =>
  xcl (f_Calendarhall_needRange O f v4 (1 : Int32) (600 : Int32) M2) fun _ M3 =>
  if v4 ≤ (v3 - v2) then (
    (gR O M3 v0 12 9).bind fun x4 =>
    (aN O M3 x4).bind fun x5 =>
    xcl (f_Math_min O f ((((v3 - v2) - v4) / (15 : Int32)) + (1 : Int32)) x5 M3) fun x6 M4 =>
    f_Calendarhall_best_59 O f f v0 v1 v2 v3 v4 v5 x6 (0 : Int32) M4
  ) else
  some ((-1 : Int32), M3)
set_option maxRecDepth 20000 in
theorem k_f_Calendarhall_best (O : Nat → Option va_E) (f d : Nat) (v0 : Nat) (v1 : Int32) (v2 : Int32) (v3 : Int32) (v4 : Int32) (v5 : Int32) (M : xM) : xZ oI O (d + 7) 184 0 [(0, .ref v0), (1, .int v1), (2, .int v2), (3, .int v3), (4, .int v4), (5, .int v5)] [] M (f_Calendarhall_best O f v0 v1 v2 v3 v4 v5 M) := by
  unfold f_Calendarhall_best
  refine xZ.adv (me := xm184) hP_184 3 (pc' := 5) (lv' := [(0, .ref v0), (1, .int v1), (2, .int v2), (3, .int v3), (4, .int v4), (5, .int v5)]) (st' := [.int (255 : Int32), .int (1 : Int32), .int v1]) rfl ?_
  refine xZ.calls (κ := oU) (av := [.int v1, .int (1 : Int32), .int (255 : Int32)]) (rest := []) (st' := fun _ => []) (me := xm184) hP_184 rfl rfl rfl (Nat.le_of_ble_eq_true rfl) (by decide) hP_22 (Nat.le_of_ble_eq_true rfl) (fun _ => rfl) (k_f_Calendarhall_needRange O f (d + 6) v1 (1 : Int32) (255 : Int32) M) (fun _ M1 => ?_)
  refine xZ.adv (me := xm184) hP_184 3 (pc' := 13) (lv' := [(0, .ref v0), (1, .int v1), (2, .int v2), (3, .int v3), (4, .int v4), (5, .int v5)]) (st' := [.int (10080 : Int32), .int v3, .int v2]) rfl ?_
  refine xZ.calls (κ := oU) (av := [.int v2, .int v3, .int (10080 : Int32)]) (rest := []) (st' := fun _ => []) (me := xm184) hP_184 rfl rfl rfl (Nat.le_of_ble_eq_true rfl) (by decide) hP_114 (Nat.le_of_ble_eq_true rfl) (fun _ => rfl) (k_f_Calendarhall_needPiece O f (d + 5) v2 v3 (10080 : Int32) M1) (fun _ M2 => ?_)
  refine xZ.adv (me := xm184) hP_184 3 (pc' := 22) (lv' := [(0, .ref v0), (1, .int v1), (2, .int v2), (3, .int v3), (4, .int v4), (5, .int v5)]) (st' := [.int (600 : Int32), .int (1 : Int32), .int v4]) rfl ?_
  refine xZ.calls (κ := oU) (av := [.int v4, .int (1 : Int32), .int (600 : Int32)]) (rest := []) (st' := fun _ => []) (me := xm184) hP_184 rfl rfl rfl (Nat.le_of_ble_eq_true rfl) (by decide) hP_22 (Nat.le_of_ble_eq_true rfl) (fun _ => rfl) (k_f_Calendarhall_needRange O f (d + 6) v4 (1 : Int32) (600 : Int32) M2) (fun _ M3 => ?_)
  refine xZ.adv (me := xm184) hP_184 4 (pc' := 30) (lv' := [(0, .ref v0), (1, .int v1), (2, .int v2), (3, .int v3), (4, .int v4), (5, .int v5)]) (st' := [.int v4, .int (v3 - v2)]) rfl ?_
  refine xZ.ic_ge (me := xm184) hP_184 rfl (fun h1 => ?_) (fun h1 => ?_)
  · skip
    refine xZ.adv (me := xm184) hP_184 10 (pc' := 47) (lv' := [(0, .ref v0), (1, .int v1), (2, .int v2), (3, .int v3), (4, .int v4), (5, .int v5)]) (st' := [.ref v0, .int ((((v3 - v2) - v4) / (15 : Int32)) + (1 : Int32))]) rfl ?_
    refine xZ.k_gR (me := xm184) hP_184 rfl (fun x4 => ?_)
    refine xZ.k_aN (me := xm184) hP_184 rfl (fun x5 => ?_)
    refine xZ.calls (κ := oI) (av := [.int ((((v3 - v2) - v4) / (15 : Int32)) + (1 : Int32)), .int x5]) (rest := []) (st' := fun x6 => [.int x6]) (me := xm184) hP_184 rfl rfl rfl (Nat.le_of_ble_eq_true rfl) (by decide) hP_248 (Nat.le_of_ble_eq_true rfl) (fun _ => rfl) (k_f_Math_min O f (d + 6) ((((v3 - v2) - v4) / (15 : Int32)) + (1 : Int32)) x5 M3) (fun x6 M4 => ?_)
    refine xZ.adv (me := xm184) hP_184 3 (pc' := 59) (lv' := [(7, .int (0 : Int32)), (6, .int x6), (0, .ref v0), (1, .int v1), (2, .int v2), (3, .int v3), (4, .int v4), (5, .int v5)]) (st' := []) rfl ?_
    exact xZ.sub (xsc (.tail _ (.tail _ (.head _))) (xsc (.tail _ (.tail _ (.tail _ (.head _)))) (xsc (.tail _ (.tail _ (.tail _ (.tail _ (.head _))))) (xsc (.tail _ (.tail _ (.tail _ (.tail _ (.tail _ (.head _)))))) (xsc (.tail _ (.tail _ (.tail _ (.tail _ (.tail _ (.tail _ (.head _))))))) (xsc (.tail _ (.tail _ (.tail _ (.tail _ (.tail _ (.tail _ (.tail _ (.head _)))))))) (xsc (.tail _ (.head _)) (xsc (.head _) xsn)))))))) (show ([7, 6, 0, 1, 2, 3, 4, 5] : List Nat).Nodup from by decide) (k_f_Calendarhall_best_59 O f d f v0 v1 v2 v3 v4 v5 x6 (0 : Int32) M4)
  · skip
    refine xZ.adv (me := xm184) hP_184 1 (pc' := 34) (lv' := [(0, .ref v0), (1, .int v1), (2, .int v2), (3, .int v3), (4, .int v4), (5, .int v5)]) (st' := [.int (-1 : Int32)]) rfl ?_
    exact xZ.reti (me := xm184) hP_184 rfl rfl
def f_Law_areFree_13 (O : Nat → Option va_E) (f : Nat) : Nat → Nat → Nat → Int32 → Int32 → xM → Option (Int32 × xM)
  | 0, _, _, _, _, _ => none
  | n + 1, v0, v1, v2, v3, M =>
    if (3 : Int32) ≤ v3 then (
      (isO O M v1 15).bind fun _ =>
      xcl (f_LDraw_n O f v1 (8 : Int32) M) fun x1 M1 =>
      xcl (f_Law_series O f v0 v1 ((1 : Int32) + x1) (4 : Int32) v2 M1) fun x2 M2 =>
      none
    ) else
    (isO O M v1 15).bind fun _ =>
    xcl (f_LDraw_is O f v1 (2 : Int32) M) fun x3 M3 =>
    if x3 = 0 then (
      f_Law_areFree_13 O f n v0 v1 v2 (v3 + (1 : Int32)) M3
    ) else
    (isO O M3 v1 15).bind fun _ =>
    xcl (f_LDraw_n O f v1 (9 : Int32) M3) fun x4 M4 =>
    (isO O M4 v1 15).bind fun _ =>
    xcl (f_LDraw_n O f v1 (2 : Int32) M4) fun x5 M5 =>
    (isO O M5 v0 12).bind fun _ =>
    xcl (f_Calendarhall_setZone O f v0 v3 ((60 : Int32) * (x4 - (4 : Int32))) ((60 : Int32) * x5) M5) fun x6 M6 =>
    f_Law_areFree_13 O f n v0 v1 v2 (v3 + (1 : Int32)) M6
set_option maxRecDepth 20000 in
theorem k_f_Law_areFree_13 (O : Nat → Option va_E) (f d : Nat) : ∀ (n : Nat) (v0 : Nat) (v1 : Nat) (v2 : Int32) (v3 : Int32) (M : xM), xZ oI O (d + 9) 145 13 [(0, .ref v0), (1, .ref v1), (2, .int v2), (3, .int v3)] [] M (f_Law_areFree_13 O f n v0 v1 v2 v3 M) := by
  intro n
  induction n with
  | zero =>
    intro v0 v1 v2 v3 M
    exact xZ.no
  | succ n ih =>
    intro v0 v1 v2 v3 M
    unfold f_Law_areFree_13
    refine xZ.adv (me := xm145) hP_145 2 (pc' := 15) (lv' := [(0, .ref v0), (1, .ref v1), (2, .int v2), (3, .int v3)]) (st' := [.int (3 : Int32), .int v3]) rfl ?_
    refine xZ.ic_ge (me := xm145) hP_145 rfl (fun h1 => ?_) (fun h1 => ?_)
    · skip
      refine xZ.adv (me := xm145) hP_145 5 (pc' := 63) (lv' := [(0, .ref v0), (1, .ref v1), (2, .int v2), (3, .int v3)]) (st' := [.int (8 : Int32), .ref v1, .int (1 : Int32), .ref v1, .ref v0]) rfl ?_
      refine xZ.callv (κ := oI) (av := [.int (8 : Int32)]) (rest := [.int (1 : Int32), .ref v1, .ref v0]) (st' := fun x1 => [.int x1, .int (1 : Int32), .ref v1, .ref v0]) (k0 := v1) (me := xm145) hP_145 rfl (Or.inl rfl) ⟨rfl, by decide⟩ rfl rfl (Nat.le_of_ble_eq_true rfl) (by decide) hP_12 (Nat.le_of_ble_eq_true rfl) (fun _ => rfl) (k_f_LDraw_n O f (d + 8) v1 (8 : Int32) M) (fun x1 M1 => ?_)
      refine xZ.adv (me := xm145) hP_145 3 (pc' := 69) (lv' := [(0, .ref v0), (1, .ref v1), (2, .int v2), (3, .int v3)]) (st' := [.int v2, .int (4 : Int32), .int ((1 : Int32) + x1), .ref v1, .ref v0]) rfl ?_
      refine xZ.calls (κ := oI) (av := [.ref v0, .ref v1, .int ((1 : Int32) + x1), .int (4 : Int32), .int v2]) (rest := []) (st' := fun x2 => [.int x2]) (me := xm145) hP_145 rfl rfl rfl (Nat.le_of_ble_eq_true rfl) (by decide) hP_146 (Nat.le_of_ble_eq_true rfl) (fun _ => rfl) (k_f_Law_series O f (d + 0) v0 v1 ((1 : Int32) + x1) (4 : Int32) v2 M1) (fun x2 M2 => ?_)
      refine xZ.adv (me := xm145) hP_145 2 (pc' := 74) (lv' := [(3, .int x2), (0, .ref v0), (1, .ref v1), (2, .int v2)]) (st' := [.int (4 : Int32)]) rfl ?_
      exact xZ.no
    · skip
      refine xZ.adv (me := xm145) hP_145 2 (pc' := 20) (lv' := [(0, .ref v0), (1, .ref v1), (2, .int v2), (3, .int v3)]) (st' := [.int (2 : Int32), .ref v1]) rfl ?_
      refine xZ.callv (κ := oI) (av := [.int (2 : Int32)]) (rest := []) (st' := fun x3 => [.int x3]) (k0 := v1) (me := xm145) hP_145 rfl (Or.inl rfl) ⟨rfl, by decide⟩ rfl rfl (Nat.le_of_ble_eq_true rfl) (by decide) hP_18 (Nat.le_of_ble_eq_true rfl) (fun _ => rfl) (k_f_LDraw_is O f (d + 7) v1 (2 : Int32) M) (fun x3 M3 => ?_)
      refine xZ.if_eq (me := xm145) hP_145 rfl (fun h2 => ?_) (fun h2 => ?_)
      · skip
        refine xZ.adv (me := xm145) hP_145 2 (pc' := 13) (lv' := [(3, .int (v3 + (1 : Int32))), (0, .ref v0), (1, .ref v1), (2, .int v2)]) (st' := []) rfl ?_
        exact xZ.sub (xsc (.tail _ (.head _)) (xsc (.tail _ (.tail _ (.head _))) (xsc (.tail _ (.tail _ (.tail _ (.head _)))) (xsc (.head _) xsn)))) (show ([3, 0, 1, 2] : List Nat).Nodup from by decide) (ih v0 v1 v2 (v3 + (1 : Int32)) M3)
      · skip
        refine xZ.adv (me := xm145) hP_145 5 (pc' := 33) (lv' := [(0, .ref v0), (1, .ref v1), (2, .int v2), (3, .int v3)]) (st' := [.int (9 : Int32), .ref v1, .int (60 : Int32), .int v3, .ref v0]) rfl ?_
        refine xZ.callv (κ := oI) (av := [.int (9 : Int32)]) (rest := [.int (60 : Int32), .int v3, .ref v0]) (st' := fun x4 => [.int x4, .int (60 : Int32), .int v3, .ref v0]) (k0 := v1) (me := xm145) hP_145 rfl (Or.inl rfl) ⟨rfl, by decide⟩ rfl rfl (Nat.le_of_ble_eq_true rfl) (by decide) hP_12 (Nat.le_of_ble_eq_true rfl) (fun _ => rfl) (k_f_LDraw_n O f (d + 8) v1 (9 : Int32) M3) (fun x4 M4 => ?_)
        refine xZ.adv (me := xm145) hP_145 6 (pc' := 43) (lv' := [(0, .ref v0), (1, .ref v1), (2, .int v2), (3, .int v3)]) (st' := [.int (2 : Int32), .ref v1, .int (60 : Int32), .int ((60 : Int32) * (x4 - (4 : Int32))), .int v3, .ref v0]) rfl ?_
        refine xZ.callv (κ := oI) (av := [.int (2 : Int32)]) (rest := [.int (60 : Int32), .int ((60 : Int32) * (x4 - (4 : Int32))), .int v3, .ref v0]) (st' := fun x5 => [.int x5, .int (60 : Int32), .int ((60 : Int32) * (x4 - (4 : Int32))), .int v3, .ref v0]) (k0 := v1) (me := xm145) hP_145 rfl (Or.inl rfl) ⟨rfl, by decide⟩ rfl rfl (Nat.le_of_ble_eq_true rfl) (by decide) hP_12 (Nat.le_of_ble_eq_true rfl) (fun _ => rfl) (k_f_LDraw_n O f (d + 8) v1 (2 : Int32) M4) (fun x5 M5 => ?_)
        refine xZ.adv (me := xm145) hP_145 1 (pc' := 47) (lv' := [(0, .ref v0), (1, .ref v1), (2, .int v2), (3, .int v3)]) (st' := [.int ((60 : Int32) * x5), .int ((60 : Int32) * (x4 - (4 : Int32))), .int v3, .ref v0]) rfl ?_
        refine xZ.callv (κ := oI) (av := [.int v3, .int ((60 : Int32) * (x4 - (4 : Int32))), .int ((60 : Int32) * x5)]) (rest := []) (st' := fun x6 => [.int x6]) (k0 := v0) (me := xm145) hP_145 rfl (Or.inl rfl) ⟨rfl, by decide⟩ rfl rfl (Nat.le_of_ble_eq_true rfl) (by decide) hP_19 (Nat.le_of_ble_eq_true rfl) (fun _ => rfl) (k_f_Calendarhall_setZone O f (d + 3) v0 v3 ((60 : Int32) * (x4 - (4 : Int32))) ((60 : Int32) * x5) M5) (fun x6 M6 => ?_)
        refine xZ.adv (me := xm145) hP_145 3 (pc' := 13) (lv' := [(3, .int (v3 + (1 : Int32))), (0, .ref v0), (1, .ref v1), (2, .int v2)]) (st' := []) rfl ?_
        exact xZ.sub (xsc (.tail _ (.head _)) (xsc (.tail _ (.tail _ (.head _))) (xsc (.tail _ (.tail _ (.tail _ (.head _)))) (xsc (.head _) xsn)))) (show ([3, 0, 1, 2] : List Nat).Nodup from by decide) (ih v0 v1 v2 (v3 + (1 : Int32)) M6)
def f_Law_areFree (O : Nat → Option va_E) (f : Nat) (v0 : Nat) (v1 : Nat) (M : xM) : Option (Int32 × xM) :=
  (isO O M v1 15).bind fun _ =>
  xcl (f_LDraw_n O f v1 (400 : Int32) M) fun x1 M1 =>
  f_Law_areFree_13 O f f v0 v1 ((100 : Int32) + x1) (0 : Int32) M1
set_option maxRecDepth 20000 in
theorem k_f_Law_areFree (O : Nat → Option va_E) (f d : Nat) (v0 : Nat) (v1 : Nat) (M : xM) : xZ oI O (d + 9) 145 0 [(0, .ref v0), (1, .ref v1)] [] M (f_Law_areFree O f v0 v1 M) := by
  unfold f_Law_areFree
  refine xZ.adv (me := xm145) hP_145 3 (pc' := 6) (lv' := [(0, .ref v0), (1, .ref v1)]) (st' := [.int (400 : Int32), .ref v1, .int (100 : Int32)]) rfl ?_
  refine xZ.callv (κ := oI) (av := [.int (400 : Int32)]) (rest := [.int (100 : Int32)]) (st' := fun x1 => [.int x1, .int (100 : Int32)]) (k0 := v1) (me := xm145) hP_145 rfl (Or.inl rfl) ⟨rfl, by decide⟩ rfl rfl (Nat.le_of_ble_eq_true rfl) (by decide) hP_12 (Nat.le_of_ble_eq_true rfl) (fun _ => rfl) (k_f_LDraw_n O f (d + 8) v1 (400 : Int32) M) (fun x1 M1 => ?_)
  refine xZ.adv (me := xm145) hP_145 4 (pc' := 13) (lv' := [(3, .int (0 : Int32)), (2, .int ((100 : Int32) + x1)), (0, .ref v0), (1, .ref v1)]) (st' := []) rfl ?_
  exact xZ.sub (xsc (.tail _ (.tail _ (.head _))) (xsc (.tail _ (.tail _ (.tail _ (.head _)))) (xsc (.tail _ (.head _)) (xsc (.head _) xsn)))) (show ([3, 2, 0, 1] : List Nat).Nodup from by decide) (k_f_Law_areFree_13 O f d f v0 v1 ((100 : Int32) + x1) (0 : Int32) M1)
def f_Calendarhall_setRoom (O : Nat → Option va_E) (f : Nat) (v0 : Nat) (v1 : Int32) (v2 : Int32) (M : xM) : Option (Int32 × xM) :=
  if v1 < 0 then (
    none
  ) else
  (gR O M v0 12 0).bind fun x1 =>
  (gR O M x1 4 2).bind fun x2 =>
  (aN O M x2).bind fun x3 =>
  if v1 < x3 then (
    xcl (f_Calendarhall_needRange O f v2 (0 : Int32) (9 : Int32) M) fun _ M1 =>
    (gR O M1 v0 12 0).bind fun x5 =>
    (gR O M1 x5 4 2).bind fun x6 =>
    (aI O M1 x6 v1).bind fun x7 =>
    (isO O M1 v0 12).bind fun _ =>
    xcl (f_Calendarhall_saveForUndo O f v0 M1) fun _ M2 =>
    (gR O M2 v0 12 0).bind fun x9 =>
    (gR O M2 x9 4 2).bind fun x10 =>
    (wI M2 x10 v1 v2).bind fun M3 =>
    some (x7, M3)
  ) else
  none
set_option maxRecDepth 20000 in
theorem k_f_Calendarhall_setRoom (O : Nat → Option va_E) (f d : Nat) (v0 : Nat) (v1 : Int32) (v2 : Int32) (M : xM) : xZ oI O (d + 5) 187 0 [(0, .ref v0), (1, .int v1), (2, .int v2)] [] M (f_Calendarhall_setRoom O f v0 v1 v2 M) := by
  unfold f_Calendarhall_setRoom
  refine xZ.adv (me := xm187) hP_187 1 (pc' := 1) (lv' := [(0, .ref v0), (1, .int v1), (2, .int v2)]) (st' := [.int v1]) rfl ?_
  refine xZ.if_lt (me := xm187) hP_187 rfl (fun h1 => ?_) (fun h1 => ?_)
  · skip
    exact xZ.no
  · skip
    refine xZ.adv (me := xm187) hP_187 2 (pc' := 6) (lv' := [(0, .ref v0), (1, .int v1), (2, .int v2)]) (st' := [.ref v0, .int v1]) rfl ?_
    refine xZ.k_gR (me := xm187) hP_187 rfl (fun x1 => ?_)
    refine xZ.k_gR (me := xm187) hP_187 rfl (fun x2 => ?_)
    refine xZ.k_aN (me := xm187) hP_187 rfl (fun x3 => ?_)
    refine xZ.ic_lt (me := xm187) hP_187 rfl (fun h2 => ?_) (fun h2 => ?_)
    · skip
      refine xZ.adv (me := xm187) hP_187 3 (pc' := 28) (lv' := [(0, .ref v0), (1, .int v1), (2, .int v2)]) (st' := [.int (9 : Int32), .int (0 : Int32), .int v2]) rfl ?_
      refine xZ.calls (κ := oU) (av := [.int v2, .int (0 : Int32), .int (9 : Int32)]) (rest := []) (st' := fun _ => []) (me := xm187) hP_187 rfl rfl rfl (Nat.le_of_ble_eq_true rfl) (by decide) hP_22 (Nat.le_of_ble_eq_true rfl) (fun _ => rfl) (k_f_Calendarhall_needRange O f (d + 4) v2 (0 : Int32) (9 : Int32) M) (fun _ M1 => ?_)
      refine xZ.adv (me := xm187) hP_187 1 (pc' := 32) (lv' := [(0, .ref v0), (1, .int v1), (2, .int v2)]) (st' := [.ref v0]) rfl ?_
      refine xZ.k_gR (me := xm187) hP_187 rfl (fun x5 => ?_)
      refine xZ.k_gR (me := xm187) hP_187 rfl (fun x6 => ?_)
      refine xZ.adv (me := xm187) hP_187 1 (pc' := 39) (lv' := [(0, .ref v0), (1, .int v1), (2, .int v2)]) (st' := [.int v1, .ref x6]) rfl ?_
      refine xZ.k_aI (me := xm187) hP_187 rfl (fun x7 => ?_)
      refine xZ.adv (me := xm187) hP_187 2 (pc' := 42) (lv' := [(3, .int x7), (0, .ref v0), (1, .int v1), (2, .int v2)]) (st' := [.ref v0]) rfl ?_
      refine xZ.callv (κ := oU) (av := []) (rest := []) (st' := fun _ => []) (k0 := v0) (me := xm187) hP_187 rfl (Or.inl rfl) ⟨rfl, by decide⟩ rfl rfl (Nat.le_of_ble_eq_true rfl) (by decide) hP_23 (Nat.le_of_ble_eq_true rfl) (fun _ => rfl) (k_f_Calendarhall_saveForUndo O f (d + 0) v0 M1) (fun _ M2 => ?_)
      refine xZ.adv (me := xm187) hP_187 1 (pc' := 46) (lv' := [(3, .int x7), (0, .ref v0), (1, .int v1), (2, .int v2)]) (st' := [.ref v0]) rfl ?_
      refine xZ.k_gR (me := xm187) hP_187 rfl (fun x9 => ?_)
      refine xZ.k_gR (me := xm187) hP_187 rfl (fun x10 => ?_)
      refine xZ.adv (me := xm187) hP_187 2 (pc' := 54) (lv' := [(3, .int x7), (0, .ref v0), (1, .int v1), (2, .int v2)]) (st' := [.int v2, .int v1, .ref x10]) rfl ?_
      refine xZ.k_wI (me := xm187) hP_187 rfl (fun M3 => ?_)
      refine xZ.adv (me := xm187) hP_187 1 (pc' := 56) (lv' := [(3, .int x7), (0, .ref v0), (1, .int v1), (2, .int v2)]) (st' := [.int x7]) rfl ?_
      exact xZ.reti (me := xm187) hP_187 rfl rfl
    · skip
      exact xZ.no
def f_Hall_seriesWithRoom_4 (O : Nat → Option va_E) (f : Nat) : Nat → Nat → Int32 → Int32 → xM → Option (Int32 × xM)
  | 0, _, _, _, _ => none
  | n + 1, v0, v1, v2, M =>
    (gR O M v0 4 3).bind fun x1 =>
    (aN O M x1).bind fun x2 =>
    if x2 ≤ v2 then (
      some (v1, M)
    ) else
    (gR O M v0 4 3).bind fun x3 =>
    (aR O M x3 v2).bind fun x4 =>
    (gI O M x4 10 0).bind fun x5 =>
    if x5 = 0 then (
      f_Hall_seriesWithRoom_4 O f n v0 v1 (v2 + (1 : Int32)) M
    ) else
    (gR O M v0 4 3).bind fun x6 =>
    (aR O M x6 v2).bind fun x7 =>
    (gI O M x7 10 5).bind fun x8 =>
    if x8 = 0 then (
      f_Hall_seriesWithRoom_4 O f n v0 v1 (v2 + (1 : Int32)) M
    ) else
    xlet (v1 ||| ((1 : Int32) <<< (v2 &&& 31))) fun x9 =>
    none
set_option maxRecDepth 20000 in
theorem k_f_Hall_seriesWithRoom_4 (O : Nat → Option va_E) (f d : Nat) : ∀ (n : Nat) (v0 : Nat) (v1 : Int32) (v2 : Int32) (M : xM), xZ oI O (d + 0) 189 4 [(0, .ref v0), (1, .int v1), (2, .int v2)] [] M (f_Hall_seriesWithRoom_4 O f n v0 v1 v2 M) := by
  intro n
  induction n with
  | zero =>
    intro v0 v1 v2 M
    exact xZ.no
  | succ n ih =>
    intro v0 v1 v2 M
    unfold f_Hall_seriesWithRoom_4
    refine xZ.adv (me := xm189) hP_189 2 (pc' := 6) (lv' := [(0, .ref v0), (1, .int v1), (2, .int v2)]) (st' := [.ref v0, .int v2]) rfl ?_
    refine xZ.k_gR (me := xm189) hP_189 rfl (fun x1 => ?_)
    refine xZ.k_aN (me := xm189) hP_189 rfl (fun x2 => ?_)
    refine xZ.ic_ge (me := xm189) hP_189 rfl (fun h1 => ?_) (fun h1 => ?_)
    · skip
      refine xZ.adv (me := xm189) hP_189 1 (pc' := 50) (lv' := [(0, .ref v0), (1, .int v1), (2, .int v2)]) (st' := [.int v1]) rfl ?_
      exact xZ.reti (me := xm189) hP_189 rfl rfl
    · skip
      refine xZ.adv (me := xm189) hP_189 1 (pc' := 14) (lv' := [(0, .ref v0), (1, .int v1), (2, .int v2)]) (st' := [.ref v0]) rfl ?_
      refine xZ.k_gR (me := xm189) hP_189 rfl (fun x3 => ?_)
      refine xZ.adv (me := xm189) hP_189 1 (pc' := 18) (lv' := [(0, .ref v0), (1, .int v1), (2, .int v2)]) (st' := [.int v2, .ref x3]) rfl ?_
      refine xZ.k_aR (me := xm189) hP_189 rfl (fun x4 => ?_)
      refine xZ.k_gI (me := xm189) hP_189 rfl (fun x5 => ?_)
      refine xZ.if_eq (me := xm189) hP_189 rfl (fun h2 => ?_) (fun h2 => ?_)
      · skip
        refine xZ.adv (me := xm189) hP_189 2 (pc' := 4) (lv' := [(2, .int (v2 + (1 : Int32))), (0, .ref v0), (1, .int v1)]) (st' := []) rfl ?_
        exact xZ.sub (xsc (.tail _ (.head _)) (xsc (.tail _ (.tail _ (.head _))) (xsc (.head _) xsn))) (show ([2, 0, 1] : List Nat).Nodup from by decide) (ih v0 v1 (v2 + (1 : Int32)) M)
      · skip
        refine xZ.adv (me := xm189) hP_189 1 (pc' := 26) (lv' := [(0, .ref v0), (1, .int v1), (2, .int v2)]) (st' := [.ref v0]) rfl ?_
        refine xZ.k_gR (me := xm189) hP_189 rfl (fun x6 => ?_)
        refine xZ.adv (me := xm189) hP_189 1 (pc' := 30) (lv' := [(0, .ref v0), (1, .int v1), (2, .int v2)]) (st' := [.int v2, .ref x6]) rfl ?_
        refine xZ.k_aR (me := xm189) hP_189 rfl (fun x7 => ?_)
        refine xZ.k_gI (me := xm189) hP_189 rfl (fun x8 => ?_)
        refine xZ.if_eq (me := xm189) hP_189 rfl (fun h3 => ?_) (fun h3 => ?_)
        · skip
          refine xZ.adv (me := xm189) hP_189 2 (pc' := 4) (lv' := [(2, .int (v2 + (1 : Int32))), (0, .ref v0), (1, .int v1)]) (st' := []) rfl ?_
          exact xZ.sub (xsc (.tail _ (.head _)) (xsc (.tail _ (.tail _ (.head _))) (xsc (.head _) xsn))) (show ([2, 0, 1] : List Nat).Nodup from by decide) (ih v0 v1 (v2 + (1 : Int32)) M)
        · skip
          refine xZ.adv (me := xm189) hP_189 6 (pc' := 43) (lv' := [(1, .int (v1 ||| ((1 : Int32) <<< (v2 &&& 31)))), (0, .ref v0), (2, .int v2)]) (st' := []) rfl ?_
          refine xZ.letI (v := (v1 ||| ((1 : Int32) <<< (v2 &&& 31)))) (lvf := fun x9 => [(1, .int x9), (0, .ref v0), (2, .int v2)]) (stf := fun x9 => []) ?_
          intro x9
          exact xZ.no
def f_Hall_seriesWithRoom (O : Nat → Option va_E) (f : Nat) (v0 : Nat) (M : xM) : Option (Int32 × xM) :=
  f_Hall_seriesWithRoom_4 O f f v0 (0 : Int32) (0 : Int32) M
set_option maxRecDepth 20000 in
theorem k_f_Hall_seriesWithRoom (O : Nat → Option va_E) (f d : Nat) (v0 : Nat) (M : xM) : xZ oI O (d + 0) 189 0 [(0, .ref v0)] [] M (f_Hall_seriesWithRoom O f v0 M) := by
  unfold f_Hall_seriesWithRoom
  refine xZ.adv (me := xm189) hP_189 4 (pc' := 4) (lv' := [(2, .int (0 : Int32)), (1, .int (0 : Int32)), (0, .ref v0)]) (st' := []) rfl ?_
  exact xZ.sub (xsc (.tail _ (.tail _ (.head _))) (xsc (.tail _ (.head _)) (xsc (.head _) xsn))) (show ([2, 1, 0] : List Nat).Nodup from by decide) (k_f_Hall_seriesWithRoom_4 O f d f v0 (0 : Int32) (0 : Int32) M)
def f_Hall_collect_7 (O : Nat → Option va_E) (f : Nat) : Nat → Nat → Nat → Int32 → Int32 → Int32 → Int32 → xM → Option (Unit × xM)
  | 0, _, _, _, _, _, _, _ => none
  | n + 1, v0, v1, v2, v3, v4, v5, M =>
    (gR O M v0 4 3).bind fun x1 =>
    (aN O M x1).bind fun x2 =>
    if x2 ≤ v5 then (
      some ((), M)
    ) else
    (gR O M v0 4 3).bind fun x3 =>
    (aR O M x3 v5).bind fun x4 =>
    (gI O M x4 10 0).bind fun x5 =>
    if x5 = 0 then (
      f_Hall_collect_7 O f n v0 v1 v2 v3 v4 (v5 + (1 : Int32)) M
    ) else
    if ((v2 >>> (v5 &&& 31)) &&& (1 : Int32)) = (1 : Int32) then (
      (gR O M v0 4 3).bind fun x6 =>
      (aR O M x6 v5).bind fun x7 =>
      (gR O M v0 4 3).bind fun x8 =>
      (aR O M x8 v5).bind fun x9 =>
      (isO O M v0 4).bind fun _ =>
      xcl (f_Hall_zoneOf O f v0 x9 M) fun x10 M1 =>
      (isO O M1 x7 10).bind fun _ =>
      xcl (f_Series_addRows O f x7 v1 v5 (0 : Int32) x10 v3 v4 M1) fun _ M2 =>
      f_Hall_collect_7 O f n v0 v1 v2 v3 v4 (v5 + (1 : Int32)) M2
    ) else
    f_Hall_collect_7 O f n v0 v1 v2 v3 v4 (v5 + (1 : Int32)) M
set_option maxRecDepth 20000 in
theorem k_f_Hall_collect_7 (O : Nat → Option va_E) (f d : Nat) : ∀ (n : Nat) (v0 : Nat) (v1 : Nat) (v2 : Int32) (v3 : Int32) (v4 : Int32) (v5 : Int32) (M : xM), xZ oU O (d + 6) 190 7 [(0, .ref v0), (1, .ref v1), (2, .int v2), (3, .int v3), (4, .int v4), (5, .int v5)] [] M (f_Hall_collect_7 O f n v0 v1 v2 v3 v4 v5 M) := by
  intro n
  induction n with
  | zero =>
    intro v0 v1 v2 v3 v4 v5 M
    exact xZ.no
  | succ n ih =>
    intro v0 v1 v2 v3 v4 v5 M
    unfold f_Hall_collect_7
    refine xZ.adv (me := xm190) hP_190 2 (pc' := 10) (lv' := [(0, .ref v0), (1, .ref v1), (2, .int v2), (3, .int v3), (4, .int v4), (5, .int v5)]) (st' := [.ref v0, .int v5]) rfl ?_
    refine xZ.k_gR (me := xm190) hP_190 rfl (fun x1 => ?_)
    refine xZ.k_aN (me := xm190) hP_190 rfl (fun x2 => ?_)
    refine xZ.ic_ge (me := xm190) hP_190 rfl (fun h1 => ?_) (fun h1 => ?_)
    · skip
      exact xZ.retu (me := xm190) hP_190 rfl rfl
    · skip
      refine xZ.adv (me := xm190) hP_190 1 (pc' := 18) (lv' := [(0, .ref v0), (1, .ref v1), (2, .int v2), (3, .int v3), (4, .int v4), (5, .int v5)]) (st' := [.ref v0]) rfl ?_
      refine xZ.k_gR (me := xm190) hP_190 rfl (fun x3 => ?_)
      refine xZ.adv (me := xm190) hP_190 1 (pc' := 23) (lv' := [(0, .ref v0), (1, .ref v1), (2, .int v2), (3, .int v3), (4, .int v4), (5, .int v5)]) (st' := [.int v5, .ref x3]) rfl ?_
      refine xZ.k_aR (me := xm190) hP_190 rfl (fun x4 => ?_)
      refine xZ.k_gI (me := xm190) hP_190 rfl (fun x5 => ?_)
      refine xZ.if_eq (me := xm190) hP_190 rfl (fun h2 => ?_) (fun h2 => ?_)
      · skip
        refine xZ.adv (me := xm190) hP_190 2 (pc' := 7) (lv' := [(5, .int (v5 + (1 : Int32))), (0, .ref v0), (1, .ref v1), (2, .int v2), (3, .int v3), (4, .int v4)]) (st' := []) rfl ?_
        exact xZ.sub (xsc (.tail _ (.head _)) (xsc (.tail _ (.tail _ (.head _))) (xsc (.tail _ (.tail _ (.tail _ (.head _)))) (xsc (.tail _ (.tail _ (.tail _ (.tail _ (.head _))))) (xsc (.tail _ (.tail _ (.tail _ (.tail _ (.tail _ (.head _)))))) (xsc (.head _) xsn)))))) (show ([5, 0, 1, 2, 3, 4] : List Nat).Nodup from by decide) (ih v0 v1 v2 v3 v4 (v5 + (1 : Int32)) M)
      · skip
        refine xZ.adv (me := xm190) hP_190 6 (pc' := 37) (lv' := [(0, .ref v0), (1, .ref v1), (2, .int v2), (3, .int v3), (4, .int v4), (5, .int v5)]) (st' := [.int (1 : Int32), .int ((v2 >>> (v5 &&& 31)) &&& (1 : Int32))]) rfl ?_
        refine xZ.ic_ne (me := xm190) hP_190 rfl (fun h3 => ?_) (fun h3 => ?_)
        · skip
          refine xZ.adv (me := xm190) hP_190 1 (pc' := 41) (lv' := [(0, .ref v0), (1, .ref v1), (2, .int v2), (3, .int v3), (4, .int v4), (5, .int v5)]) (st' := [.ref v0]) rfl ?_
          refine xZ.k_gR (me := xm190) hP_190 rfl (fun x6 => ?_)
          refine xZ.adv (me := xm190) hP_190 1 (pc' := 46) (lv' := [(0, .ref v0), (1, .ref v1), (2, .int v2), (3, .int v3), (4, .int v4), (5, .int v5)]) (st' := [.int v5, .ref x6]) rfl ?_
          refine xZ.k_aR (me := xm190) hP_190 rfl (fun x7 => ?_)
          refine xZ.adv (me := xm190) hP_190 5 (pc' := 53) (lv' := [(0, .ref v0), (1, .ref v1), (2, .int v2), (3, .int v3), (4, .int v4), (5, .int v5)]) (st' := [.ref v0, .ref v0, .int (0 : Int32), .int v5, .ref v1, .ref x7]) rfl ?_
          refine xZ.k_gR (me := xm190) hP_190 rfl (fun x8 => ?_)
          refine xZ.adv (me := xm190) hP_190 1 (pc' := 58) (lv' := [(0, .ref v0), (1, .ref v1), (2, .int v2), (3, .int v3), (4, .int v4), (5, .int v5)]) (st' := [.int v5, .ref x8, .ref v0, .int (0 : Int32), .int v5, .ref v1, .ref x7]) rfl ?_
          refine xZ.k_aR (me := xm190) hP_190 rfl (fun x9 => ?_)
          refine xZ.callv (κ := oR) (av := [.ref x9]) (rest := [.int (0 : Int32), .int v5, .ref v1, .ref x7]) (st' := fun x10 => [.ref x10, .int (0 : Int32), .int v5, .ref v1, .ref x7]) (k0 := v0) (me := xm190) hP_190 rfl (Or.inl rfl) ⟨rfl, by decide⟩ rfl rfl (Nat.le_of_ble_eq_true rfl) (by decide) hP_102 (Nat.le_of_ble_eq_true rfl) (fun _ => rfl) (k_f_Hall_zoneOf O f (d + 4) v0 x9 M) (fun x10 M1 => ?_)
          refine xZ.adv (me := xm190) hP_190 2 (pc' := 65) (lv' := [(0, .ref v0), (1, .ref v1), (2, .int v2), (3, .int v3), (4, .int v4), (5, .int v5)]) (st' := [.int v4, .int v3, .ref x10, .int (0 : Int32), .int v5, .ref v1, .ref x7]) rfl ?_
          refine xZ.callv (κ := oU) (av := [.ref v1, .int v5, .int (0 : Int32), .ref x10, .int v3, .int v4]) (rest := []) (st' := fun _ => []) (k0 := x7) (me := xm190) hP_190 rfl (Or.inl rfl) ⟨rfl, by decide⟩ rfl rfl (Nat.le_of_ble_eq_true rfl) (by decide) hP_164 (Nat.le_of_ble_eq_true rfl) (fun _ => rfl) (k_f_Series_addRows O f (d + 0) x7 v1 v5 (0 : Int32) x10 v3 v4 M1) (fun _ M2 => ?_)
          refine xZ.adv (me := xm190) hP_190 2 (pc' := 7) (lv' := [(5, .int (v5 + (1 : Int32))), (0, .ref v0), (1, .ref v1), (2, .int v2), (3, .int v3), (4, .int v4)]) (st' := []) rfl ?_
          exact xZ.sub (xsc (.tail _ (.head _)) (xsc (.tail _ (.tail _ (.head _))) (xsc (.tail _ (.tail _ (.tail _ (.head _)))) (xsc (.tail _ (.tail _ (.tail _ (.tail _ (.head _))))) (xsc (.tail _ (.tail _ (.tail _ (.tail _ (.tail _ (.head _)))))) (xsc (.head _) xsn)))))) (show ([5, 0, 1, 2, 3, 4] : List Nat).Nodup from by decide) (ih v0 v1 v2 v3 v4 (v5 + (1 : Int32)) M2)
        · skip
          refine xZ.adv (me := xm190) hP_190 2 (pc' := 7) (lv' := [(5, .int (v5 + (1 : Int32))), (0, .ref v0), (1, .ref v1), (2, .int v2), (3, .int v3), (4, .int v4)]) (st' := []) rfl ?_
          exact xZ.sub (xsc (.tail _ (.head _)) (xsc (.tail _ (.tail _ (.head _))) (xsc (.tail _ (.tail _ (.tail _ (.head _)))) (xsc (.tail _ (.tail _ (.tail _ (.tail _ (.head _))))) (xsc (.tail _ (.tail _ (.tail _ (.tail _ (.tail _ (.head _)))))) (xsc (.head _) xsn)))))) (show ([5, 0, 1, 2, 3, 4] : List Nat).Nodup from by decide) (ih v0 v1 v2 v3 v4 (v5 + (1 : Int32)) M)
def f_Hall_collect (O : Nat → Option va_E) (f : Nat) (v0 : Nat) (v1 : Nat) (v2 : Int32) (v3 : Int32) (v4 : Int32) (M : xM) : Option (Unit × xM) :=
  (isO O M v1 2).bind fun _ =>
  xcl (f_Dates_clear O f v1 M) fun _ M1 =>
  f_Hall_collect_7 O f f v0 v1 v2 v3 v4 (0 : Int32) M1
set_option maxRecDepth 20000 in
theorem k_f_Hall_collect (O : Nat → Option va_E) (f d : Nat) (v0 : Nat) (v1 : Nat) (v2 : Int32) (v3 : Int32) (v4 : Int32) (M : xM) : xZ oU O (d + 6) 190 0 [(0, .ref v0), (1, .ref v1), (2, .int v2), (3, .int v3), (4, .int v4)] [] M (f_Hall_collect O f v0 v1 v2 v3 v4 M) := by
  unfold f_Hall_collect
  refine xZ.adv (me := xm190) hP_190 1 (pc' := 1) (lv' := [(0, .ref v0), (1, .ref v1), (2, .int v2), (3, .int v3), (4, .int v4)]) (st' := [.ref v1]) rfl ?_
  refine xZ.callv (κ := oU) (av := []) (rest := []) (st' := fun _ => []) (k0 := v1) (me := xm190) hP_190 rfl (Or.inl rfl) ⟨rfl, by decide⟩ rfl rfl (Nat.le_of_ble_eq_true rfl) (by decide) hP_163 (Nat.le_of_ble_eq_true rfl) (fun _ => rfl) (k_f_Dates_clear O f (d + 5) v1 M) (fun _ M1 => ?_)
  refine xZ.adv (me := xm190) hP_190 2 (pc' := 7) (lv' := [(5, .int (0 : Int32)), (0, .ref v0), (1, .ref v1), (2, .int v2), (3, .int v3), (4, .int v4)]) (st' := []) rfl ?_
  exact xZ.sub (xsc (.tail _ (.head _)) (xsc (.tail _ (.tail _ (.head _))) (xsc (.tail _ (.tail _ (.tail _ (.head _)))) (xsc (.tail _ (.tail _ (.tail _ (.tail _ (.head _))))) (xsc (.tail _ (.tail _ (.tail _ (.tail _ (.tail _ (.head _)))))) (xsc (.head _) xsn)))))) (show ([5, 0, 1, 2, 3, 4] : List Nat).Nodup from by decide) (k_f_Hall_collect_7 O f d f v0 v1 v2 v3 v4 (0 : Int32) M1)
def f_Meetings_takeRoom_2 (O : Nat → Option va_E) (f : Nat) : Nat → Nat → Int32 → Int32 → Int32 → xM → Option (Int32 × xM)
  | 0, _, _, _, _, _ => none
  | n + 1, v0, v1, v2, v3, M =>
    (gR O M v0 5 4).bind fun x1 =>
    (aN O M x1).bind fun x2 =>
    if x2 ≤ v3 then (
      some ((-1 : Int32), M)
    ) else
    (gR O M v0 5 4).bind fun x3 =>
    (aI O M x3 v3).bind fun x4 =>
    if v1 < x4 then (
      f_Meetings_takeRoom_2 O f n v0 v1 v2 (v3 + (1 : Int32)) M
    ) else
    (gR O M v0 5 4).bind fun x5 =>
    (wI M x5 v3 v2).bind fun M1 =>
    some (v3, M1)
set_option maxRecDepth 20000 in
theorem k_f_Meetings_takeRoom_2 (O : Nat → Option va_E) (f d : Nat) : ∀ (n : Nat) (v0 : Nat) (v1 : Int32) (v2 : Int32) (v3 : Int32) (M : xM), xZ oI O (d + 0) 192 2 [(0, .ref v0), (1, .int v1), (2, .int v2), (3, .int v3)] [] M (f_Meetings_takeRoom_2 O f n v0 v1 v2 v3 M) := by
  intro n
  induction n with
  | zero =>
    intro v0 v1 v2 v3 M
    exact xZ.no
  | succ n ih =>
    intro v0 v1 v2 v3 M
    unfold f_Meetings_takeRoom_2
    refine xZ.adv (me := xm192) hP_192 2 (pc' := 4) (lv' := [(0, .ref v0), (1, .int v1), (2, .int v2), (3, .int v3)]) (st' := [.ref v0, .int v3]) rfl ?_
    refine xZ.k_gR (me := xm192) hP_192 rfl (fun x1 => ?_)
    refine xZ.k_aN (me := xm192) hP_192 rfl (fun x2 => ?_)
    refine xZ.ic_ge (me := xm192) hP_192 rfl (fun h1 => ?_) (fun h1 => ?_)
    · skip
      refine xZ.adv (me := xm192) hP_192 1 (pc' := 37) (lv' := [(0, .ref v0), (1, .int v1), (2, .int v2), (3, .int v3)]) (st' := [.int (-1 : Int32)]) rfl ?_
      exact xZ.reti (me := xm192) hP_192 rfl rfl
    · skip
      refine xZ.adv (me := xm192) hP_192 1 (pc' := 12) (lv' := [(0, .ref v0), (1, .int v1), (2, .int v2), (3, .int v3)]) (st' := [.ref v0]) rfl ?_
      refine xZ.k_gR (me := xm192) hP_192 rfl (fun x3 => ?_)
      refine xZ.adv (me := xm192) hP_192 1 (pc' := 16) (lv' := [(0, .ref v0), (1, .int v1), (2, .int v2), (3, .int v3)]) (st' := [.int v3, .ref x3]) rfl ?_
      refine xZ.k_aI (me := xm192) hP_192 rfl (fun x4 => ?_)
      refine xZ.adv (me := xm192) hP_192 1 (pc' := 18) (lv' := [(0, .ref v0), (1, .int v1), (2, .int v2), (3, .int v3)]) (st' := [.int v1, .int x4]) rfl ?_
      refine xZ.ic_gt (me := xm192) hP_192 rfl (fun h2 => ?_) (fun h2 => ?_)
      · skip
        refine xZ.adv (me := xm192) hP_192 2 (pc' := 2) (lv' := [(3, .int (v3 + (1 : Int32))), (0, .ref v0), (1, .int v1), (2, .int v2)]) (st' := []) rfl ?_
        exact xZ.sub (xsc (.tail _ (.head _)) (xsc (.tail _ (.tail _ (.head _))) (xsc (.tail _ (.tail _ (.tail _ (.head _)))) (xsc (.head _) xsn)))) (show ([3, 0, 1, 2] : List Nat).Nodup from by decide) (ih v0 v1 v2 (v3 + (1 : Int32)) M)
      · skip
        refine xZ.adv (me := xm192) hP_192 1 (pc' := 22) (lv' := [(0, .ref v0), (1, .int v1), (2, .int v2), (3, .int v3)]) (st' := [.ref v0]) rfl ?_
        refine xZ.k_gR (me := xm192) hP_192 rfl (fun x5 => ?_)
        refine xZ.adv (me := xm192) hP_192 2 (pc' := 27) (lv' := [(0, .ref v0), (1, .int v1), (2, .int v2), (3, .int v3)]) (st' := [.int v2, .int v3, .ref x5]) rfl ?_
        refine xZ.k_wI (me := xm192) hP_192 rfl (fun M1 => ?_)
        refine xZ.adv (me := xm192) hP_192 1 (pc' := 29) (lv' := [(0, .ref v0), (1, .int v1), (2, .int v2), (3, .int v3)]) (st' := [.int v3]) rfl ?_
        exact xZ.reti (me := xm192) hP_192 rfl rfl
def f_Meetings_takeRoom (O : Nat → Option va_E) (f : Nat) (v0 : Nat) (v1 : Int32) (v2 : Int32) (M : xM) : Option (Int32 × xM) :=
  f_Meetings_takeRoom_2 O f f v0 v1 v2 (0 : Int32) M
set_option maxRecDepth 20000 in
theorem k_f_Meetings_takeRoom (O : Nat → Option va_E) (f d : Nat) (v0 : Nat) (v1 : Int32) (v2 : Int32) (M : xM) : xZ oI O (d + 0) 192 0 [(0, .ref v0), (1, .int v1), (2, .int v2)] [] M (f_Meetings_takeRoom O f v0 v1 v2 M) := by
  unfold f_Meetings_takeRoom
  refine xZ.adv (me := xm192) hP_192 2 (pc' := 2) (lv' := [(3, .int (0 : Int32)), (0, .ref v0), (1, .int v1), (2, .int v2)]) (st' := []) rfl ?_
  exact xZ.sub (xsc (.tail _ (.head _)) (xsc (.tail _ (.tail _ (.head _))) (xsc (.tail _ (.tail _ (.tail _ (.head _)))) (xsc (.head _) xsn)))) (show ([3, 0, 1, 2] : List Nat).Nodup from by decide) (k_f_Meetings_takeRoom_2 O f d f v0 v1 v2 (0 : Int32) M)
def f_Meetings_lay_42 (O : Nat → Option va_E) (f : Nat) : Nat → Nat → Nat → Int32 → Int32 → xM → Option (Int32 × xM)
  | 0, _, _, _, _, _ => none
  | n + 1, v0, v1, v2, v3, M =>
    (gI O M v0 5 0).bind fun x1 =>
    if x1 ≤ v3 then (
      some (v2, M)
    ) else
    if (256 : Int32) ≤ v3 then (
      some (v2, M)
    ) else
    (gR O M v0 5 1).bind fun x2 =>
    (isO O M v1 2).bind fun _ =>
    xcl (f_Dates_rowAt O f v1 v3 M) fun x3 M1 =>
    xcl (f_Dates_numberOf O f x3 M1) fun x4 M2 =>
    (wI M2 x2 v3 x4).bind fun M3 =>
    (gR O M3 v0 5 2).bind fun x5 =>
    (isO O M3 v1 2).bind fun _ =>
    xcl (f_Dates_rowAt O f v1 v3 M3) fun x6 M4 =>
    xcl (f_Dates_dayIn O f x6 M4) fun x7 M5 =>
    (wI M5 x5 v3 x7).bind fun M6 =>
    (gR O M6 v0 5 3).bind fun x8 =>
    (isO O M6 v1 2).bind fun _ =>
    xcl (f_Dates_beginAt O f v1 v3 M6) fun x9 M7 =>
    (isO O M7 v1 2).bind fun _ =>
    xcl (f_Dates_endAt O f v1 v3 M7) fun x10 M8 =>
    (isO O M8 v0 5).bind fun _ =>
    xcl (f_Meetings_takeRoom O f v0 x9 x10 M8) fun x11 M9 =>
    (wI M9 x8 v3 x11).bind fun M10 =>
    (gR O M10 v0 5 3).bind fun x12 =>
    (aI O M10 x12 v3).bind fun x13 =>
    if x13 = (-1 : Int32) then (
      f_Meetings_lay_42 O f n v0 v1 (v2 + (1 : Int32)) (v3 + (1 : Int32)) M10
    ) else
    f_Meetings_lay_42 O f n v0 v1 v2 (v3 + (1 : Int32)) M10
set_option maxRecDepth 20000 in
theorem k_f_Meetings_lay_42 (O : Nat → Option va_E) (f d : Nat) : ∀ (n : Nat) (v0 : Nat) (v1 : Nat) (v2 : Int32) (v3 : Int32) (M : xM), xZ oI O (d + 3) 191 42 [(0, .ref v0), (1, .ref v1), (2, .int v2), (3, .int v3)] [] M (f_Meetings_lay_42 O f n v0 v1 v2 v3 M) := by
  intro n
  induction n with
  | zero =>
    intro v0 v1 v2 v3 M
    exact xZ.no
  | succ n ih =>
    intro v0 v1 v2 v3 M
    unfold f_Meetings_lay_42
    refine xZ.adv (me := xm191) hP_191 2 (pc' := 44) (lv' := [(0, .ref v0), (1, .ref v1), (2, .int v2), (3, .int v3)]) (st' := [.ref v0, .int v3]) rfl ?_
    refine xZ.k_gI (me := xm191) hP_191 rfl (fun x1 => ?_)
    refine xZ.ic_ge (me := xm191) hP_191 rfl (fun h1 => ?_) (fun h1 => ?_)
    · skip
      refine xZ.adv (me := xm191) hP_191 1 (pc' := 125) (lv' := [(0, .ref v0), (1, .ref v1), (2, .int v2), (3, .int v3)]) (st' := [.int v2]) rfl ?_
      exact xZ.reti (me := xm191) hP_191 rfl rfl
    · skip
      refine xZ.adv (me := xm191) hP_191 2 (pc' := 54) (lv' := [(0, .ref v0), (1, .ref v1), (2, .int v2), (3, .int v3)]) (st' := [.int (256 : Int32), .int v3]) rfl ?_
      refine xZ.ic_ge (me := xm191) hP_191 rfl (fun h2 => ?_) (fun h2 => ?_)
      · skip
        refine xZ.adv (me := xm191) hP_191 1 (pc' := 125) (lv' := [(0, .ref v0), (1, .ref v1), (2, .int v2), (3, .int v3)]) (st' := [.int v2]) rfl ?_
        exact xZ.reti (me := xm191) hP_191 rfl rfl
      · skip
        refine xZ.adv (me := xm191) hP_191 1 (pc' := 58) (lv' := [(0, .ref v0), (1, .ref v1), (2, .int v2), (3, .int v3)]) (st' := [.ref v0]) rfl ?_
        refine xZ.k_gR (me := xm191) hP_191 rfl (fun x2 => ?_)
        refine xZ.adv (me := xm191) hP_191 3 (pc' := 64) (lv' := [(0, .ref v0), (1, .ref v1), (2, .int v2), (3, .int v3)]) (st' := [.int v3, .ref v1, .int v3, .ref x2]) rfl ?_
        refine xZ.callv (κ := oL) (av := [.int v3]) (rest := [.int v3, .ref x2]) (st' := fun x3 => [.long x3, .int v3, .ref x2]) (k0 := v1) (me := xm191) hP_191 rfl (Or.inl rfl) ⟨rfl, by decide⟩ rfl rfl (Nat.le_of_ble_eq_true rfl) (by decide) hP_167 (Nat.le_of_ble_eq_true rfl) (fun _ => rfl) (k_f_Dates_rowAt O f (d + 2) v1 v3 M) (fun x3 M1 => ?_)
        refine xZ.calls (κ := oI) (av := [.long x3]) (rest := [.int v3, .ref x2]) (st' := fun x4 => [.int x4, .int v3, .ref x2]) (me := xm191) hP_191 rfl rfl rfl (Nat.le_of_ble_eq_true rfl) (by decide) hP_174 (Nat.le_of_ble_eq_true rfl) (fun _ => rfl) (k_f_Dates_numberOf O f (d + 2) x3 M1) (fun x4 M2 => ?_)
        refine xZ.k_wI (me := xm191) hP_191 rfl (fun M3 => ?_)
        refine xZ.adv (me := xm191) hP_191 1 (pc' := 72) (lv' := [(0, .ref v0), (1, .ref v1), (2, .int v2), (3, .int v3)]) (st' := [.ref v0]) rfl ?_
        refine xZ.k_gR (me := xm191) hP_191 rfl (fun x5 => ?_)
        refine xZ.adv (me := xm191) hP_191 3 (pc' := 78) (lv' := [(0, .ref v0), (1, .ref v1), (2, .int v2), (3, .int v3)]) (st' := [.int v3, .ref v1, .int v3, .ref x5]) rfl ?_
        refine xZ.callv (κ := oL) (av := [.int v3]) (rest := [.int v3, .ref x5]) (st' := fun x6 => [.long x6, .int v3, .ref x5]) (k0 := v1) (me := xm191) hP_191 rfl (Or.inl rfl) ⟨rfl, by decide⟩ rfl rfl (Nat.le_of_ble_eq_true rfl) (by decide) hP_167 (Nat.le_of_ble_eq_true rfl) (fun _ => rfl) (k_f_Dates_rowAt O f (d + 2) v1 v3 M3) (fun x6 M4 => ?_)
        refine xZ.calls (κ := oI) (av := [.long x6]) (rest := [.int v3, .ref x5]) (st' := fun x7 => [.int x7, .int v3, .ref x5]) (me := xm191) hP_191 rfl rfl rfl (Nat.le_of_ble_eq_true rfl) (by decide) hP_123 (Nat.le_of_ble_eq_true rfl) (fun _ => rfl) (k_f_Dates_dayIn O f (d + 2) x6 M4) (fun x7 M5 => ?_)
        refine xZ.k_wI (me := xm191) hP_191 rfl (fun M6 => ?_)
        refine xZ.adv (me := xm191) hP_191 1 (pc' := 86) (lv' := [(0, .ref v0), (1, .ref v1), (2, .int v2), (3, .int v3)]) (st' := [.ref v0]) rfl ?_
        refine xZ.k_gR (me := xm191) hP_191 rfl (fun x8 => ?_)
        refine xZ.adv (me := xm191) hP_191 4 (pc' := 93) (lv' := [(0, .ref v0), (1, .ref v1), (2, .int v2), (3, .int v3)]) (st' := [.int v3, .ref v1, .ref v0, .int v3, .ref x8]) rfl ?_
        refine xZ.callv (κ := oI) (av := [.int v3]) (rest := [.ref v0, .int v3, .ref x8]) (st' := fun x9 => [.int x9, .ref v0, .int v3, .ref x8]) (k0 := v1) (me := xm191) hP_191 rfl (Or.inl rfl) ⟨rfl, by decide⟩ rfl rfl (Nat.le_of_ble_eq_true rfl) (by decide) hP_171 (Nat.le_of_ble_eq_true rfl) (fun _ => rfl) (k_f_Dates_beginAt O f (d + 1) v1 v3 M6) (fun x9 M7 => ?_)
        refine xZ.adv (me := xm191) hP_191 2 (pc' := 98) (lv' := [(0, .ref v0), (1, .ref v1), (2, .int v2), (3, .int v3)]) (st' := [.int v3, .ref v1, .int x9, .ref v0, .int v3, .ref x8]) rfl ?_
        refine xZ.callv (κ := oI) (av := [.int v3]) (rest := [.int x9, .ref v0, .int v3, .ref x8]) (st' := fun x10 => [.int x10, .int x9, .ref v0, .int v3, .ref x8]) (k0 := v1) (me := xm191) hP_191 rfl (Or.inl rfl) ⟨rfl, by decide⟩ rfl rfl (Nat.le_of_ble_eq_true rfl) (by decide) hP_170 (Nat.le_of_ble_eq_true rfl) (fun _ => rfl) (k_f_Dates_endAt O f (d + 0) v1 v3 M7) (fun x10 M8 => ?_)
        refine xZ.callv (κ := oI) (av := [.int x9, .int x10]) (rest := [.int v3, .ref x8]) (st' := fun x11 => [.int x11, .int v3, .ref x8]) (k0 := v0) (me := xm191) hP_191 rfl (Or.inl rfl) ⟨rfl, by decide⟩ rfl rfl (Nat.le_of_ble_eq_true rfl) (by decide) hP_192 (Nat.le_of_ble_eq_true rfl) (fun _ => rfl) (k_f_Meetings_takeRoom O f (d + 2) v0 x9 x10 M8) (fun x11 M9 => ?_)
        refine xZ.k_wI (me := xm191) hP_191 rfl (fun M10 => ?_)
        refine xZ.adv (me := xm191) hP_191 1 (pc' := 106) (lv' := [(0, .ref v0), (1, .ref v1), (2, .int v2), (3, .int v3)]) (st' := [.ref v0]) rfl ?_
        refine xZ.k_gR (me := xm191) hP_191 rfl (fun x12 => ?_)
        refine xZ.adv (me := xm191) hP_191 1 (pc' := 110) (lv' := [(0, .ref v0), (1, .ref v1), (2, .int v2), (3, .int v3)]) (st' := [.int v3, .ref x12]) rfl ?_
        refine xZ.k_aI (me := xm191) hP_191 rfl (fun x13 => ?_)
        refine xZ.adv (me := xm191) hP_191 1 (pc' := 112) (lv' := [(0, .ref v0), (1, .ref v1), (2, .int v2), (3, .int v3)]) (st' := [.int (-1 : Int32), .int x13]) rfl ?_
        refine xZ.ic_ne (me := xm191) hP_191 rfl (fun h3 => ?_) (fun h3 => ?_)
        · skip
          refine xZ.adv (me := xm191) hP_191 3 (pc' := 42) (lv' := [(3, .int (v3 + (1 : Int32))), (2, .int (v2 + (1 : Int32))), (0, .ref v0), (1, .ref v1)]) (st' := []) rfl ?_
          exact xZ.sub (xsc (.tail _ (.tail _ (.head _))) (xsc (.tail _ (.tail _ (.tail _ (.head _)))) (xsc (.tail _ (.head _)) (xsc (.head _) xsn)))) (show ([3, 2, 0, 1] : List Nat).Nodup from by decide) (ih v0 v1 (v2 + (1 : Int32)) (v3 + (1 : Int32)) M10)
        · skip
          refine xZ.adv (me := xm191) hP_191 2 (pc' := 42) (lv' := [(3, .int (v3 + (1 : Int32))), (0, .ref v0), (1, .ref v1), (2, .int v2)]) (st' := []) rfl ?_
          exact xZ.sub (xsc (.tail _ (.head _)) (xsc (.tail _ (.tail _ (.head _))) (xsc (.tail _ (.tail _ (.tail _ (.head _)))) (xsc (.head _) xsn)))) (show ([3, 0, 1, 2] : List Nat).Nodup from by decide) (ih v0 v1 v2 (v3 + (1 : Int32)) M10)
def f_Meetings_lay_2 (O : Nat → Option va_E) (f : Nat) : Nat → Nat → Nat → Int32 → xM → Option (Int32 × xM)
  | 0, _, _, _, _ => none
  | n + 1, v0, v1, v2, M =>
    (gR O M v0 5 4).bind fun x1 =>
    (aN O M x1).bind fun x2 =>
    if x2 ≤ v2 then (
      (gI O M v1 2 0).bind fun x3 =>
      xcl (f_Math_min O f x3 (256 : Int32) M) fun x4 M1 =>
      (pI M1 v0 5 0 x4).bind fun M2 =>
      f_Meetings_lay_42 O f f v0 v1 (0 : Int32) (0 : Int32) M2
    ) else
    (gR O M v0 5 4).bind fun x5 =>
    (wI M x5 v2 (0 : Int32)).bind fun M3 =>
    f_Meetings_lay_2 O f n v0 v1 (v2 + (1 : Int32)) M3
set_option maxRecDepth 20000 in
theorem k_f_Meetings_lay_2 (O : Nat → Option va_E) (f d : Nat) : ∀ (n : Nat) (v0 : Nat) (v1 : Nat) (v2 : Int32) (M : xM), xZ oI O (d + 3) 191 2 [(0, .ref v0), (1, .ref v1), (2, .int v2)] [] M (f_Meetings_lay_2 O f n v0 v1 v2 M) := by
  intro n
  induction n with
  | zero =>
    intro v0 v1 v2 M
    exact xZ.no
  | succ n ih =>
    intro v0 v1 v2 M
    unfold f_Meetings_lay_2
    refine xZ.adv (me := xm191) hP_191 2 (pc' := 4) (lv' := [(0, .ref v0), (1, .ref v1), (2, .int v2)]) (st' := [.ref v0, .int v2]) rfl ?_
    refine xZ.k_gR (me := xm191) hP_191 rfl (fun x1 => ?_)
    refine xZ.k_aN (me := xm191) hP_191 rfl (fun x2 => ?_)
    refine xZ.ic_ge (me := xm191) hP_191 rfl (fun h1 => ?_) (fun h1 => ?_)
    · skip
      refine xZ.adv (me := xm191) hP_191 2 (pc' := 26) (lv' := [(0, .ref v0), (1, .ref v1), (2, .int v2)]) (st' := [.ref v1, .ref v0]) rfl ?_
      refine xZ.k_gI (me := xm191) hP_191 rfl (fun x3 => ?_)
      refine xZ.adv (me := xm191) hP_191 1 (pc' := 32) (lv' := [(0, .ref v0), (1, .ref v1), (2, .int v2)]) (st' := [.int (256 : Int32), .int x3, .ref v0]) rfl ?_
      refine xZ.calls (κ := oI) (av := [.int x3, .int (256 : Int32)]) (rest := [.ref v0]) (st' := fun x4 => [.int x4, .ref v0]) (me := xm191) hP_191 rfl rfl rfl (Nat.le_of_ble_eq_true rfl) (by decide) hP_248 (Nat.le_of_ble_eq_true rfl) (fun _ => rfl) (k_f_Math_min O f (d + 2) x3 (256 : Int32) M) (fun x4 M1 => ?_)
      refine xZ.k_pI (me := xm191) hP_191 rfl (fun M2 => ?_)
      refine xZ.adv (me := xm191) hP_191 4 (pc' := 42) (lv' := [(3, .int (0 : Int32)), (2, .int (0 : Int32)), (0, .ref v0), (1, .ref v1)]) (st' := []) rfl ?_
      exact xZ.sub (xsc (.tail _ (.tail _ (.head _))) (xsc (.tail _ (.tail _ (.tail _ (.head _)))) (xsc (.tail _ (.head _)) (xsc (.head _) xsn)))) (show ([3, 2, 0, 1] : List Nat).Nodup from by decide) (k_f_Meetings_lay_42 O f d f v0 v1 (0 : Int32) (0 : Int32) M2)
    · skip
      refine xZ.adv (me := xm191) hP_191 1 (pc' := 12) (lv' := [(0, .ref v0), (1, .ref v1), (2, .int v2)]) (st' := [.ref v0]) rfl ?_
      refine xZ.k_gR (me := xm191) hP_191 rfl (fun x5 => ?_)
      refine xZ.adv (me := xm191) hP_191 2 (pc' := 17) (lv' := [(0, .ref v0), (1, .ref v1), (2, .int v2)]) (st' := [.int (0 : Int32), .int v2, .ref x5]) rfl ?_
      refine xZ.k_wI (me := xm191) hP_191 rfl (fun M3 => ?_)
      refine xZ.adv (me := xm191) hP_191 2 (pc' := 2) (lv' := [(2, .int (v2 + (1 : Int32))), (0, .ref v0), (1, .ref v1)]) (st' := []) rfl ?_
      exact xZ.sub (xsc (.tail _ (.head _)) (xsc (.tail _ (.tail _ (.head _))) (xsc (.head _) xsn))) (show ([2, 0, 1] : List Nat).Nodup from by decide) (ih v0 v1 (v2 + (1 : Int32)) M3)
def f_Meetings_lay (O : Nat → Option va_E) (f : Nat) (v0 : Nat) (v1 : Nat) (M : xM) : Option (Int32 × xM) :=
  f_Meetings_lay_2 O f f v0 v1 (0 : Int32) M
set_option maxRecDepth 20000 in
theorem k_f_Meetings_lay (O : Nat → Option va_E) (f d : Nat) (v0 : Nat) (v1 : Nat) (M : xM) : xZ oI O (d + 3) 191 0 [(0, .ref v0), (1, .ref v1)] [] M (f_Meetings_lay O f v0 v1 M) := by
  unfold f_Meetings_lay
  refine xZ.adv (me := xm191) hP_191 2 (pc' := 2) (lv' := [(2, .int (0 : Int32)), (0, .ref v0), (1, .ref v1)]) (st' := []) rfl ?_
  exact xZ.sub (xsc (.tail _ (.head _)) (xsc (.tail _ (.tail _ (.head _))) (xsc (.head _) xsn))) (show ([2, 0, 1] : List Nat).Nodup from by decide) (k_f_Meetings_lay_2 O f d f v0 v1 (0 : Int32) M)
def f_Calendarhall_layRooms (O : Nat → Option va_E) (f : Nat) (v0 : Nat) (v1 : Int32) (v2 : Int32) (M : xM) : Option (Int32 × xM) :=
  xcl (f_Calendarhall_needPiece O f v1 v2 (10080 : Int32) M) fun _ M1 =>
  (gR O M1 v0 12 0).bind fun x2 =>
  (gR O M1 v0 12 4).bind fun x3 =>
  (gR O M1 v0 12 0).bind fun x4 =>
  (isO O M1 x4 4).bind fun _ =>
  xcl (f_Hall_seriesWithRoom O f x4 M1) fun x5 M2 =>
  (isO O M2 x2 4).bind fun _ =>
  xcl (f_Hall_collect O f x2 x3 x5 v1 v2 M2) fun _ M3 =>
  (gR O M3 v0 12 5).bind fun x7 =>
  (gR O M3 v0 12 4).bind fun x8 =>
  (isO O M3 x7 5).bind fun _ =>
  xcl (f_Meetings_lay O f x7 x8 M3) fun x9 M4 =>
  some (x9, M4)
set_option maxRecDepth 20000 in
theorem k_f_Calendarhall_layRooms (O : Nat → Option va_E) (f d : Nat) (v0 : Nat) (v1 : Int32) (v2 : Int32) (M : xM) : xZ oI O (d + 7) 188 0 [(0, .ref v0), (1, .int v1), (2, .int v2)] [] M (f_Calendarhall_layRooms O f v0 v1 v2 M) := by
  unfold f_Calendarhall_layRooms
  refine xZ.adv (me := xm188) hP_188 3 (pc' := 5) (lv' := [(0, .ref v0), (1, .int v1), (2, .int v2)]) (st' := [.int (10080 : Int32), .int v2, .int v1]) rfl ?_
  refine xZ.calls (κ := oU) (av := [.int v1, .int v2, .int (10080 : Int32)]) (rest := []) (st' := fun _ => []) (me := xm188) hP_188 rfl rfl rfl (Nat.le_of_ble_eq_true rfl) (by decide) hP_114 (Nat.le_of_ble_eq_true rfl) (fun _ => rfl) (k_f_Calendarhall_needPiece O f (d + 5) v1 v2 (10080 : Int32) M) (fun _ M1 => ?_)
  refine xZ.adv (me := xm188) hP_188 1 (pc' := 9) (lv' := [(0, .ref v0), (1, .int v1), (2, .int v2)]) (st' := [.ref v0]) rfl ?_
  refine xZ.k_gR (me := xm188) hP_188 rfl (fun x2 => ?_)
  refine xZ.adv (me := xm188) hP_188 1 (pc' := 13) (lv' := [(0, .ref v0), (1, .int v1), (2, .int v2)]) (st' := [.ref v0, .ref x2]) rfl ?_
  refine xZ.k_gR (me := xm188) hP_188 rfl (fun x3 => ?_)
  refine xZ.adv (me := xm188) hP_188 1 (pc' := 17) (lv' := [(0, .ref v0), (1, .int v1), (2, .int v2)]) (st' := [.ref v0, .ref x3, .ref x2]) rfl ?_
  refine xZ.k_gR (me := xm188) hP_188 rfl (fun x4 => ?_)
  refine xZ.callv (κ := oI) (av := []) (rest := [.ref x3, .ref x2]) (st' := fun x5 => [.int x5, .ref x3, .ref x2]) (k0 := x4) (me := xm188) hP_188 rfl (Or.inl rfl) ⟨rfl, by decide⟩ rfl rfl (Nat.le_of_ble_eq_true rfl) (by decide) hP_189 (Nat.le_of_ble_eq_true rfl) (fun _ => rfl) (k_f_Hall_seriesWithRoom O f (d + 6) x4 M1) (fun x5 M2 => ?_)
  refine xZ.adv (me := xm188) hP_188 2 (pc' := 25) (lv' := [(0, .ref v0), (1, .int v1), (2, .int v2)]) (st' := [.int v2, .int v1, .int x5, .ref x3, .ref x2]) rfl ?_
  refine xZ.callv (κ := oU) (av := [.ref x3, .int x5, .int v1, .int v2]) (rest := []) (st' := fun _ => []) (k0 := x2) (me := xm188) hP_188 rfl (Or.inl rfl) ⟨rfl, by decide⟩ rfl rfl (Nat.le_of_ble_eq_true rfl) (by decide) hP_190 (Nat.le_of_ble_eq_true rfl) (fun _ => rfl) (k_f_Hall_collect O f (d + 0) x2 x3 x5 v1 v2 M2) (fun _ M3 => ?_)
  refine xZ.adv (me := xm188) hP_188 1 (pc' := 29) (lv' := [(0, .ref v0), (1, .int v1), (2, .int v2)]) (st' := [.ref v0]) rfl ?_
  refine xZ.k_gR (me := xm188) hP_188 rfl (fun x7 => ?_)
  refine xZ.adv (me := xm188) hP_188 1 (pc' := 33) (lv' := [(0, .ref v0), (1, .int v1), (2, .int v2)]) (st' := [.ref v0, .ref x7]) rfl ?_
  refine xZ.k_gR (me := xm188) hP_188 rfl (fun x8 => ?_)
  refine xZ.callv (κ := oI) (av := [.ref x8]) (rest := []) (st' := fun x9 => [.int x9]) (k0 := x7) (me := xm188) hP_188 rfl (Or.inl rfl) ⟨rfl, by decide⟩ rfl rfl (Nat.le_of_ble_eq_true rfl) (by decide) hP_191 (Nat.le_of_ble_eq_true rfl) (fun _ => rfl) (k_f_Meetings_lay O f (d + 3) x7 x8 M3) (fun x9 M4 => ?_)
  exact xZ.reti (me := xm188) hP_188 rfl rfl
def f_Dates_mostAtOnce_62 (O : Nat → Option va_E) (f : Nat) (K4 : Nat → Int32 → Int32 → xM → Option (Int32 × xM)) (v0 : Nat) (v1 : Int32) (v2 : Int32) (v4 : Int32) (M : xM) : Option (Int32 × xM) :=
  xcl (f_Math_max O f v1 v4 M) fun x1 M1 =>
  K4 v0 x1 (v2 + (1 : Int32)) M1
set_option maxRecDepth 20000 in
theorem k_f_Dates_mostAtOnce_62 (O : Nat → Option va_E) (f d : Nat) (K4 : Nat → Int32 → Int32 → xM → Option (Int32 × xM)) (hK4 : ∀ (v0 : Nat) (v1 : Int32) (v2 : Int32) M, xZ oI O (d + 3) 194 4 [(0, .ref v0), (1, .int v1), (2, .int v2)] [] M (K4 v0 v1 v2 M)) (v0 : Nat) (v1 : Int32) (v2 : Int32) (v4 : Int32) (M : xM) : xZ oI O (d + 3) 194 62 [(0, .ref v0), (1, .int v1), (2, .int v2), (4, .int v4)] [] M (f_Dates_mostAtOnce_62 O f K4 v0 v1 v2 v4 M) := by
  unfold f_Dates_mostAtOnce_62
  refine xZ.adv (me := xm194) hP_194 2 (pc' := 65) (lv' := [(0, .ref v0), (1, .int v1), (2, .int v2), (4, .int v4)]) (st' := [.int v4, .int v1]) rfl ?_
  refine xZ.calls (κ := oI) (av := [.int v1, .int v4]) (rest := []) (st' := fun x1 => [.int x1]) (me := xm194) hP_194 rfl rfl rfl (Nat.le_of_ble_eq_true rfl) (by decide) hP_247 (Nat.le_of_ble_eq_true rfl) (fun _ => rfl) (k_f_Math_max O f (d + 2) v1 v4 M) (fun x1 M1 => ?_)
  refine xZ.adv (me := xm194) hP_194 3 (pc' := 4) (lv' := [(2, .int (v2 + (1 : Int32))), (1, .int x1), (0, .ref v0), (4, .int v4)]) (st' := []) rfl ?_
  exact xZ.sub (xsc (.tail _ (.tail _ (.head _))) (xsc (.tail _ (.head _)) (xsc (.head _) xsn))) (show ([2, 1, 0, 4] : List Nat).Nodup from by decide) (hK4 v0 x1 (v2 + (1 : Int32)) M1)
def f_Dates_mostAtOnce_24 (O : Nat → Option va_E) (f : Nat) (K4 : Nat → Int32 → Int32 → xM → Option (Int32 × xM)) : Nat → Nat → Int32 → Int32 → Int32 → Int32 → Int32 → xM → Option (Int32 × xM)
  | 0, _, _, _, _, _, _, _ => none
  | n + 1, v0, v1, v2, v3, v4, v5, M =>
    if v5 < 0 then (
      f_Dates_mostAtOnce_62 O f K4 v0 v1 v2 v4 M
    ) else
    (isO O M v0 2).bind fun _ =>
    xcl (f_Dates_beginAt O f v0 v5 M) fun x1 M1 =>
    if (x1 + (600 : Int32)) ≤ v3 then (
      f_Dates_mostAtOnce_62 O f K4 v0 v1 v2 v4 M1
    ) else
    (isO O M1 v0 2).bind fun _ =>
    xcl (f_Dates_endAt O f v0 v5 M1) fun x2 M2 =>
    if x2 ≤ v3 then (
      f_Dates_mostAtOnce_24 O f K4 n v0 v1 v2 v3 v4 (v5 + (-1 : Int32)) M2
    ) else
    f_Dates_mostAtOnce_24 O f K4 n v0 v1 v2 v3 (v4 + (1 : Int32)) (v5 + (-1 : Int32)) M2
set_option maxRecDepth 20000 in
theorem k_f_Dates_mostAtOnce_24 (O : Nat → Option va_E) (f d : Nat) (K4 : Nat → Int32 → Int32 → xM → Option (Int32 × xM)) (hK4 : ∀ (v0 : Nat) (v1 : Int32) (v2 : Int32) M, xZ oI O (d + 3) 194 4 [(0, .ref v0), (1, .int v1), (2, .int v2)] [] M (K4 v0 v1 v2 M)) : ∀ (n : Nat) (v0 : Nat) (v1 : Int32) (v2 : Int32) (v3 : Int32) (v4 : Int32) (v5 : Int32) (M : xM), xZ oI O (d + 3) 194 24 [(0, .ref v0), (1, .int v1), (2, .int v2), (3, .int v3), (4, .int v4), (5, .int v5)] [] M (f_Dates_mostAtOnce_24 O f K4 n v0 v1 v2 v3 v4 v5 M) := by
  intro n
  induction n with
  | zero =>
    intro v0 v1 v2 v3 v4 v5 M
    exact xZ.no
  | succ n ih =>
    intro v0 v1 v2 v3 v4 v5 M
    unfold f_Dates_mostAtOnce_24
    refine xZ.adv (me := xm194) hP_194 1 (pc' := 26) (lv' := [(0, .ref v0), (1, .int v1), (2, .int v2), (3, .int v3), (4, .int v4), (5, .int v5)]) (st' := [.int v5]) rfl ?_
    refine xZ.if_lt (me := xm194) hP_194 rfl (fun h1 => ?_) (fun h1 => ?_)
    · skip
      exact xZ.sub (xsc (.head _) (xsc (.tail _ (.head _)) (xsc (.tail _ (.tail _ (.head _))) (xsc (.tail _ (.tail _ (.tail _ (.tail _ (.head _))))) xsn)))) (show ([0, 1, 2, 3, 4, 5] : List Nat).Nodup from by decide) (k_f_Dates_mostAtOnce_62 O f d K4 hK4 v0 v1 v2 v4 M)
    · skip
      refine xZ.adv (me := xm194) hP_194 2 (pc' := 32) (lv' := [(0, .ref v0), (1, .int v1), (2, .int v2), (3, .int v3), (4, .int v4), (5, .int v5)]) (st' := [.int v5, .ref v0]) rfl ?_
      refine xZ.callv (κ := oI) (av := [.int v5]) (rest := []) (st' := fun x1 => [.int x1]) (k0 := v0) (me := xm194) hP_194 rfl (Or.inl rfl) ⟨rfl, by decide⟩ rfl rfl (Nat.le_of_ble_eq_true rfl) (by decide) hP_171 (Nat.le_of_ble_eq_true rfl) (fun _ => rfl) (k_f_Dates_beginAt O f (d + 1) v0 v5 M) (fun x1 M1 => ?_)
      refine xZ.adv (me := xm194) hP_194 3 (pc' := 40) (lv' := [(0, .ref v0), (1, .int v1), (2, .int v2), (3, .int v3), (4, .int v4), (5, .int v5)]) (st' := [.int v3, .int (x1 + (600 : Int32))]) rfl ?_
      refine xZ.ic_le (me := xm194) hP_194 rfl (fun h2 => ?_) (fun h2 => ?_)
      · skip
        exact xZ.sub (xsc (.head _) (xsc (.tail _ (.head _)) (xsc (.tail _ (.tail _ (.head _))) (xsc (.tail _ (.tail _ (.tail _ (.tail _ (.head _))))) xsn)))) (show ([0, 1, 2, 3, 4, 5] : List Nat).Nodup from by decide) (k_f_Dates_mostAtOnce_62 O f d K4 hK4 v0 v1 v2 v4 M1)
      · skip
        refine xZ.adv (me := xm194) hP_194 2 (pc' := 46) (lv' := [(0, .ref v0), (1, .int v1), (2, .int v2), (3, .int v3), (4, .int v4), (5, .int v5)]) (st' := [.int v5, .ref v0]) rfl ?_
        refine xZ.callv (κ := oI) (av := [.int v5]) (rest := []) (st' := fun x2 => [.int x2]) (k0 := v0) (me := xm194) hP_194 rfl (Or.inl rfl) ⟨rfl, by decide⟩ rfl rfl (Nat.le_of_ble_eq_true rfl) (by decide) hP_170 (Nat.le_of_ble_eq_true rfl) (fun _ => rfl) (k_f_Dates_endAt O f (d + 0) v0 v5 M1) (fun x2 M2 => ?_)
        refine xZ.adv (me := xm194) hP_194 1 (pc' := 50) (lv' := [(0, .ref v0), (1, .int v1), (2, .int v2), (3, .int v3), (4, .int v4), (5, .int v5)]) (st' := [.int v3, .int x2]) rfl ?_
        refine xZ.ic_le (me := xm194) hP_194 rfl (fun h3 => ?_) (fun h3 => ?_)
        · skip
          refine xZ.adv (me := xm194) hP_194 2 (pc' := 24) (lv' := [(5, .int (v5 + (-1 : Int32))), (0, .ref v0), (1, .int v1), (2, .int v2), (3, .int v3), (4, .int v4)]) (st' := []) rfl ?_
          exact xZ.sub (xsc (.tail _ (.head _)) (xsc (.tail _ (.tail _ (.head _))) (xsc (.tail _ (.tail _ (.tail _ (.head _)))) (xsc (.tail _ (.tail _ (.tail _ (.tail _ (.head _))))) (xsc (.tail _ (.tail _ (.tail _ (.tail _ (.tail _ (.head _)))))) (xsc (.head _) xsn)))))) (show ([5, 0, 1, 2, 3, 4] : List Nat).Nodup from by decide) (ih v0 v1 v2 v3 v4 (v5 + (-1 : Int32)) M2)
        · skip
          refine xZ.adv (me := xm194) hP_194 3 (pc' := 24) (lv' := [(5, .int (v5 + (-1 : Int32))), (4, .int (v4 + (1 : Int32))), (0, .ref v0), (1, .int v1), (2, .int v2), (3, .int v3)]) (st' := []) rfl ?_
          exact xZ.sub (xsc (.tail _ (.tail _ (.head _))) (xsc (.tail _ (.tail _ (.tail _ (.head _)))) (xsc (.tail _ (.tail _ (.tail _ (.tail _ (.head _))))) (xsc (.tail _ (.tail _ (.tail _ (.tail _ (.tail _ (.head _)))))) (xsc (.tail _ (.head _)) (xsc (.head _) xsn)))))) (show ([5, 4, 0, 1, 2, 3] : List Nat).Nodup from by decide) (ih v0 v1 v2 v3 (v4 + (1 : Int32)) (v5 + (-1 : Int32)) M2)
def f_Dates_mostAtOnce_4 (O : Nat → Option va_E) (f : Nat) : Nat → Nat → Int32 → Int32 → xM → Option (Int32 × xM)
  | 0, _, _, _, _ => none
  | n + 1, v0, v1, v2, M =>
    (gI O M v0 2 0).bind fun x1 =>
    if x1 ≤ v2 then (
      some (v1, M)
    ) else
    (isO O M v0 2).bind fun _ =>
    xcl (f_Dates_beginAt O f v0 v2 M) fun x2 M1 =>
    f_Dates_mostAtOnce_24 O f (f_Dates_mostAtOnce_4 O f n) f v0 v1 v2 x2 (0 : Int32) v2 M1
set_option maxRecDepth 20000 in
theorem k_f_Dates_mostAtOnce_4 (O : Nat → Option va_E) (f d : Nat) : ∀ (n : Nat) (v0 : Nat) (v1 : Int32) (v2 : Int32) (M : xM), xZ oI O (d + 3) 194 4 [(0, .ref v0), (1, .int v1), (2, .int v2)] [] M (f_Dates_mostAtOnce_4 O f n v0 v1 v2 M) := by
  intro n
  induction n with
  | zero =>
    intro v0 v1 v2 M
    exact xZ.no
  | succ n ih =>
    intro v0 v1 v2 M
    unfold f_Dates_mostAtOnce_4
    refine xZ.adv (me := xm194) hP_194 2 (pc' := 6) (lv' := [(0, .ref v0), (1, .int v1), (2, .int v2)]) (st' := [.ref v0, .int v2]) rfl ?_
    refine xZ.k_gI (me := xm194) hP_194 rfl (fun x1 => ?_)
    refine xZ.ic_ge (me := xm194) hP_194 rfl (fun h1 => ?_) (fun h1 => ?_)
    · skip
      refine xZ.adv (me := xm194) hP_194 1 (pc' := 76) (lv' := [(0, .ref v0), (1, .int v1), (2, .int v2)]) (st' := [.int v1]) rfl ?_
      exact xZ.reti (me := xm194) hP_194 rfl rfl
    · skip
      refine xZ.adv (me := xm194) hP_194 2 (pc' := 14) (lv' := [(0, .ref v0), (1, .int v1), (2, .int v2)]) (st' := [.int v2, .ref v0]) rfl ?_
      refine xZ.callv (κ := oI) (av := [.int v2]) (rest := []) (st' := fun x2 => [.int x2]) (k0 := v0) (me := xm194) hP_194 rfl (Or.inl rfl) ⟨rfl, by decide⟩ rfl rfl (Nat.le_of_ble_eq_true rfl) (by decide) hP_171 (Nat.le_of_ble_eq_true rfl) (fun _ => rfl) (k_f_Dates_beginAt O f (d + 1) v0 v2 M) (fun x2 M1 => ?_)
      refine xZ.adv (me := xm194) hP_194 5 (pc' := 24) (lv' := [(5, .int v2), (4, .int (0 : Int32)), (3, .int x2), (0, .ref v0), (1, .int v1), (2, .int v2)]) (st' := []) rfl ?_
      exact xZ.sub (xsc (.tail _ (.tail _ (.tail _ (.head _)))) (xsc (.tail _ (.tail _ (.tail _ (.tail _ (.head _))))) (xsc (.tail _ (.tail _ (.tail _ (.tail _ (.tail _ (.head _)))))) (xsc (.tail _ (.tail _ (.head _))) (xsc (.tail _ (.head _)) (xsc (.head _) xsn)))))) (show ([5, 4, 3, 0, 1, 2] : List Nat).Nodup from by decide) (k_f_Dates_mostAtOnce_24 O f d (f_Dates_mostAtOnce_4 O f n) ih f v0 v1 v2 x2 (0 : Int32) v2 M1)
def f_Dates_mostAtOnce (O : Nat → Option va_E) (f : Nat) (v0 : Nat) (M : xM) : Option (Int32 × xM) :=
  f_Dates_mostAtOnce_4 O f f v0 (0 : Int32) (0 : Int32) M
set_option maxRecDepth 20000 in
theorem k_f_Dates_mostAtOnce (O : Nat → Option va_E) (f d : Nat) (v0 : Nat) (M : xM) : xZ oI O (d + 3) 194 0 [(0, .ref v0)] [] M (f_Dates_mostAtOnce O f v0 M) := by
  unfold f_Dates_mostAtOnce
  refine xZ.adv (me := xm194) hP_194 4 (pc' := 4) (lv' := [(2, .int (0 : Int32)), (1, .int (0 : Int32)), (0, .ref v0)]) (st' := []) rfl ?_
  exact xZ.sub (xsc (.tail _ (.tail _ (.head _))) (xsc (.tail _ (.head _)) (xsc (.head _) xsn))) (show ([2, 1, 0] : List Nat).Nodup from by decide) (k_f_Dates_mostAtOnce_4 O f d f v0 (0 : Int32) (0 : Int32) M)
