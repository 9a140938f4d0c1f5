/-! ===== texts ===== -/
def f_Calendarhall_clashes (O : Nat → Option va_E) (f : Nat) (v0 : Nat) (v1 : Int) (v2 : Int) (v3 : Int) (M : xM) : Option (Int × xM) :=
  (isO O M v0 12).bind fun _ =>
  xcl (f_Calendarhall_personNumbered O f v0 v1 M) fun x1 M1 =>
  xcl (f_Calendarhall_needPiece O f v2 v3 10080 M1) fun _ M2 =>
  (gR O M2 v0 12 0).bind fun x3 =>
  (gR O M2 v0 12 4).bind fun x4 =>
  (gR O M2 v0 12 0).bind fun x5 =>
  (isO O M2 x5 4).bind fun _ =>
  xcl (f_Hall_seriesOf O f x5 (jshl 1 (jand v1 31)) M2) fun x6 M3 =>
  (isO O M3 x3 4).bind fun _ =>
  xcl (f_Hall_collect O f x3 x4 x6 v2 v3 M3) fun _ M4 =>
  (gR O M4 v0 12 5).bind fun x8 =>
  (gR O M4 v0 12 4).bind fun x9 =>
  (gR O M4 v0 12 0).bind fun x10 =>
  (isO O M4 x8 5).bind fun _ =>
  xcl (f_Meetings_findClashes O f x8 x9 x10 M4) fun x11 M5 =>
  some (x11, M5)
set_option maxRecDepth 20000 in
theorem k_f_Calendarhall_clashes (O : Nat → Option va_E) (f d : Nat) (v0 : Nat) (v1 : Int) (v2 : Int) (v3 : Int) (M : xM) : xZ oJ O (d + 7) 198 0 [(0, .ref v0), (1, .int (yw v1)), (2, .int (yw v2)), (3, .int (yw v3))] [] M (f_Calendarhall_clashes O f v0 v1 v2 v3 M) := by
  unfold f_Calendarhall_clashes
  refine xZ.adv (me := xm198) hP_198 2 (pc' := 2) (lv' := [(0, .ref v0), (1, .int (yw v1)), (2, .int (yw v2)), (3, .int (yw v3))]) (st' := [.int (yw v1), .ref v0]) rfl ?_
  refine xZ.callv (κ := oR) (av := [.int (yw v1)]) (rest := []) (st' := fun x1 => [.ref x1]) (k0 := v0) (me := xm198) hP_198 rfl (Or.inl rfl) ⟨rfl, by decide⟩ rfl rfl (Nat.le_of_ble_eq_true rfl) (by decide) hP_148 (Nat.le_of_ble_eq_true rfl) (fun _ => rfl) (k_f_Calendarhall_personNumbered O f (d + 5) v0 v1 M) (fun x1 M1 => ?_)
  refine xZ.adv (me := xm198) hP_198 4 (pc' := 11) (lv' := [(0, .ref v0), (1, .int (yw v1)), (2, .int (yw v2)), (3, .int (yw v3))]) (st' := [.int (10080 : Int32), .int (yw v3), .int (yw v2)]) rfl ?_
  refine xZ.eqs (lv2 := [(0, .ref v0), (1, .int (yw v1)), (2, .int (yw v2)), (3, .int (yw v3))]) (st2 := [.int (yw 10080), .int (yw v3), .int (yw v2)]) rfl (by simp only [yl_lit, yL_lit, yw_add, yw_sub, yw_mul, yw_neg, yl_add, yl_sub, yl_mul, cj_and, cj_or, cj_xor, cj_shl, cj_shr, cj_ushr, cj_div, cj_i2c, cj_i2b, cj_dc, ck_and, ck_or, ck_xor, ck_shl, ck_shr, ck_ushr, ck_i2l, ck_l2i, ck_cmp]) ?_
  refine xZ.calls (κ := oU) (av := [.int (yw v2), .int (yw v3), .int (yw 10080)]) (rest := []) (st' := fun _ => []) (me := xm198) hP_198 rfl rfl rfl (Nat.le_of_ble_eq_true rfl) (by decide) hP_114 (Nat.le_of_ble_eq_true rfl) (fun _ => rfl) (k_f_Calendarhall_needPiece O f (d + 5) v2 v3 10080 M1) (fun _ M2 => ?_)
  refine xZ.adv (me := xm198) hP_198 1 (pc' := 15) (lv' := [(0, .ref v0), (1, .int (yw v1)), (2, .int (yw v2)), (3, .int (yw v3))]) (st' := [.ref v0]) rfl ?_
  refine xZ.k_gR (me := xm198) hP_198 rfl (fun x3 => ?_)
  refine xZ.adv (me := xm198) hP_198 1 (pc' := 19) (lv' := [(0, .ref v0), (1, .int (yw v1)), (2, .int (yw v2)), (3, .int (yw v3))]) (st' := [.ref v0, .ref x3]) rfl ?_
  refine xZ.k_gR (me := xm198) hP_198 rfl (fun x4 => ?_)
  refine xZ.adv (me := xm198) hP_198 1 (pc' := 23) (lv' := [(0, .ref v0), (1, .int (yw v1)), (2, .int (yw v2)), (3, .int (yw v3))]) (st' := [.ref v0, .ref x4, .ref x3]) rfl ?_
  refine xZ.k_gR (me := xm198) hP_198 rfl (fun x5 => ?_)
  refine xZ.adv (me := xm198) hP_198 3 (pc' := 29) (lv' := [(0, .ref v0), (1, .int (yw v1)), (2, .int (yw v2)), (3, .int (yw v3))]) (st' := [.int ((1 : Int32) <<< ((yw v1) &&& 31)), .ref x5, .ref x4, .ref x3]) rfl ?_
  refine xZ.eqs (lv2 := [(0, .ref v0), (1, .int (yw v1)), (2, .int (yw v2)), (3, .int (yw v3))]) (st2 := [.int (yw (jshl 1 (jand v1 31))), .ref x5, .ref x4, .ref x3]) rfl (by simp only [yl_lit, yL_lit, yw_add, yw_sub, yw_mul, yw_neg, yl_add, yl_sub, yl_mul, cj_and, cj_or, cj_xor, cj_shl, cj_shr, cj_ushr, cj_div, cj_i2c, cj_i2b, cj_dc, ck_and, ck_or, ck_xor, ck_shl, ck_shr, ck_ushr, ck_i2l, ck_l2i, ck_cmp]) ?_
  refine xZ.callv (κ := oJ) (av := [.int (yw (jshl 1 (jand v1 31)))]) (rest := [.ref x4, .ref x3]) (st' := fun x6 => [.int (yw x6), .ref x4, .ref x3]) (k0 := x5) (me := xm198) hP_198 rfl (Or.inl rfl) ⟨rfl, by decide⟩ rfl rfl (Nat.le_of_ble_eq_true rfl) (by decide) hP_158 (Nat.le_of_ble_eq_true rfl) (fun _ => rfl) (k_f_Hall_seriesOf O f (d + 5) x5 (jshl 1 (jand v1 31)) M2) (fun x6 M3 => ?_)
  refine xZ.adv (me := xm198) hP_198 2 (pc' := 34) (lv' := [(0, .ref v0), (1, .int (yw v1)), (2, .int (yw v2)), (3, .int (yw v3))]) (st' := [.int (yw v3), .int (yw v2), .int (yw x6), .ref x4, .ref x3]) rfl ?_
  refine xZ.callv (κ := oU) (av := [.ref x4, .int (yw x6), .int (yw v2), .int (yw v3)]) (rest := []) (st' := fun _ => []) (k0 := x3) (me := xm198) hP_198 rfl (Or.inl rfl) ⟨rfl, by decide⟩ rfl rfl (Nat.le_of_ble_eq_true rfl) (by decide) hP_190 (Nat.le_of_ble_eq_true rfl) (fun _ => rfl) (k_f_Hall_collect O f (d + 0) x3 x4 x6 v2 v3 M3) (fun _ M4 => ?_)
  refine xZ.adv (me := xm198) hP_198 1 (pc' := 38) (lv' := [(0, .ref v0), (1, .int (yw v1)), (2, .int (yw v2)), (3, .int (yw v3))]) (st' := [.ref v0]) rfl ?_
  refine xZ.k_gR (me := xm198) hP_198 rfl (fun x8 => ?_)
  refine xZ.adv (me := xm198) hP_198 1 (pc' := 42) (lv' := [(0, .ref v0), (1, .int (yw v1)), (2, .int (yw v2)), (3, .int (yw v3))]) (st' := [.ref v0, .ref x8]) rfl ?_
  refine xZ.k_gR (me := xm198) hP_198 rfl (fun x9 => ?_)
  refine xZ.adv (me := xm198) hP_198 1 (pc' := 46) (lv' := [(0, .ref v0), (1, .int (yw v1)), (2, .int (yw v2)), (3, .int (yw v3))]) (st' := [.ref v0, .ref x9, .ref x8]) rfl ?_
  refine xZ.k_gR (me := xm198) hP_198 rfl (fun x10 => ?_)
  refine xZ.callv (κ := oJ) (av := [.ref x9, .ref x10]) (rest := []) (st' := fun x11 => [.int (yw x11)]) (k0 := x8) (me := xm198) hP_198 rfl (Or.inl rfl) ⟨rfl, by decide⟩ rfl rfl (Nat.le_of_ble_eq_true rfl) (by decide) hP_199 (Nat.le_of_ble_eq_true rfl) (fun _ => rfl) (k_f_Meetings_findClashes O f (d + 3) x8 x9 x10 M4) (fun x11 M5 => ?_)
  exact xZ.jreti (me := xm198) hP_198 rfl rfl
def f_Law_areLaid_747 (O : Nat → Option va_E) (f : Nat) (K510 : Nat → Nat → Int → Int → Nat → Nat → Int → Int → Int → Int → xM → Option (Int × xM)) (v0 : Nat) (v4 : Nat) (v5 : Int) (v6 : Int) (v7 : Nat) (v10 : Nat) (v11 : Int) (v13 : Int) (v14 : Int) (s0 : Int) (s1 : Int) (M : xM) : Option (Int × xM) :=
  K510 v0 v4 v5 v6 v7 v10 v11 (s0 + s1) v13 (v14 + 1) M
set_option maxRecDepth 20000 in
theorem k_f_Law_areLaid_747 (O : Nat → Option va_E) (f d : Nat) (K510 : Nat → Nat → Int → Int → Nat → Nat → Int → Int → Int → Int → xM → Option (Int × xM)) (hK510 : ∀ (v0 : Nat) (v4 : Nat) (v5 : Int) (v6 : Int) (v7 : Nat) (v10 : Nat) (v11 : Int) (v12 : Int) (v13 : Int) (v14 : Int) M, xZ oJ O (d + 9) 186 510 [(0, .ref v0), (4, .ref v4), (5, .int (yw v5)), (6, .int (yw v6)), (7, .ref v7), (10, .ref v10), (11, .int (yw v11)), (12, .int (yw v12)), (13, .int (yw v13)), (14, .int (yw v14))] [] M (K510 v0 v4 v5 v6 v7 v10 v11 v12 v13 v14 M)) (v0 : Nat) (v4 : Nat) (v5 : Int) (v6 : Int) (v7 : Nat) (v10 : Nat) (v11 : Int) (v13 : Int) (v14 : Int) (s0 : Int) (s1 : Int) (M : xM) : xZ oJ O (d + 9) 186 747 [(0, .ref v0), (4, .ref v4), (5, .int (yw v5)), (6, .int (yw v6)), (7, .ref v7), (10, .ref v10), (11, .int (yw v11)), (13, .int (yw v13)), (14, .int (yw v14))] [.int (yw s1), .int (yw s0)] M (f_Law_areLaid_747 O f K510 v0 v4 v5 v6 v7 v10 v11 v13 v14 s0 s1 M) := by
  unfold f_Law_areLaid_747
  refine xZ.adv (me := xm186) hP_186 4 (pc' := 510) (lv' := [(14, .int ((yw v14) + (1 : Int32))), (12, .int ((yw s0) + (yw s1))), (0, .ref v0), (4, .ref v4), (5, .int (yw v5)), (6, .int (yw v6)), (7, .ref v7), (10, .ref v10), (11, .int (yw v11)), (13, .int (yw v13))]) (st' := []) rfl ?_
  refine xZ.eqs (lv2 := [(14, .int (yw (v14 + 1))), (12, .int (yw (s0 + s1))), (0, .ref v0), (4, .ref v4), (5, .int (yw v5)), (6, .int (yw v6)), (7, .ref v7), (10, .ref v10), (11, .int (yw v11)), (13, .int (yw v13))]) (st2 := []) (by simp only [yl_lit, yL_lit, yw_add, yw_sub, yw_mul, yw_neg, yl_add, yl_sub, yl_mul, cj_and, cj_or, cj_xor, cj_shl, cj_shr, cj_ushr, cj_div, cj_i2c, cj_i2b, cj_dc, ck_and, ck_or, ck_xor, ck_shl, ck_shr, ck_ushr, ck_i2l, ck_l2i, ck_cmp]) rfl ?_
  exact xZ.sub (xsc (.tail _ (.tail _ (.head _))) (xsc (.tail _ (.tail _ (.tail _ (.head _)))) (xsc (.tail _ (.tail _ (.tail _ (.tail _ (.head _))))) (xsc (.tail _ (.tail _ (.tail _ (.tail _ (.tail _ (.head _)))))) (xsc (.tail _ (.tail _ (.tail _ (.tail _ (.tail _ (.tail _ (.head _))))))) (xsc (.tail _ (.tail _ (.tail _ (.tail _ (.tail _ (.tail _ (.tail _ (.head _)))))))) (xsc (.tail _ (.tail _ (.tail _ (.tail _ (.tail _ (.tail _ (.tail _ (.tail _ (.head _))))))))) (xsc (.tail _ (.head _)) (xsc (.tail _ (.tail _ (.tail _ (.tail _ (.tail _ (.tail _ (.tail _ (.tail _ (.tail _ (.head _)))))))))) (xsc (.head _) xsn)))))))))) (show ([14, 12, 0, 4, 5, 6, 7, 10, 11, 13] : List Nat).Nodup from by decide) (hK510 v0 v4 v5 v6 v7 v10 v11 (s0 + s1) v13 (v14 + 1) M)
def f_Law_areLaid_742 (O : Nat → Option va_E) (f : Nat) (K510 : Nat → Nat → Int → Int → Nat → Nat → Int → Int → Int → Int → xM → Option (Int × xM)) (v0 : Nat) (v4 : Nat) (v5 : Int) (v6 : Int) (v7 : Nat) (v10 : Nat) (v11 : Int) (v13 : Int) (v14 : Int) (s0 : Int) (M : xM) : Option (Int × xM) :=
  f_Law_areLaid_747 O f K510 v0 v4 v5 v6 v7 v10 v11 v13 v14 s0 1 M
set_option maxRecDepth 20000 in
theorem k_f_Law_areLaid_742 (O : Nat → Option va_E) (f d : Nat) (K510 : Nat → Nat → Int → Int → Nat → Nat → Int → Int → Int → Int → xM → Option (Int × xM)) (hK510 : ∀ (v0 : Nat) (v4 : Nat) (v5 : Int) (v6 : Int) (v7 : Nat) (v10 : Nat) (v11 : Int) (v12 : Int) (v13 : Int) (v14 : Int) M, xZ oJ O (d + 9) 186 510 [(0, .ref v0), (4, .ref v4), (5, .int (yw v5)), (6, .int (yw v6)), (7, .ref v7), (10, .ref v10), (11, .int (yw v11)), (12, .int (yw v12)), (13, .int (yw v13)), (14, .int (yw v14))] [] M (K510 v0 v4 v5 v6 v7 v10 v11 v12 v13 v14 M)) (v0 : Nat) (v4 : Nat) (v5 : Int) (v6 : Int) (v7 : Nat) (v10 : Nat) (v11 : Int) (v13 : Int) (v14 : Int) (s0 : Int) (M : xM) : xZ oJ O (d + 9) 186 742 [(0, .ref v0), (4, .ref v4), (5, .int (yw v5)), (6, .int (yw v6)), (7, .ref v7), (10, .ref v10), (11, .int (yw v11)), (13, .int (yw v13)), (14, .int (yw v14))] [.int (yw s0)] M (f_Law_areLaid_742 O f K510 v0 v4 v5 v6 v7 v10 v11 v13 v14 s0 M) := by
  unfold f_Law_areLaid_742
  refine xZ.adv (me := xm186) hP_186 2 (pc' := 747) (lv' := [(0, .ref v0), (4, .ref v4), (5, .int (yw v5)), (6, .int (yw v6)), (7, .ref v7), (10, .ref v10), (11, .int (yw v11)), (13, .int (yw v13)), (14, .int (yw v14))]) (st' := [.int (1 : Int32), .int (yw s0)]) rfl ?_
  refine xZ.eqs (lv2 := [(0, .ref v0), (4, .ref v4), (5, .int (yw v5)), (6, .int (yw v6)), (7, .ref v7), (10, .ref v10), (11, .int (yw v11)), (13, .int (yw v13)), (14, .int (yw v14))]) (st2 := [.int (yw 1), .int (yw s0)]) rfl (by simp only [yl_lit, yL_lit, yw_add, yw_sub, yw_mul, yw_neg, yl_add, yl_sub, yl_mul, cj_and, cj_or, cj_xor, cj_shl, cj_shr, cj_ushr, cj_div, cj_i2c, cj_i2b, cj_dc, ck_and, ck_or, ck_xor, ck_shl, ck_shr, ck_ushr, ck_i2l, ck_l2i, ck_cmp]) ?_
  exact (k_f_Law_areLaid_747 O f d K510 hK510 v0 v4 v5 v6 v7 v10 v11 v13 v14 s0 1 M)
def f_Law_areLaid_726 (O : Nat → Option va_E) (f : Nat) (K510 : Nat → Nat → Int → Int → Nat → Nat → Int → Int → Int → Int → xM → Option (Int × xM)) (v0 : Nat) (v4 : Nat) (v5 : Int) (v6 : Int) (v7 : Nat) (v10 : Nat) (v11 : Int) (v12 : Int) (v13 : Int) (v14 : Int) (v16 : Int) (s0 : Int) (M : xM) : Option (Int × xM) :=
  if yw v16 < yw 0 then (
    f_Law_areLaid_742 O f K510 v0 v4 v5 v6 v7 v10 v11 v13 v14 v12 M
  ) else
  if yw s0 ≤ yw v16 then (
    f_Law_areLaid_747 O f K510 v0 v4 v5 v6 v7 v10 v11 v13 v14 v12 0 M
  ) else
  f_Law_areLaid_742 O f K510 v0 v4 v5 v6 v7 v10 v11 v13 v14 v12 M
set_option maxRecDepth 20000 in
theorem k_f_Law_areLaid_726 (O : Nat → Option va_E) (f d : Nat) (K510 : Nat → Nat → Int → Int → Nat → Nat → Int → Int → Int → Int → xM → Option (Int × xM)) (hK510 : ∀ (v0 : Nat) (v4 : Nat) (v5 : Int) (v6 : Int) (v7 : Nat) (v10 : Nat) (v11 : Int) (v12 : Int) (v13 : Int) (v14 : Int) M, xZ oJ O (d + 9) 186 510 [(0, .ref v0), (4, .ref v4), (5, .int (yw v5)), (6, .int (yw v6)), (7, .ref v7), (10, .ref v10), (11, .int (yw v11)), (12, .int (yw v12)), (13, .int (yw v13)), (14, .int (yw v14))] [] M (K510 v0 v4 v5 v6 v7 v10 v11 v12 v13 v14 M)) (v0 : Nat) (v4 : Nat) (v5 : Int) (v6 : Int) (v7 : Nat) (v10 : Nat) (v11 : Int) (v12 : Int) (v13 : Int) (v14 : Int) (v16 : Int) (s0 : Int) (M : xM) : xZ oJ O (d + 9) 186 726 [(0, .ref v0), (4, .ref v4), (5, .int (yw v5)), (6, .int (yw v6)), (7, .ref v7), (10, .ref v10), (11, .int (yw v11)), (12, .int (yw v12)), (13, .int (yw v13)), (14, .int (yw v14)), (16, .int (yw v16))] [.int (yw s0)] M (f_Law_areLaid_726 O f K510 v0 v4 v5 v6 v7 v10 v11 v12 v13 v14 v16 s0 M) := by
  unfold f_Law_areLaid_726
  refine xZ.adv (me := xm186) hP_186 3 (pc' := 732) (lv' := [(17, .int (yw s0)), (0, .ref v0), (4, .ref v4), (5, .int (yw v5)), (6, .int (yw v6)), (7, .ref v7), (10, .ref v10), (11, .int (yw v11)), (12, .int (yw v12)), (13, .int (yw v13)), (14, .int (yw v14)), (16, .int (yw v16))]) (st' := [.int (yw v16), .int (yw v12)]) rfl ?_
  refine xZ.jf_lt (me := xm186) hP_186 rfl (fun h1 => ?_) (fun h1 => ?_)
  · skip
    exact xZ.sub (xsc (.tail _ (.head _)) (xsc (.tail _ (.tail _ (.head _))) (xsc (.tail _ (.tail _ (.tail _ (.head _)))) (xsc (.tail _ (.tail _ (.tail _ (.tail _ (.head _))))) (xsc (.tail _ (.tail _ (.tail _ (.tail _ (.tail _ (.head _)))))) (xsc (.tail _ (.tail _ (.tail _ (.tail _ (.tail _ (.tail _ (.head _))))))) (xsc (.tail _ (.tail _ (.tail _ (.tail _ (.tail _ (.tail _ (.tail _ (.head _)))))))) (xsc (.tail _ (.tail _ (.tail _ (.tail _ (.tail _ (.tail _ (.tail _ (.tail _ (.tail _ (.head _)))))))))) (xsc (.tail _ (.tail _ (.tail _ (.tail _ (.tail _ (.tail _ (.tail _ (.tail _ (.tail _ (.tail _ (.head _))))))))))) xsn))))))))) (show ([17, 0, 4, 5, 6, 7, 10, 11, 12, 13, 14, 16] : List Nat).Nodup from by decide) (k_f_Law_areLaid_742 O f d K510 hK510 v0 v4 v5 v6 v7 v10 v11 v13 v14 v12 M)
  · skip
    refine xZ.adv (me := xm186) hP_186 2 (pc' := 739) (lv' := [(17, .int (yw s0)), (0, .ref v0), (4, .ref v4), (5, .int (yw v5)), (6, .int (yw v6)), (7, .ref v7), (10, .ref v10), (11, .int (yw v11)), (12, .int (yw v12)), (13, .int (yw v13)), (14, .int (yw v14)), (16, .int (yw v16))]) (st' := [.int (yw s0), .int (yw v16), .int (yw v12)]) rfl ?_
    refine xZ.jc_ge (me := xm186) hP_186 rfl (fun h2 => ?_) (fun h2 => ?_)
    · skip
      refine xZ.adv (me := xm186) hP_186 1 (pc' := 747) (lv' := [(17, .int (yw s0)), (0, .ref v0), (4, .ref v4), (5, .int (yw v5)), (6, .int (yw v6)), (7, .ref v7), (10, .ref v10), (11, .int (yw v11)), (12, .int (yw v12)), (13, .int (yw v13)), (14, .int (yw v14)), (16, .int (yw v16))]) (st' := [.int (0 : Int32), .int (yw v12)]) rfl ?_
      refine xZ.eqs (lv2 := [(17, .int (yw s0)), (0, .ref v0), (4, .ref v4), (5, .int (yw v5)), (6, .int (yw v6)), (7, .ref v7), (10, .ref v10), (11, .int (yw v11)), (12, .int (yw v12)), (13, .int (yw v13)), (14, .int (yw v14)), (16, .int (yw v16))]) (st2 := [.int (yw 0), .int (yw v12)]) rfl (by simp only [yl_lit, yL_lit, yw_add, yw_sub, yw_mul, yw_neg, yl_add, yl_sub, yl_mul, cj_and, cj_or, cj_xor, cj_shl, cj_shr, cj_ushr, cj_div, cj_i2c, cj_i2b, cj_dc, ck_and, ck_or, ck_xor, ck_shl, ck_shr, ck_ushr, ck_i2l, ck_l2i, ck_cmp]) ?_
      exact xZ.sub (xsc (.tail _ (.head _)) (xsc (.tail _ (.tail _ (.head _))) (xsc (.tail _ (.tail _ (.tail _ (.head _)))) (xsc (.tail _ (.tail _ (.tail _ (.tail _ (.head _))))) (xsc (.tail _ (.tail _ (.tail _ (.tail _ (.tail _ (.head _)))))) (xsc (.tail _ (.tail _ (.tail _ (.tail _ (.tail _ (.tail _ (.head _))))))) (xsc (.tail _ (.tail _ (.tail _ (.tail _ (.tail _ (.tail _ (.tail _ (.head _)))))))) (xsc (.tail _ (.tail _ (.tail _ (.tail _ (.tail _ (.tail _ (.tail _ (.tail _ (.tail _ (.head _)))))))))) (xsc (.tail _ (.tail _ (.tail _ (.tail _ (.tail _ (.tail _ (.tail _ (.tail _ (.tail _ (.tail _ (.head _))))))))))) xsn))))))))) (show ([17, 0, 4, 5, 6, 7, 10, 11, 12, 13, 14, 16] : List Nat).Nodup from by decide) (k_f_Law_areLaid_747 O f d K510 hK510 v0 v4 v5 v6 v7 v10 v11 v13 v14 v12 0 M)
    · skip
      exact xZ.sub (xsc (.tail _ (.head _)) (xsc (.tail _ (.tail _ (.head _))) (xsc (.tail _ (.tail _ (.tail _ (.head _)))) (xsc (.tail _ (.tail _ (.tail _ (.tail _ (.head _))))) (xsc (.tail _ (.tail _ (.tail _ (.tail _ (.tail _ (.head _)))))) (xsc (.tail _ (.tail _ (.tail _ (.tail _ (.tail _ (.tail _ (.head _))))))) (xsc (.tail _ (.tail _ (.tail _ (.tail _ (.tail _ (.tail _ (.tail _ (.head _)))))))) (xsc (.tail _ (.tail _ (.tail _ (.tail _ (.tail _ (.tail _ (.tail _ (.tail _ (.tail _ (.head _)))))))))) (xsc (.tail _ (.tail _ (.tail _ (.tail _ (.tail _ (.tail _ (.tail _ (.tail _ (.tail _ (.tail _ (.head _))))))))))) xsn))))))))) (show ([17, 0, 4, 5, 6, 7, 10, 11, 12, 13, 14, 16] : List Nat).Nodup from by decide) (k_f_Law_areLaid_742 O f d K510 hK510 v0 v4 v5 v6 v7 v10 v11 v13 v14 v12 M)
def f_Law_areLaid_700 (O : Nat → Option va_E) (f : Nat) (K510 : Nat → Nat → Int → Int → Nat → Nat → Int → Int → Int → Int → xM → Option (Int × xM)) (v0 : Nat) (v4 : Nat) (v5 : Int) (v6 : Int) (v7 : Nat) (v10 : Nat) (v11 : Int) (v12 : Int) (v13 : Int) (v14 : Int) (v16 : Int) (M : xM) : Option (Int × xM) :=
  f_Law_areLaid_726 O f K510 v0 v4 v5 v6 v7 v10 v11 v12 v13 v14 v16 0 M
set_option maxRecDepth 20000 in
theorem k_f_Law_areLaid_700 (O : Nat → Option va_E) (f d : Nat) (K510 : Nat → Nat → Int → Int → Nat → Nat → Int → Int → Int → Int → xM → Option (Int × xM)) (hK510 : ∀ (v0 : Nat) (v4 : Nat) (v5 : Int) (v6 : Int) (v7 : Nat) (v10 : Nat) (v11 : Int) (v12 : Int) (v13 : Int) (v14 : Int) M, xZ oJ O (d + 9) 186 510 [(0, .ref v0), (4, .ref v4), (5, .int (yw v5)), (6, .int (yw v6)), (7, .ref v7), (10, .ref v10), (11, .int (yw v11)), (12, .int (yw v12)), (13, .int (yw v13)), (14, .int (yw v14))] [] M (K510 v0 v4 v5 v6 v7 v10 v11 v12 v13 v14 M)) (v0 : Nat) (v4 : Nat) (v5 : Int) (v6 : Int) (v7 : Nat) (v10 : Nat) (v11 : Int) (v12 : Int) (v13 : Int) (v14 : Int) (v16 : Int) (M : xM) : xZ oJ O (d + 9) 186 700 [(0, .ref v0), (4, .ref v4), (5, .int (yw v5)), (6, .int (yw v6)), (7, .ref v7), (10, .ref v10), (11, .int (yw v11)), (12, .int (yw v12)), (13, .int (yw v13)), (14, .int (yw v14)), (16, .int (yw v16))] [] M (f_Law_areLaid_700 O f K510 v0 v4 v5 v6 v7 v10 v11 v12 v13 v14 v16 M) := by
  unfold f_Law_areLaid_700
  refine xZ.adv (me := xm186) hP_186 2 (pc' := 726) (lv' := [(0, .ref v0), (4, .ref v4), (5, .int (yw v5)), (6, .int (yw v6)), (7, .ref v7), (10, .ref v10), (11, .int (yw v11)), (12, .int (yw v12)), (13, .int (yw v13)), (14, .int (yw v14)), (16, .int (yw v16))]) (st' := [.int (0 : Int32)]) rfl ?_
  refine xZ.eqs (lv2 := [(0, .ref v0), (4, .ref v4), (5, .int (yw v5)), (6, .int (yw v6)), (7, .ref v7), (10, .ref v10), (11, .int (yw v11)), (12, .int (yw v12)), (13, .int (yw v13)), (14, .int (yw v14)), (16, .int (yw v16))]) (st2 := [.int (yw 0)]) rfl (by simp only [yl_lit, yL_lit, yw_add, yw_sub, yw_mul, yw_neg, yl_add, yl_sub, yl_mul, cj_and, cj_or, cj_xor, cj_shl, cj_shr, cj_ushr, cj_div, cj_i2c, cj_i2b, cj_dc, ck_and, ck_or, ck_xor, ck_shl, ck_shr, ck_ushr, ck_i2l, ck_l2i, ck_cmp]) ?_
  exact (k_f_Law_areLaid_726 O f d K510 hK510 v0 v4 v5 v6 v7 v10 v11 v12 v13 v14 v16 0 M)
def f_Law_areLaid_620 (O : Nat → Option va_E) (f : Nat) (K510 : Nat → Nat → Int → Int → Nat → Nat → Int → Int → Int → Int → xM → Option (Int × xM)) (v0 : Nat) (v4 : Nat) (v5 : Int) (v6 : Int) (v7 : Nat) (v10 : Nat) (v11 : Int) (v12 : Int) (v13 : Int) (v14 : Int) (s0 : Int) (M : xM) : Option (Int × xM) :=
  if yw s0 = yw 0 then (
    K510 v0 v4 v5 v6 v7 v10 v11 v12 v13 (v14 + 1) M
  ) else
  (gR O M v7 13 0).bind fun x1 =>
  (aJ O M x1 v14).bind fun x2 =>
  xcl (f_Law_takesPart O f v0 x2 v11 M) fun x3 M1 =>
  if yw x3 = yw 0 then (
    K510 v0 v4 v5 v6 v7 v10 v11 v12 v13 (v14 + 1) M1
  ) else
  (gR O M1 v7 13 0).bind fun x4 =>
  (aJ O M1 x4 v13).bind fun x5 =>
  xcl (f_Law_takesPart O f v0 x5 v11 M1) fun x6 M2 =>
  if yw x6 = yw 0 then (
    K510 v0 v4 v5 v6 v7 v10 v11 v12 v13 (v14 + 1) M2
  ) else
  (gR O M2 v7 13 2).bind fun x7 =>
  (aJ O M2 x7 v13).bind fun x8 =>
  (isO O M2 v7 13).bind fun _ =>
  xcl (f_LDates_end O f v7 v14 M2) fun x9 M3 =>
  (aJ O M3 v10 v14).bind fun x10 =>
  if yw x10 = yw (-1) then (
    f_Law_areLaid_700 O f K510 v0 v4 v5 v6 v7 v10 v11 v12 v13 v14 (x8 - x9) M3
  ) else
  (aJ O M3 v10 v13).bind fun x11 =>
  if yw x11 = yw (-1) then (
    f_Law_areLaid_700 O f K510 v0 v4 v5 v6 v7 v10 v11 v12 v13 v14 (x8 - x9) M3
  ) else
  (aJ O M3 v10 v14).bind fun x12 =>
  (aJ O M3 v4 x12).bind fun x13 =>
  (aJ O M3 v10 v13).bind fun x14 =>
  (aJ O M3 v4 x14).bind fun x15 =>
  xcl (f_Math_abs O f (x13 - x15) M3) fun x16 M4 =>
  f_Law_areLaid_726 O f K510 v0 v4 v5 v6 v7 v10 v11 v12 v13 v14 (x8 - x9) (5 * x16) M4
set_option maxRecDepth 20000 in
theorem k_f_Law_areLaid_620 (O : Nat → Option va_E) (f d : Nat) (K510 : Nat → Nat → Int → Int → Nat → Nat → Int → Int → Int → Int → xM → Option (Int × xM)) (hK510 : ∀ (v0 : Nat) (v4 : Nat) (v5 : Int) (v6 : Int) (v7 : Nat) (v10 : Nat) (v11 : Int) (v12 : Int) (v13 : Int) (v14 : Int) M, xZ oJ O (d + 9) 186 510 [(0, .ref v0), (4, .ref v4), (5, .int (yw v5)), (6, .int (yw v6)), (7, .ref v7), (10, .ref v10), (11, .int (yw v11)), (12, .int (yw v12)), (13, .int (yw v13)), (14, .int (yw v14))] [] M (K510 v0 v4 v5 v6 v7 v10 v11 v12 v13 v14 M)) (v0 : Nat) (v4 : Nat) (v5 : Int) (v6 : Int) (v7 : Nat) (v10 : Nat) (v11 : Int) (v12 : Int) (v13 : Int) (v14 : Int) (s0 : Int) (M : xM) : xZ oJ O (d + 9) 186 620 [(0, .ref v0), (4, .ref v4), (5, .int (yw v5)), (6, .int (yw v6)), (7, .ref v7), (10, .ref v10), (11, .int (yw v11)), (12, .int (yw v12)), (13, .int (yw v13)), (14, .int (yw v14))] [.int (yw s0)] M (f_Law_areLaid_620 O f K510 v0 v4 v5 v6 v7 v10 v11 v12 v13 v14 s0 M) := by
  unfold f_Law_areLaid_620
  refine xZ.adv (me := xm186) hP_186 2 (pc' := 624) (lv' := [(15, .int (yw s0)), (0, .ref v0), (4, .ref v4), (5, .int (yw v5)), (6, .int (yw v6)), (7, .ref v7), (10, .ref v10), (11, .int (yw v11)), (12, .int (yw v12)), (13, .int (yw v13)), (14, .int (yw v14))]) (st' := [.int (yw s0)]) rfl ?_
  refine xZ.jf_eq (me := xm186) hP_186 rfl (fun h1 => ?_) (fun h1 => ?_)
  · skip
    refine xZ.adv (me := xm186) hP_186 2 (pc' := 510) (lv' := [(14, .int ((yw v14) + (1 : Int32))), (15, .int (yw s0)), (0, .ref v0), (4, .ref v4), (5, .int (yw v5)), (6, .int (yw v6)), (7, .ref v7), (10, .ref v10), (11, .int (yw v11)), (12, .int (yw v12)), (13, .int (yw v13))]) (st' := []) rfl ?_
    refine xZ.eqs (lv2 := [(14, .int (yw (v14 + 1))), (15, .int (yw s0)), (0, .ref v0), (4, .ref v4), (5, .int (yw v5)), (6, .int (yw v6)), (7, .ref v7), (10, .ref v10), (11, .int (yw v11)), (12, .int (yw v12)), (13, .int (yw v13))]) (st2 := []) (by simp only [yl_lit, yL_lit, yw_add, yw_sub, yw_mul, yw_neg, yl_add, yl_sub, yl_mul, cj_and, cj_or, cj_xor, cj_shl, cj_shr, cj_ushr, cj_div, cj_i2c, cj_i2b, cj_dc, ck_and, ck_or, ck_xor, ck_shl, ck_shr, ck_ushr, ck_i2l, ck_l2i, ck_cmp]) rfl ?_
    exact xZ.sub (xsc (.tail _ (.tail _ (.head _))) (xsc (.tail _ (.tail _ (.tail _ (.head _)))) (xsc (.tail _ (.tail _ (.tail _ (.tail _ (.head _))))) (xsc (.tail _ (.tail _ (.tail _ (.tail _ (.tail _ (.head _)))))) (xsc (.tail _ (.tail _ (.tail _ (.tail _ (.tail _ (.tail _ (.head _))))))) (xsc (.tail _ (.tail _ (.tail _ (.tail _ (.tail _ (.tail _ (.tail _ (.head _)))))))) (xsc (.tail _ (.tail _ (.tail _ (.tail _ (.tail _ (.tail _ (.tail _ (.tail _ (.head _))))))))) (xsc (.tail _ (.tail _ (.tail _ (.tail _ (.tail _ (.tail _ (.tail _ (.tail _ (.tail _ (.head _)))))))))) (xsc (.tail _ (.tail _ (.tail _ (.tail _ (.tail _ (.tail _ (.tail _ (.tail _ (.tail _ (.tail _ (.head _))))))))))) (xsc (.head _) xsn)))))))))) (show ([14, 15, 0, 4, 5, 6, 7, 10, 11, 12, 13] : List Nat).Nodup from by decide) (hK510 v0 v4 v5 v6 v7 v10 v11 v12 v13 (v14 + 1) M)
  · skip
    refine xZ.adv (me := xm186) hP_186 2 (pc' := 630) (lv' := [(15, .int (yw s0)), (0, .ref v0), (4, .ref v4), (5, .int (yw v5)), (6, .int (yw v6)), (7, .ref v7), (10, .ref v10), (11, .int (yw v11)), (12, .int (yw v12)), (13, .int (yw v13)), (14, .int (yw v14))]) (st' := [.ref v7, .ref v0]) rfl ?_
    refine xZ.k_gR (me := xm186) hP_186 rfl (fun x1 => ?_)
    refine xZ.adv (me := xm186) hP_186 1 (pc' := 635) (lv' := [(15, .int (yw s0)), (0, .ref v0), (4, .ref v4), (5, .int (yw v5)), (6, .int (yw v6)), (7, .ref v7), (10, .ref v10), (11, .int (yw v11)), (12, .int (yw v12)), (13, .int (yw v13)), (14, .int (yw v14))]) (st' := [.int (yw v14), .ref x1, .ref v0]) rfl ?_
    refine xZ.k_aJ (me := xm186) hP_186 rfl (fun x2 => ?_)
    refine xZ.adv (me := xm186) hP_186 1 (pc' := 638) (lv' := [(15, .int (yw s0)), (0, .ref v0), (4, .ref v4), (5, .int (yw v5)), (6, .int (yw v6)), (7, .ref v7), (10, .ref v10), (11, .int (yw v11)), (12, .int (yw v12)), (13, .int (yw v13)), (14, .int (yw v14))]) (st' := [.int (yw v11), .int (yw x2), .ref v0]) rfl ?_
    refine xZ.calls (κ := oJ) (av := [.ref v0, .int (yw x2), .int (yw v11)]) (rest := []) (st' := fun x3 => [.int (yw x3)]) (me := xm186) hP_186 rfl rfl rfl (Nat.le_of_ble_eq_true rfl) (by decide) hP_155 (Nat.le_of_ble_eq_true rfl) (fun _ => rfl) (k_f_Law_takesPart O f (d + 5) v0 x2 v11 M) (fun x3 M1 => ?_)
    refine xZ.jf_eq (me := xm186) hP_186 rfl (fun h2 => ?_) (fun h2 => ?_)
    · skip
      refine xZ.adv (me := xm186) hP_186 2 (pc' := 510) (lv' := [(14, .int ((yw v14) + (1 : Int32))), (15, .int (yw s0)), (0, .ref v0), (4, .ref v4), (5, .int (yw v5)), (6, .int (yw v6)), (7, .ref v7), (10, .ref v10), (11, .int (yw v11)), (12, .int (yw v12)), (13, .int (yw v13))]) (st' := []) rfl ?_
      refine xZ.eqs (lv2 := [(14, .int (yw (v14 + 1))), (15, .int (yw s0)), (0, .ref v0), (4, .ref v4), (5, .int (yw v5)), (6, .int (yw v6)), (7, .ref v7), (10, .ref v10), (11, .int (yw v11)), (12, .int (yw v12)), (13, .int (yw v13))]) (st2 := []) (by simp only [yl_lit, yL_lit, yw_add, yw_sub, yw_mul, yw_neg, yl_add, yl_sub, yl_mul, cj_and, cj_or, cj_xor, cj_shl, cj_shr, cj_ushr, cj_div, cj_i2c, cj_i2b, cj_dc, ck_and, ck_or, ck_xor, ck_shl, ck_shr, ck_ushr, ck_i2l, ck_l2i, ck_cmp]) rfl ?_
      exact xZ.sub (xsc (.tail _ (.tail _ (.head _))) (xsc (.tail _ (.tail _ (.tail _ (.head _)))) (xsc (.tail _ (.tail _ (.tail _ (.tail _ (.head _))))) (xsc (.tail _ (.tail _ (.tail _ (.tail _ (.tail _ (.head _)))))) (xsc (.tail _ (.tail _ (.tail _ (.tail _ (.tail _ (.tail _ (.head _))))))) (xsc (.tail _ (.tail _ (.tail _ (.tail _ (.tail _ (.tail _ (.tail _ (.head _)))))))) (xsc (.tail _ (.tail _ (.tail _ (.tail _ (.tail _ (.tail _ (.tail _ (.tail _ (.head _))))))))) (xsc (.tail _ (.tail _ (.tail _ (.tail _ (.tail _ (.tail _ (.tail _ (.tail _ (.tail _ (.head _)))))))))) (xsc (.tail _ (.tail _ (.tail _ (.tail _ (.tail _ (.tail _ (.tail _ (.tail _ (.tail _ (.tail _ (.head _))))))))))) (xsc (.head _) xsn)))))))))) (show ([14, 15, 0, 4, 5, 6, 7, 10, 11, 12, 13] : List Nat).Nodup from by decide) (hK510 v0 v4 v5 v6 v7 v10 v11 v12 v13 (v14 + 1) M1)
    · skip
      refine xZ.adv (me := xm186) hP_186 2 (pc' := 647) (lv' := [(15, .int (yw s0)), (0, .ref v0), (4, .ref v4), (5, .int (yw v5)), (6, .int (yw v6)), (7, .ref v7), (10, .ref v10), (11, .int (yw v11)), (12, .int (yw v12)), (13, .int (yw v13)), (14, .int (yw v14))]) (st' := [.ref v7, .ref v0]) rfl ?_
      refine xZ.k_gR (me := xm186) hP_186 rfl (fun x4 => ?_)
      refine xZ.adv (me := xm186) hP_186 1 (pc' := 652) (lv' := [(15, .int (yw s0)), (0, .ref v0), (4, .ref v4), (5, .int (yw v5)), (6, .int (yw v6)), (7, .ref v7), (10, .ref v10), (11, .int (yw v11)), (12, .int (yw v12)), (13, .int (yw v13)), (14, .int (yw v14))]) (st' := [.int (yw v13), .ref x4, .ref v0]) rfl ?_
      refine xZ.k_aJ (me := xm186) hP_186 rfl (fun x5 => ?_)
      refine xZ.adv (me := xm186) hP_186 1 (pc' := 655) (lv' := [(15, .int (yw s0)), (0, .ref v0), (4, .ref v4), (5, .int (yw v5)), (6, .int (yw v6)), (7, .ref v7), (10, .ref v10), (11, .int (yw v11)), (12, .int (yw v12)), (13, .int (yw v13)), (14, .int (yw v14))]) (st' := [.int (yw v11), .int (yw x5), .ref v0]) rfl ?_
      refine xZ.calls (κ := oJ) (av := [.ref v0, .int (yw x5), .int (yw v11)]) (rest := []) (st' := fun x6 => [.int (yw x6)]) (me := xm186) hP_186 rfl rfl rfl (Nat.le_of_ble_eq_true rfl) (by decide) hP_155 (Nat.le_of_ble_eq_true rfl) (fun _ => rfl) (k_f_Law_takesPart O f (d + 5) v0 x5 v11 M1) (fun x6 M2 => ?_)
      refine xZ.jf_ne (me := xm186) hP_186 rfl (fun h3 => ?_) (fun h3 => ?_)
      · skip
        refine xZ.adv (me := xm186) hP_186 3 (pc' := 510) (lv' := [(14, .int ((yw v14) + (1 : Int32))), (15, .int (yw s0)), (0, .ref v0), (4, .ref v4), (5, .int (yw v5)), (6, .int (yw v6)), (7, .ref v7), (10, .ref v10), (11, .int (yw v11)), (12, .int (yw v12)), (13, .int (yw v13))]) (st' := []) rfl ?_
        refine xZ.eqs (lv2 := [(14, .int (yw (v14 + 1))), (15, .int (yw s0)), (0, .ref v0), (4, .ref v4), (5, .int (yw v5)), (6, .int (yw v6)), (7, .ref v7), (10, .ref v10), (11, .int (yw v11)), (12, .int (yw v12)), (13, .int (yw v13))]) (st2 := []) (by simp only [yl_lit, yL_lit, yw_add, yw_sub, yw_mul, yw_neg, yl_add, yl_sub, yl_mul, cj_and, cj_or, cj_xor, cj_shl, cj_shr, cj_ushr, cj_div, cj_i2c, cj_i2b, cj_dc, ck_and, ck_or, ck_xor, ck_shl, ck_shr, ck_ushr, ck_i2l, ck_l2i, ck_cmp]) rfl ?_
        exact xZ.sub (xsc (.tail _ (.tail _ (.head _))) (xsc (.tail _ (.tail _ (.tail _ (.head _)))) (xsc (.tail _ (.tail _ (.tail _ (.tail _ (.head _))))) (xsc (.tail _ (.tail _ (.tail _ (.tail _ (.tail _ (.head _)))))) (xsc (.tail _ (.tail _ (.tail _ (.tail _ (.tail _ (.tail _ (.head _))))))) (xsc (.tail _ (.tail _ (.tail _ (.tail _ (.tail _ (.tail _ (.tail _ (.head _)))))))) (xsc (.tail _ (.tail _ (.tail _ (.tail _ (.tail _ (.tail _ (.tail _ (.tail _ (.head _))))))))) (xsc (.tail _ (.tail _ (.tail _ (.tail _ (.tail _ (.tail _ (.tail _ (.tail _ (.tail _ (.head _)))))))))) (xsc (.tail _ (.tail _ (.tail _ (.tail _ (.tail _ (.tail _ (.tail _ (.tail _ (.tail _ (.tail _ (.head _))))))))))) (xsc (.head _) xsn)))))))))) (show ([14, 15, 0, 4, 5, 6, 7, 10, 11, 12, 13] : List Nat).Nodup from by decide) (hK510 v0 v4 v5 v6 v7 v10 v11 v12 v13 (v14 + 1) M2)
      · skip
        refine xZ.adv (me := xm186) hP_186 1 (pc' := 666) (lv' := [(15, .int (yw s0)), (0, .ref v0), (4, .ref v4), (5, .int (yw v5)), (6, .int (yw v6)), (7, .ref v7), (10, .ref v10), (11, .int (yw v11)), (12, .int (yw v12)), (13, .int (yw v13)), (14, .int (yw v14))]) (st' := [.ref v7]) rfl ?_
        refine xZ.k_gR (me := xm186) hP_186 rfl (fun x7 => ?_)
        refine xZ.adv (me := xm186) hP_186 1 (pc' := 671) (lv' := [(15, .int (yw s0)), (0, .ref v0), (4, .ref v4), (5, .int (yw v5)), (6, .int (yw v6)), (7, .ref v7), (10, .ref v10), (11, .int (yw v11)), (12, .int (yw v12)), (13, .int (yw v13)), (14, .int (yw v14))]) (st' := [.int (yw v13), .ref x7]) rfl ?_
        refine xZ.k_aJ (me := xm186) hP_186 rfl (fun x8 => ?_)
        refine xZ.adv (me := xm186) hP_186 2 (pc' := 676) (lv' := [(15, .int (yw s0)), (0, .ref v0), (4, .ref v4), (5, .int (yw v5)), (6, .int (yw v6)), (7, .ref v7), (10, .ref v10), (11, .int (yw v11)), (12, .int (yw v12)), (13, .int (yw v13)), (14, .int (yw v14))]) (st' := [.int (yw v14), .ref v7, .int (yw x8)]) rfl ?_
        refine xZ.callv (κ := oJ) (av := [.int (yw v14)]) (rest := [.int (yw x8)]) (st' := fun x9 => [.int (yw x9), .int (yw x8)]) (k0 := v7) (me := xm186) hP_186 rfl (Or.inl rfl) ⟨rfl, by decide⟩ rfl rfl (Nat.le_of_ble_eq_true rfl) (by decide) hP_154 (Nat.le_of_ble_eq_true rfl) (fun _ => rfl) (k_f_LDates_end O f (d + 8) v7 v14 M2) (fun x9 M3 => ?_)
        refine xZ.adv (me := xm186) hP_186 4 (pc' := 686) (lv' := [(16, .int ((yw x8) - (yw x9))), (15, .int (yw s0)), (0, .ref v0), (4, .ref v4), (5, .int (yw v5)), (6, .int (yw v6)), (7, .ref v7), (10, .ref v10), (11, .int (yw v11)), (12, .int (yw v12)), (13, .int (yw v13)), (14, .int (yw v14))]) (st' := [.int (yw v14), .ref v10]) rfl ?_
        refine xZ.eqs (lv2 := [(16, .int (yw (x8 - x9))), (15, .int (yw s0)), (0, .ref v0), (4, .ref v4), (5, .int (yw v5)), (6, .int (yw v6)), (7, .ref v7), (10, .ref v10), (11, .int (yw v11)), (12, .int (yw v12)), (13, .int (yw v13)), (14, .int (yw v14))]) (st2 := [.int (yw v14), .ref v10]) (by simp only [yl_lit, yL_lit, yw_add, yw_sub, yw_mul, yw_neg, yl_add, yl_sub, yl_mul, cj_and, cj_or, cj_xor, cj_shl, cj_shr, cj_ushr, cj_div, cj_i2c, cj_i2b, cj_dc, ck_and, ck_or, ck_xor, ck_shl, ck_shr, ck_ushr, ck_i2l, ck_l2i, ck_cmp]) rfl ?_
        refine xZ.k_aJ (me := xm186) hP_186 rfl (fun x10 => ?_)
        refine xZ.adv (me := xm186) hP_186 1 (pc' := 688) (lv' := [(16, .int (yw (x8 - x9))), (15, .int (yw s0)), (0, .ref v0), (4, .ref v4), (5, .int (yw v5)), (6, .int (yw v6)), (7, .ref v7), (10, .ref v10), (11, .int (yw v11)), (12, .int (yw v12)), (13, .int (yw v13)), (14, .int (yw v14))]) (st' := [.int (-1 : Int32), .int (yw x10)]) rfl ?_
        refine xZ.eqs (lv2 := [(16, .int (yw (x8 - x9))), (15, .int (yw s0)), (0, .ref v0), (4, .ref v4), (5, .int (yw v5)), (6, .int (yw v6)), (7, .ref v7), (10, .ref v10), (11, .int (yw v11)), (12, .int (yw v12)), (13, .int (yw v13)), (14, .int (yw v14))]) (st2 := [.int (yw (-1)), .int (yw x10)]) rfl (by simp only [yl_lit, yL_lit, yw_add, yw_sub, yw_mul, yw_neg, yl_add, yl_sub, yl_mul, cj_and, cj_or, cj_xor, cj_shl, cj_shr, cj_ushr, cj_div, cj_i2c, cj_i2b, cj_dc, ck_and, ck_or, ck_xor, ck_shl, ck_shr, ck_ushr, ck_i2l, ck_l2i, ck_cmp]) ?_
        refine xZ.jc_eq (me := xm186) hP_186 rfl (fun h4 => ?_) (fun h4 => ?_)
        · skip
          exact xZ.sub (xsc (.tail _ (.tail _ (.head _))) (xsc (.tail _ (.tail _ (.tail _ (.head _)))) (xsc (.tail _ (.tail _ (.tail _ (.tail _ (.head _))))) (xsc (.tail _ (.tail _ (.tail _ (.tail _ (.tail _ (.head _)))))) (xsc (.tail _ (.tail _ (.tail _ (.tail _ (.tail _ (.tail _ (.head _))))))) (xsc (.tail _ (.tail _ (.tail _ (.tail _ (.tail _ (.tail _ (.tail _ (.head _)))))))) (xsc (.tail _ (.tail _ (.tail _ (.tail _ (.tail _ (.tail _ (.tail _ (.tail _ (.head _))))))))) (xsc (.tail _ (.tail _ (.tail _ (.tail _ (.tail _ (.tail _ (.tail _ (.tail _ (.tail _ (.head _)))))))))) (xsc (.tail _ (.tail _ (.tail _ (.tail _ (.tail _ (.tail _ (.tail _ (.tail _ (.tail _ (.tail _ (.head _))))))))))) (xsc (.tail _ (.tail _ (.tail _ (.tail _ (.tail _ (.tail _ (.tail _ (.tail _ (.tail _ (.tail _ (.tail _ (.head _)))))))))))) (xsc (.head _) xsn))))))))))) (show ([16, 15, 0, 4, 5, 6, 7, 10, 11, 12, 13, 14] : List Nat).Nodup from by decide) (k_f_Law_areLaid_700 O f d K510 hK510 v0 v4 v5 v6 v7 v10 v11 v12 v13 v14 (x8 - x9) M3)
        · skip
          refine xZ.adv (me := xm186) hP_186 2 (pc' := 695) (lv' := [(16, .int (yw (x8 - x9))), (15, .int (yw s0)), (0, .ref v0), (4, .ref v4), (5, .int (yw v5)), (6, .int (yw v6)), (7, .ref v7), (10, .ref v10), (11, .int (yw v11)), (12, .int (yw v12)), (13, .int (yw v13)), (14, .int (yw v14))]) (st' := [.int (yw v13), .ref v10]) rfl ?_
          refine xZ.k_aJ (me := xm186) hP_186 rfl (fun x11 => ?_)
          refine xZ.adv (me := xm186) hP_186 1 (pc' := 697) (lv' := [(16, .int (yw (x8 - x9))), (15, .int (yw s0)), (0, .ref v0), (4, .ref v4), (5, .int (yw v5)), (6, .int (yw v6)), (7, .ref v7), (10, .ref v10), (11, .int (yw v11)), (12, .int (yw v12)), (13, .int (yw v13)), (14, .int (yw v14))]) (st' := [.int (-1 : Int32), .int (yw x11)]) rfl ?_
          refine xZ.eqs (lv2 := [(16, .int (yw (x8 - x9))), (15, .int (yw s0)), (0, .ref v0), (4, .ref v4), (5, .int (yw v5)), (6, .int (yw v6)), (7, .ref v7), (10, .ref v10), (11, .int (yw v11)), (12, .int (yw v12)), (13, .int (yw v13)), (14, .int (yw v14))]) (st2 := [.int (yw (-1)), .int (yw x11)]) rfl (by simp only [yl_lit, yL_lit, yw_add, yw_sub, yw_mul, yw_neg, yl_add, yl_sub, yl_mul, cj_and, cj_or, cj_xor, cj_shl, cj_shr, cj_ushr, cj_div, cj_i2c, cj_i2b, cj_dc, ck_and, ck_or, ck_xor, ck_shl, ck_shr, ck_ushr, ck_i2l, ck_l2i, ck_cmp]) ?_
          refine xZ.jc_ne (me := xm186) hP_186 rfl (fun h5 => ?_) (fun h5 => ?_)
          · skip
            exact xZ.sub (xsc (.tail _ (.tail _ (.head _))) (xsc (.tail _ (.tail _ (.tail _ (.head _)))) (xsc (.tail _ (.tail _ (.tail _ (.tail _ (.head _))))) (xsc (.tail _ (.tail _ (.tail _ (.tail _ (.tail _ (.head _)))))) (xsc (.tail _ (.tail _ (.tail _ (.tail _ (.tail _ (.tail _ (.head _))))))) (xsc (.tail _ (.tail _ (.tail _ (.tail _ (.tail _ (.tail _ (.tail _ (.head _)))))))) (xsc (.tail _ (.tail _ (.tail _ (.tail _ (.tail _ (.tail _ (.tail _ (.tail _ (.head _))))))))) (xsc (.tail _ (.tail _ (.tail _ (.tail _ (.tail _ (.tail _ (.tail _ (.tail _ (.tail _ (.head _)))))))))) (xsc (.tail _ (.tail _ (.tail _ (.tail _ (.tail _ (.tail _ (.tail _ (.tail _ (.tail _ (.tail _ (.head _))))))))))) (xsc (.tail _ (.tail _ (.tail _ (.tail _ (.tail _ (.tail _ (.tail _ (.tail _ (.tail _ (.tail _ (.tail _ (.head _)))))))))))) (xsc (.head _) xsn))))))))))) (show ([16, 15, 0, 4, 5, 6, 7, 10, 11, 12, 13, 14] : List Nat).Nodup from by decide) (k_f_Law_areLaid_700 O f d K510 hK510 v0 v4 v5 v6 v7 v10 v11 v12 v13 v14 (x8 - x9) M3)
          · skip
            refine xZ.adv (me := xm186) hP_186 4 (pc' := 711) (lv' := [(16, .int (yw (x8 - x9))), (15, .int (yw s0)), (0, .ref v0), (4, .ref v4), (5, .int (yw v5)), (6, .int (yw v6)), (7, .ref v7), (10, .ref v10), (11, .int (yw v11)), (12, .int (yw v12)), (13, .int (yw v13)), (14, .int (yw v14))]) (st' := [.int (yw v14), .ref v10, .ref v4, .int (5 : Int32)]) rfl ?_
            refine xZ.eqs (lv2 := [(16, .int (yw (x8 - x9))), (15, .int (yw s0)), (0, .ref v0), (4, .ref v4), (5, .int (yw v5)), (6, .int (yw v6)), (7, .ref v7), (10, .ref v10), (11, .int (yw v11)), (12, .int (yw v12)), (13, .int (yw v13)), (14, .int (yw v14))]) (st2 := [.int (yw v14), .ref v10, .ref v4, .int (yw 5)]) rfl (by simp only [yl_lit, yL_lit, yw_add, yw_sub, yw_mul, yw_neg, yl_add, yl_sub, yl_mul, cj_and, cj_or, cj_xor, cj_shl, cj_shr, cj_ushr, cj_div, cj_i2c, cj_i2b, cj_dc, ck_and, ck_or, ck_xor, ck_shl, ck_shr, ck_ushr, ck_i2l, ck_l2i, ck_cmp]) ?_
            refine xZ.k_aJ (me := xm186) hP_186 rfl (fun x12 => ?_)
            refine xZ.k_aJ (me := xm186) hP_186 rfl (fun x13 => ?_)
            refine xZ.adv (me := xm186) hP_186 3 (pc' := 719) (lv' := [(16, .int (yw (x8 - x9))), (15, .int (yw s0)), (0, .ref v0), (4, .ref v4), (5, .int (yw v5)), (6, .int (yw v6)), (7, .ref v7), (10, .ref v10), (11, .int (yw v11)), (12, .int (yw v12)), (13, .int (yw v13)), (14, .int (yw v14))]) (st' := [.int (yw v13), .ref v10, .ref v4, .int (yw x13), .int (yw 5)]) rfl ?_
            refine xZ.k_aJ (me := xm186) hP_186 rfl (fun x14 => ?_)
            refine xZ.k_aJ (me := xm186) hP_186 rfl (fun x15 => ?_)
            refine xZ.adv (me := xm186) hP_186 1 (pc' := 722) (lv' := [(16, .int (yw (x8 - x9))), (15, .int (yw s0)), (0, .ref v0), (4, .ref v4), (5, .int (yw v5)), (6, .int (yw v6)), (7, .ref v7), (10, .ref v10), (11, .int (yw v11)), (12, .int (yw v12)), (13, .int (yw v13)), (14, .int (yw v14))]) (st' := [.int ((yw x13) - (yw x15)), .int (yw 5)]) rfl ?_
            refine xZ.eqs (lv2 := [(16, .int (yw (x8 - x9))), (15, .int (yw s0)), (0, .ref v0), (4, .ref v4), (5, .int (yw v5)), (6, .int (yw v6)), (7, .ref v7), (10, .ref v10), (11, .int (yw v11)), (12, .int (yw v12)), (13, .int (yw v13)), (14, .int (yw v14))]) (st2 := [.int (yw (x13 - x15)), .int (yw 5)]) rfl (by simp only [yl_lit, yL_lit, yw_add, yw_sub, yw_mul, yw_neg, yl_add, yl_sub, yl_mul, cj_and, cj_or, cj_xor, cj_shl, cj_shr, cj_ushr, cj_div, cj_i2c, cj_i2b, cj_dc, ck_and, ck_or, ck_xor, ck_shl, ck_shr, ck_ushr, ck_i2l, ck_l2i, ck_cmp]) ?_
            refine xZ.calls (κ := oJ) (av := [.int (yw (x13 - x15))]) (rest := [.int (yw 5)]) (st' := fun x16 => [.int (yw x16), .int (yw 5)]) (me := xm186) hP_186 rfl rfl rfl (Nat.le_of_ble_eq_true rfl) (by decide) hP_249 (Nat.le_of_ble_eq_true rfl) (fun _ => rfl) (k_f_Math_abs O f (d + 8) (x13 - x15) M3) (fun x16 M4 => ?_)
            refine xZ.adv (me := xm186) hP_186 1 (pc' := 726) (lv' := [(16, .int (yw (x8 - x9))), (15, .int (yw s0)), (0, .ref v0), (4, .ref v4), (5, .int (yw v5)), (6, .int (yw v6)), (7, .ref v7), (10, .ref v10), (11, .int (yw v11)), (12, .int (yw v12)), (13, .int (yw v13)), (14, .int (yw v14))]) (st' := [.int ((yw 5) * (yw x16))]) rfl ?_
            refine xZ.eqs (lv2 := [(16, .int (yw (x8 - x9))), (15, .int (yw s0)), (0, .ref v0), (4, .ref v4), (5, .int (yw v5)), (6, .int (yw v6)), (7, .ref v7), (10, .ref v10), (11, .int (yw v11)), (12, .int (yw v12)), (13, .int (yw v13)), (14, .int (yw v14))]) (st2 := [.int (yw (5 * x16))]) rfl (by simp only [yl_lit, yL_lit, yw_add, yw_sub, yw_mul, yw_neg, yl_add, yl_sub, yl_mul, cj_and, cj_or, cj_xor, cj_shl, cj_shr, cj_ushr, cj_div, cj_i2c, cj_i2b, cj_dc, ck_and, ck_or, ck_xor, ck_shl, ck_shr, ck_ushr, ck_i2l, ck_l2i, ck_cmp]) ?_
            exact xZ.sub (xsc (.tail _ (.tail _ (.head _))) (xsc (.tail _ (.tail _ (.tail _ (.head _)))) (xsc (.tail _ (.tail _ (.tail _ (.tail _ (.head _))))) (xsc (.tail _ (.tail _ (.tail _ (.tail _ (.tail _ (.head _)))))) (xsc (.tail _ (.tail _ (.tail _ (.tail _ (.tail _ (.tail _ (.head _))))))) (xsc (.tail _ (.tail _ (.tail _ (.tail _ (.tail _ (.tail _ (.tail _ (.head _)))))))) (xsc (.tail _ (.tail _ (.tail _ (.tail _ (.tail _ (.tail _ (.tail _ (.tail _ (.head _))))))))) (xsc (.tail _ (.tail _ (.tail _ (.tail _ (.tail _ (.tail _ (.tail _ (.tail _ (.tail _ (.head _)))))))))) (xsc (.tail _ (.tail _ (.tail _ (.tail _ (.tail _ (.tail _ (.tail _ (.tail _ (.tail _ (.tail _ (.head _))))))))))) (xsc (.tail _ (.tail _ (.tail _ (.tail _ (.tail _ (.tail _ (.tail _ (.tail _ (.tail _ (.tail _ (.tail _ (.head _)))))))))))) (xsc (.head _) xsn))))))))))) (show ([16, 15, 0, 4, 5, 6, 7, 10, 11, 12, 13, 14] : List Nat).Nodup from by decide) (k_f_Law_areLaid_726 O f d K510 hK510 v0 v4 v5 v6 v7 v10 v11 v12 v13 v14 (x8 - x9) (5 * x16) M4)
def f_Law_areLaid_619 (O : Nat → Option va_E) (f : Nat) (K510 : Nat → Nat → Int → Int → Nat → Nat → Int → Int → Int → Int → xM → Option (Int × xM)) (v0 : Nat) (v4 : Nat) (v5 : Int) (v6 : Int) (v7 : Nat) (v10 : Nat) (v11 : Int) (v12 : Int) (v13 : Int) (v14 : Int) (M : xM) : Option (Int × xM) :=
  f_Law_areLaid_620 O f K510 v0 v4 v5 v6 v7 v10 v11 v12 v13 v14 0 M
set_option maxRecDepth 20000 in
theorem k_f_Law_areLaid_619 (O : Nat → Option va_E) (f d : Nat) (K510 : Nat → Nat → Int → Int → Nat → Nat → Int → Int → Int → Int → xM → Option (Int × xM)) (hK510 : ∀ (v0 : Nat) (v4 : Nat) (v5 : Int) (v6 : Int) (v7 : Nat) (v10 : Nat) (v11 : Int) (v12 : Int) (v13 : Int) (v14 : Int) M, xZ oJ O (d + 9) 186 510 [(0, .ref v0), (4, .ref v4), (5, .int (yw v5)), (6, .int (yw v6)), (7, .ref v7), (10, .ref v10), (11, .int (yw v11)), (12, .int (yw v12)), (13, .int (yw v13)), (14, .int (yw v14))] [] M (K510 v0 v4 v5 v6 v7 v10 v11 v12 v13 v14 M)) (v0 : Nat) (v4 : Nat) (v5 : Int) (v6 : Int) (v7 : Nat) (v10 : Nat) (v11 : Int) (v12 : Int) (v13 : Int) (v14 : Int) (M : xM) : xZ oJ O (d + 9) 186 619 [(0, .ref v0), (4, .ref v4), (5, .int (yw v5)), (6, .int (yw v6)), (7, .ref v7), (10, .ref v10), (11, .int (yw v11)), (12, .int (yw v12)), (13, .int (yw v13)), (14, .int (yw v14))] [] M (f_Law_areLaid_619 O f K510 v0 v4 v5 v6 v7 v10 v11 v12 v13 v14 M) := by
  unfold f_Law_areLaid_619
  refine xZ.adv (me := xm186) hP_186 1 (pc' := 620) (lv' := [(0, .ref v0), (4, .ref v4), (5, .int (yw v5)), (6, .int (yw v6)), (7, .ref v7), (10, .ref v10), (11, .int (yw v11)), (12, .int (yw v12)), (13, .int (yw v13)), (14, .int (yw v14))]) (st' := [.int (0 : Int32)]) rfl ?_
  refine xZ.eqs (lv2 := [(0, .ref v0), (4, .ref v4), (5, .int (yw v5)), (6, .int (yw v6)), (7, .ref v7), (10, .ref v10), (11, .int (yw v11)), (12, .int (yw v12)), (13, .int (yw v13)), (14, .int (yw v14))]) (st2 := [.int (yw 0)]) rfl (by simp only [yl_lit, yL_lit, yw_add, yw_sub, yw_mul, yw_neg, yl_add, yl_sub, yl_mul, cj_and, cj_or, cj_xor, cj_shl, cj_shr, cj_ushr, cj_div, cj_i2c, cj_i2b, cj_dc, ck_and, ck_or, ck_xor, ck_shl, ck_shr, ck_ushr, ck_i2l, ck_l2i, ck_cmp]) ?_
  exact (k_f_Law_areLaid_620 O f d K510 hK510 v0 v4 v5 v6 v7 v10 v11 v12 v13 v14 0 M)
def f_Law_areLaid_615 (O : Nat → Option va_E) (f : Nat) (K510 : Nat → Nat → Int → Int → Nat → Nat → Int → Int → Int → Int → xM → Option (Int × xM)) (v0 : Nat) (v4 : Nat) (v5 : Int) (v6 : Int) (v7 : Nat) (v10 : Nat) (v11 : Int) (v12 : Int) (v13 : Int) (v14 : Int) (M : xM) : Option (Int × xM) :=
  f_Law_areLaid_620 O f K510 v0 v4 v5 v6 v7 v10 v11 v12 v13 v14 1 M
set_option maxRecDepth 20000 in
theorem k_f_Law_areLaid_615 (O : Nat → Option va_E) (f d : Nat) (K510 : Nat → Nat → Int → Int → Nat → Nat → Int → Int → Int → Int → xM → Option (Int × xM)) (hK510 : ∀ (v0 : Nat) (v4 : Nat) (v5 : Int) (v6 : Int) (v7 : Nat) (v10 : Nat) (v11 : Int) (v12 : Int) (v13 : Int) (v14 : Int) M, xZ oJ O (d + 9) 186 510 [(0, .ref v0), (4, .ref v4), (5, .int (yw v5)), (6, .int (yw v6)), (7, .ref v7), (10, .ref v10), (11, .int (yw v11)), (12, .int (yw v12)), (13, .int (yw v13)), (14, .int (yw v14))] [] M (K510 v0 v4 v5 v6 v7 v10 v11 v12 v13 v14 M)) (v0 : Nat) (v4 : Nat) (v5 : Int) (v6 : Int) (v7 : Nat) (v10 : Nat) (v11 : Int) (v12 : Int) (v13 : Int) (v14 : Int) (M : xM) : xZ oJ O (d + 9) 186 615 [(0, .ref v0), (4, .ref v4), (5, .int (yw v5)), (6, .int (yw v6)), (7, .ref v7), (10, .ref v10), (11, .int (yw v11)), (12, .int (yw v12)), (13, .int (yw v13)), (14, .int (yw v14))] [] M (f_Law_areLaid_615 O f K510 v0 v4 v5 v6 v7 v10 v11 v12 v13 v14 M) := by
  unfold f_Law_areLaid_615
  refine xZ.adv (me := xm186) hP_186 2 (pc' := 620) (lv' := [(0, .ref v0), (4, .ref v4), (5, .int (yw v5)), (6, .int (yw v6)), (7, .ref v7), (10, .ref v10), (11, .int (yw v11)), (12, .int (yw v12)), (13, .int (yw v13)), (14, .int (yw v14))]) (st' := [.int (1 : Int32)]) rfl ?_
  refine xZ.eqs (lv2 := [(0, .ref v0), (4, .ref v4), (5, .int (yw v5)), (6, .int (yw v6)), (7, .ref v7), (10, .ref v10), (11, .int (yw v11)), (12, .int (yw v12)), (13, .int (yw v13)), (14, .int (yw v14))]) (st2 := [.int (yw 1)]) rfl (by simp only [yl_lit, yL_lit, yw_add, yw_sub, yw_mul, yw_neg, yl_add, yl_sub, yl_mul, cj_and, cj_or, cj_xor, cj_shl, cj_shr, cj_ushr, cj_div, cj_i2c, cj_i2b, cj_dc, ck_and, ck_or, ck_xor, ck_shl, ck_shr, ck_ushr, ck_i2l, ck_l2i, ck_cmp]) ?_
  exact (k_f_Law_areLaid_620 O f d K510 hK510 v0 v4 v5 v6 v7 v10 v11 v12 v13 v14 1 M)
def f_Law_areLaid_510 (O : Nat → Option va_E) (f : Nat) (K497 : Nat → Nat → Int → Int → Nat → Nat → Int → Int → Int → xM → Option (Int × xM)) : Nat → Nat → Nat → Int → Int → Nat → Nat → Int → Int → Int → Int → xM → Option (Int × xM)
  | 0, _, _, _, _, _, _, _, _, _, _, _ => none
  | n + 1, v0, v4, v5, v6, v7, v10, v11, v12, v13, v14, M =>
    (gJ O M v7 13 4).bind fun x1 =>
    if yw x1 ≤ yw v14 then (
      K497 v0 v4 v5 v6 v7 v10 v11 v12 (v13 + 1) M
    ) else
    (gR O M v7 13 2).bind fun x2 =>
    (aJ O M x2 v14).bind fun x3 =>
    (gR O M v7 13 2).bind fun x4 =>
    (aJ O M x4 v13).bind fun x5 =>
    if yw x3 < yw x5 then (
      f_Law_areLaid_615 O f (f_Law_areLaid_510 O f K497 n) v0 v4 v5 v6 v7 v10 v11 v12 v13 v14 M
    ) else
    (gR O M v7 13 2).bind fun x6 =>
    (aJ O M x6 v14).bind fun x7 =>
    (gR O M v7 13 2).bind fun x8 =>
    (aJ O M x8 v13).bind fun x9 =>
    if yw x7 = yw x9 then (
      (gR O M v7 13 0).bind fun x10 =>
      (aJ O M x10 v14).bind fun x11 =>
      (gR O M v7 13 0).bind fun x12 =>
      (aJ O M x12 v13).bind fun x13 =>
      if yw x11 < yw x13 then (
        f_Law_areLaid_615 O f (f_Law_areLaid_510 O f K497 n) v0 v4 v5 v6 v7 v10 v11 v12 v13 v14 M
      ) else
      (gR O M v7 13 0).bind fun x14 =>
      (aJ O M x14 v14).bind fun x15 =>
      (gR O M v7 13 0).bind fun x16 =>
      (aJ O M x16 v13).bind fun x17 =>
      if yw x15 = yw x17 then (
        (gR O M v7 13 1).bind fun x18 =>
        (aJ O M x18 v14).bind fun x19 =>
        (gR O M v7 13 1).bind fun x20 =>
        (aJ O M x20 v13).bind fun x21 =>
        if yw x21 ≤ yw x19 then (
          f_Law_areLaid_619 O f (f_Law_areLaid_510 O f K497 n) v0 v4 v5 v6 v7 v10 v11 v12 v13 v14 M
        ) else
        f_Law_areLaid_615 O f (f_Law_areLaid_510 O f K497 n) v0 v4 v5 v6 v7 v10 v11 v12 v13 v14 M
      ) else
      f_Law_areLaid_619 O f (f_Law_areLaid_510 O f K497 n) v0 v4 v5 v6 v7 v10 v11 v12 v13 v14 M
    ) else
    f_Law_areLaid_619 O f (f_Law_areLaid_510 O f K497 n) v0 v4 v5 v6 v7 v10 v11 v12 v13 v14 M
set_option maxRecDepth 20000 in
theorem k_f_Law_areLaid_510 (O : Nat → Option va_E) (f d : Nat) (K497 : Nat → Nat → Int → Int → Nat → Nat → Int → Int → Int → xM → Option (Int × xM)) (hK497 : ∀ (v0 : Nat) (v4 : Nat) (v5 : Int) (v6 : Int) (v7 : Nat) (v10 : Nat) (v11 : Int) (v12 : Int) (v13 : Int) M, xZ oJ O (d + 9) 186 497 [(0, .ref v0), (4, .ref v4), (5, .int (yw v5)), (6, .int (yw v6)), (7, .ref v7), (10, .ref v10), (11, .int (yw v11)), (12, .int (yw v12)), (13, .int (yw v13))] [] M (K497 v0 v4 v5 v6 v7 v10 v11 v12 v13 M)) : ∀ (n : Nat) (v0 : Nat) (v4 : Nat) (v5 : Int) (v6 : Int) (v7 : Nat) (v10 : Nat) (v11 : Int) (v12 : Int) (v13 : Int) (v14 : Int) (M : xM), xZ oJ O (d + 9) 186 510 [(0, .ref v0), (4, .ref v4), (5, .int (yw v5)), (6, .int (yw v6)), (7, .ref v7), (10, .ref v10), (11, .int (yw v11)), (12, .int (yw v12)), (13, .int (yw v13)), (14, .int (yw v14))] [] M (f_Law_areLaid_510 O f K497 n v0 v4 v5 v6 v7 v10 v11 v12 v13 v14 M) := by
  intro n
  induction n with
  | zero =>
    intro v0 v4 v5 v6 v7 v10 v11 v12 v13 v14 M
    exact xZ.no
  | succ n ih =>
    intro v0 v4 v5 v6 v7 v10 v11 v12 v13 v14 M
    unfold f_Law_areLaid_510
    refine xZ.adv (me := xm186) hP_186 2 (pc' := 514) (lv' := [(0, .ref v0), (4, .ref v4), (5, .int (yw v5)), (6, .int (yw v6)), (7, .ref v7), (10, .ref v10), (11, .int (yw v11)), (12, .int (yw v12)), (13, .int (yw v13)), (14, .int (yw v14))]) (st' := [.ref v7, .int (yw v14)]) rfl ?_
    refine xZ.k_gJ (me := xm186) hP_186 rfl (fun x1 => ?_)
    refine xZ.jc_ge (me := xm186) hP_186 rfl (fun h1 => ?_) (fun h1 => ?_)
    · skip
      refine xZ.adv (me := xm186) hP_186 2 (pc' := 497) (lv' := [(13, .int ((yw v13) + (1 : Int32))), (0, .ref v0), (4, .ref v4), (5, .int (yw v5)), (6, .int (yw v6)), (7, .ref v7), (10, .ref v10), (11, .int (yw v11)), (12, .int (yw v12)), (14, .int (yw v14))]) (st' := []) rfl ?_
      refine xZ.eqs (lv2 := [(13, .int (yw (v13 + 1))), (0, .ref v0), (4, .ref v4), (5, .int (yw v5)), (6, .int (yw v6)), (7, .ref v7), (10, .ref v10), (11, .int (yw v11)), (12, .int (yw v12)), (14, .int (yw v14))]) (st2 := []) (by simp only [yl_lit, yL_lit, yw_add, yw_sub, yw_mul, yw_neg, yl_add, yl_sub, yl_mul, cj_and, cj_or, cj_xor, cj_shl, cj_shr, cj_ushr, cj_div, cj_i2c, cj_i2b, cj_dc, ck_and, ck_or, ck_xor, ck_shl, ck_shr, ck_ushr, ck_i2l, ck_l2i, ck_cmp]) rfl ?_
      exact xZ.sub (xsc (.tail _ (.head _)) (xsc (.tail _ (.tail _ (.head _))) (xsc (.tail _ (.tail _ (.tail _ (.head _)))) (xsc (.tail _ (.tail _ (.tail _ (.tail _ (.head _))))) (xsc (.tail _ (.tail _ (.tail _ (.tail _ (.tail _ (.head _)))))) (xsc (.tail _ (.tail _ (.tail _ (.tail _ (.tail _ (.tail _ (.head _))))))) (xsc (.tail _ (.tail _ (.tail _ (.tail _ (.tail _ (.tail _ (.tail _ (.head _)))))))) (xsc (.tail _ (.tail _ (.tail _ (.tail _ (.tail _ (.tail _ (.tail _ (.tail _ (.head _))))))))) (xsc (.head _) xsn))))))))) (show ([13, 0, 4, 5, 6, 7, 10, 11, 12, 14] : List Nat).Nodup from by decide) (hK497 v0 v4 v5 v6 v7 v10 v11 v12 (v13 + 1) M)
    · skip
      refine xZ.adv (me := xm186) hP_186 1 (pc' := 522) (lv' := [(0, .ref v0), (4, .ref v4), (5, .int (yw v5)), (6, .int (yw v6)), (7, .ref v7), (10, .ref v10), (11, .int (yw v11)), (12, .int (yw v12)), (13, .int (yw v13)), (14, .int (yw v14))]) (st' := [.ref v7]) rfl ?_
      refine xZ.k_gR (me := xm186) hP_186 rfl (fun x2 => ?_)
      refine xZ.adv (me := xm186) hP_186 1 (pc' := 527) (lv' := [(0, .ref v0), (4, .ref v4), (5, .int (yw v5)), (6, .int (yw v6)), (7, .ref v7), (10, .ref v10), (11, .int (yw v11)), (12, .int (yw v12)), (13, .int (yw v13)), (14, .int (yw v14))]) (st' := [.int (yw v14), .ref x2]) rfl ?_
      refine xZ.k_aJ (me := xm186) hP_186 rfl (fun x3 => ?_)
      refine xZ.adv (me := xm186) hP_186 1 (pc' := 530) (lv' := [(0, .ref v0), (4, .ref v4), (5, .int (yw v5)), (6, .int (yw v6)), (7, .ref v7), (10, .ref v10), (11, .int (yw v11)), (12, .int (yw v12)), (13, .int (yw v13)), (14, .int (yw v14))]) (st' := [.ref v7, .int (yw x3)]) rfl ?_
      refine xZ.k_gR (me := xm186) hP_186 rfl (fun x4 => ?_)
      refine xZ.adv (me := xm186) hP_186 1 (pc' := 535) (lv' := [(0, .ref v0), (4, .ref v4), (5, .int (yw v5)), (6, .int (yw v6)), (7, .ref v7), (10, .ref v10), (11, .int (yw v11)), (12, .int (yw v12)), (13, .int (yw v13)), (14, .int (yw v14))]) (st' := [.int (yw v13), .ref x4, .int (yw x3)]) rfl ?_
      refine xZ.k_aJ (me := xm186) hP_186 rfl (fun x5 => ?_)
      refine xZ.jc_lt (me := xm186) hP_186 rfl (fun h2 => ?_) (fun h2 => ?_)
      · skip
        exact (k_f_Law_areLaid_615 O f d (f_Law_areLaid_510 O f K497 n) ih v0 v4 v5 v6 v7 v10 v11 v12 v13 v14 M)
      · skip
        refine xZ.adv (me := xm186) hP_186 1 (pc' := 541) (lv' := [(0, .ref v0), (4, .ref v4), (5, .int (yw v5)), (6, .int (yw v6)), (7, .ref v7), (10, .ref v10), (11, .int (yw v11)), (12, .int (yw v12)), (13, .int (yw v13)), (14, .int (yw v14))]) (st' := [.ref v7]) rfl ?_
        refine xZ.k_gR (me := xm186) hP_186 rfl (fun x6 => ?_)
        refine xZ.adv (me := xm186) hP_186 1 (pc' := 546) (lv' := [(0, .ref v0), (4, .ref v4), (5, .int (yw v5)), (6, .int (yw v6)), (7, .ref v7), (10, .ref v10), (11, .int (yw v11)), (12, .int (yw v12)), (13, .int (yw v13)), (14, .int (yw v14))]) (st' := [.int (yw v14), .ref x6]) rfl ?_
        refine xZ.k_aJ (me := xm186) hP_186 rfl (fun x7 => ?_)
        refine xZ.adv (me := xm186) hP_186 1 (pc' := 549) (lv' := [(0, .ref v0), (4, .ref v4), (5, .int (yw v5)), (6, .int (yw v6)), (7, .ref v7), (10, .ref v10), (11, .int (yw v11)), (12, .int (yw v12)), (13, .int (yw v13)), (14, .int (yw v14))]) (st' := [.ref v7, .int (yw x7)]) rfl ?_
        refine xZ.k_gR (me := xm186) hP_186 rfl (fun x8 => ?_)
        refine xZ.adv (me := xm186) hP_186 1 (pc' := 554) (lv' := [(0, .ref v0), (4, .ref v4), (5, .int (yw v5)), (6, .int (yw v6)), (7, .ref v7), (10, .ref v10), (11, .int (yw v11)), (12, .int (yw v12)), (13, .int (yw v13)), (14, .int (yw v14))]) (st' := [.int (yw v13), .ref x8, .int (yw x7)]) rfl ?_
        refine xZ.k_aJ (me := xm186) hP_186 rfl (fun x9 => ?_)
        refine xZ.jc_ne (me := xm186) hP_186 rfl (fun h3 => ?_) (fun h3 => ?_)
        · skip
          refine xZ.adv (me := xm186) hP_186 1 (pc' := 560) (lv' := [(0, .ref v0), (4, .ref v4), (5, .int (yw v5)), (6, .int (yw v6)), (7, .ref v7), (10, .ref v10), (11, .int (yw v11)), (12, .int (yw v12)), (13, .int (yw v13)), (14, .int (yw v14))]) (st' := [.ref v7]) rfl ?_
          refine xZ.k_gR (me := xm186) hP_186 rfl (fun x10 => ?_)
          refine xZ.adv (me := xm186) hP_186 1 (pc' := 565) (lv' := [(0, .ref v0), (4, .ref v4), (5, .int (yw v5)), (6, .int (yw v6)), (7, .ref v7), (10, .ref v10), (11, .int (yw v11)), (12, .int (yw v12)), (13, .int (yw v13)), (14, .int (yw v14))]) (st' := [.int (yw v14), .ref x10]) rfl ?_
          refine xZ.k_aJ (me := xm186) hP_186 rfl (fun x11 => ?_)
          refine xZ.adv (me := xm186) hP_186 1 (pc' := 568) (lv' := [(0, .ref v0), (4, .ref v4), (5, .int (yw v5)), (6, .int (yw v6)), (7, .ref v7), (10, .ref v10), (11, .int (yw v11)), (12, .int (yw v12)), (13, .int (yw v13)), (14, .int (yw v14))]) (st' := [.ref v7, .int (yw x11)]) rfl ?_
          refine xZ.k_gR (me := xm186) hP_186 rfl (fun x12 => ?_)
          refine xZ.adv (me := xm186) hP_186 1 (pc' := 573) (lv' := [(0, .ref v0), (4, .ref v4), (5, .int (yw v5)), (6, .int (yw v6)), (7, .ref v7), (10, .ref v10), (11, .int (yw v11)), (12, .int (yw v12)), (13, .int (yw v13)), (14, .int (yw v14))]) (st' := [.int (yw v13), .ref x12, .int (yw x11)]) rfl ?_
          refine xZ.k_aJ (me := xm186) hP_186 rfl (fun x13 => ?_)
          refine xZ.jc_lt (me := xm186) hP_186 rfl (fun h4 => ?_) (fun h4 => ?_)
          · skip
            exact (k_f_Law_areLaid_615 O f d (f_Law_areLaid_510 O f K497 n) ih v0 v4 v5 v6 v7 v10 v11 v12 v13 v14 M)
          · skip
            refine xZ.adv (me := xm186) hP_186 1 (pc' := 579) (lv' := [(0, .ref v0), (4, .ref v4), (5, .int (yw v5)), (6, .int (yw v6)), (7, .ref v7), (10, .ref v10), (11, .int (yw v11)), (12, .int (yw v12)), (13, .int (yw v13)), (14, .int (yw v14))]) (st' := [.ref v7]) rfl ?_
            refine xZ.k_gR (me := xm186) hP_186 rfl (fun x14 => ?_)
            refine xZ.adv (me := xm186) hP_186 1 (pc' := 584) (lv' := [(0, .ref v0), (4, .ref v4), (5, .int (yw v5)), (6, .int (yw v6)), (7, .ref v7), (10, .ref v10), (11, .int (yw v11)), (12, .int (yw v12)), (13, .int (yw v13)), (14, .int (yw v14))]) (st' := [.int (yw v14), .ref x14]) rfl ?_
            refine xZ.k_aJ (me := xm186) hP_186 rfl (fun x15 => ?_)
            refine xZ.adv (me := xm186) hP_186 1 (pc' := 587) (lv' := [(0, .ref v0), (4, .ref v4), (5, .int (yw v5)), (6, .int (yw v6)), (7, .ref v7), (10, .ref v10), (11, .int (yw v11)), (12, .int (yw v12)), (13, .int (yw v13)), (14, .int (yw v14))]) (st' := [.ref v7, .int (yw x15)]) rfl ?_
            refine xZ.k_gR (me := xm186) hP_186 rfl (fun x16 => ?_)
            refine xZ.adv (me := xm186) hP_186 1 (pc' := 592) (lv' := [(0, .ref v0), (4, .ref v4), (5, .int (yw v5)), (6, .int (yw v6)), (7, .ref v7), (10, .ref v10), (11, .int (yw v11)), (12, .int (yw v12)), (13, .int (yw v13)), (14, .int (yw v14))]) (st' := [.int (yw v13), .ref x16, .int (yw x15)]) rfl ?_
            refine xZ.k_aJ (me := xm186) hP_186 rfl (fun x17 => ?_)
            refine xZ.jc_ne (me := xm186) hP_186 rfl (fun h5 => ?_) (fun h5 => ?_)
            · skip
              refine xZ.adv (me := xm186) hP_186 1 (pc' := 598) (lv' := [(0, .ref v0), (4, .ref v4), (5, .int (yw v5)), (6, .int (yw v6)), (7, .ref v7), (10, .ref v10), (11, .int (yw v11)), (12, .int (yw v12)), (13, .int (yw v13)), (14, .int (yw v14))]) (st' := [.ref v7]) rfl ?_
              refine xZ.k_gR (me := xm186) hP_186 rfl (fun x18 => ?_)
              refine xZ.adv (me := xm186) hP_186 1 (pc' := 603) (lv' := [(0, .ref v0), (4, .ref v4), (5, .int (yw v5)), (6, .int (yw v6)), (7, .ref v7), (10, .ref v10), (11, .int (yw v11)), (12, .int (yw v12)), (13, .int (yw v13)), (14, .int (yw v14))]) (st' := [.int (yw v14), .ref x18]) rfl ?_
              refine xZ.k_aJ (me := xm186) hP_186 rfl (fun x19 => ?_)
              refine xZ.adv (me := xm186) hP_186 1 (pc' := 606) (lv' := [(0, .ref v0), (4, .ref v4), (5, .int (yw v5)), (6, .int (yw v6)), (7, .ref v7), (10, .ref v10), (11, .int (yw v11)), (12, .int (yw v12)), (13, .int (yw v13)), (14, .int (yw v14))]) (st' := [.ref v7, .int (yw x19)]) rfl ?_
              refine xZ.k_gR (me := xm186) hP_186 rfl (fun x20 => ?_)
              refine xZ.adv (me := xm186) hP_186 1 (pc' := 611) (lv' := [(0, .ref v0), (4, .ref v4), (5, .int (yw v5)), (6, .int (yw v6)), (7, .ref v7), (10, .ref v10), (11, .int (yw v11)), (12, .int (yw v12)), (13, .int (yw v13)), (14, .int (yw v14))]) (st' := [.int (yw v13), .ref x20, .int (yw x19)]) rfl ?_
              refine xZ.k_aJ (me := xm186) hP_186 rfl (fun x21 => ?_)
              refine xZ.jc_ge (me := xm186) hP_186 rfl (fun h6 => ?_) (fun h6 => ?_)
              · skip
                exact (k_f_Law_areLaid_619 O f d (f_Law_areLaid_510 O f K497 n) ih v0 v4 v5 v6 v7 v10 v11 v12 v13 v14 M)
              · skip
                exact (k_f_Law_areLaid_615 O f d (f_Law_areLaid_510 O f K497 n) ih v0 v4 v5 v6 v7 v10 v11 v12 v13 v14 M)
            · skip
              exact (k_f_Law_areLaid_619 O f d (f_Law_areLaid_510 O f K497 n) ih v0 v4 v5 v6 v7 v10 v11 v12 v13 v14 M)
        · skip
          exact (k_f_Law_areLaid_619 O f d (f_Law_areLaid_510 O f K497 n) ih v0 v4 v5 v6 v7 v10 v11 v12 v13 v14 M)
def f_Law_areLaid_497 (O : Nat → Option va_E) (f : Nat) : Nat → Nat → Nat → Int → Int → Nat → Nat → Int → Int → Int → xM → Option (Int × xM)
  | 0, _, _, _, _, _, _, _, _, _, _ => none
  | n + 1, v0, v4, v5, v6, v7, v10, v11, v12, v13, M =>
    (gJ O M v7 13 4).bind fun x1 =>
    if yw x1 ≤ yw v13 then (
      (isO O M v0 12).bind fun _ =>
      xcl (f_Calendarhall_clashes O f v0 v11 v5 v6 M) fun x2 M1 =>
      if yw x2 = yw v12 then (
        some (1, M1)
      ) else
      some (0, M1)
    ) else
    f_Law_areLaid_510 O f (f_Law_areLaid_497 O f n) f v0 v4 v5 v6 v7 v10 v11 v12 v13 0 M
set_option maxRecDepth 20000 in
theorem k_f_Law_areLaid_497 (O : Nat → Option va_E) (f d : Nat) : ∀ (n : Nat) (v0 : Nat) (v4 : Nat) (v5 : Int) (v6 : Int) (v7 : Nat) (v10 : Nat) (v11 : Int) (v12 : Int) (v13 : Int) (M : xM), xZ oJ O (d + 9) 186 497 [(0, .ref v0), (4, .ref v4), (5, .int (yw v5)), (6, .int (yw v6)), (7, .ref v7), (10, .ref v10), (11, .int (yw v11)), (12, .int (yw v12)), (13, .int (yw v13))] [] M (f_Law_areLaid_497 O f n v0 v4 v5 v6 v7 v10 v11 v12 v13 M) := by
  intro n
  induction n with
  | zero =>
    intro v0 v4 v5 v6 v7 v10 v11 v12 v13 M
    exact xZ.no
  | succ n ih =>
    intro v0 v4 v5 v6 v7 v10 v11 v12 v13 M
    unfold f_Law_areLaid_497
    refine xZ.adv (me := xm186) hP_186 2 (pc' := 501) (lv' := [(0, .ref v0), (4, .ref v4), (5, .int (yw v5)), (6, .int (yw v6)), (7, .ref v7), (10, .ref v10), (11, .int (yw v11)), (12, .int (yw v12)), (13, .int (yw v13))]) (st' := [.ref v7, .int (yw v13)]) rfl ?_
    refine xZ.k_gJ (me := xm186) hP_186 rfl (fun x1 => ?_)
    refine xZ.jc_ge (me := xm186) hP_186 rfl (fun h1 => ?_) (fun h1 => ?_)
    · skip
      refine xZ.adv (me := xm186) hP_186 4 (pc' := 769) (lv' := [(0, .ref v0), (4, .ref v4), (5, .int (yw v5)), (6, .int (yw v6)), (7, .ref v7), (10, .ref v10), (11, .int (yw v11)), (12, .int (yw v12)), (13, .int (yw v13))]) (st' := [.int (yw v6), .int (yw v5), .int (yw v11), .ref v0]) rfl ?_
      refine xZ.callv (κ := oJ) (av := [.int (yw v11), .int (yw v5), .int (yw v6)]) (rest := []) (st' := fun x2 => [.int (yw x2)]) (k0 := v0) (me := xm186) hP_186 rfl (Or.inl rfl) ⟨rfl, by decide⟩ rfl rfl (Nat.le_of_ble_eq_true rfl) (by decide) hP_198 (Nat.le_of_ble_eq_true rfl) (fun _ => rfl) (k_f_Calendarhall_clashes O f (d + 1) v0 v11 v5 v6 M) (fun x2 M1 => ?_)
      refine xZ.adv (me := xm186) hP_186 1 (pc' := 774) (lv' := [(0, .ref v0), (4, .ref v4), (5, .int (yw v5)), (6, .int (yw v6)), (7, .ref v7), (10, .ref v10), (11, .int (yw v11)), (12, .int (yw v12)), (13, .int (yw v13))]) (st' := [.int (yw v12), .int (yw x2)]) rfl ?_
      refine xZ.jc_ne (me := xm186) hP_186 rfl (fun h2 => ?_) (fun h2 => ?_)
      · skip
        refine xZ.adv (me := xm186) hP_186 2 (pc' := 782) (lv' := [(0, .ref v0), (4, .ref v4), (5, .int (yw v5)), (6, .int (yw v6)), (7, .ref v7), (10, .ref v10), (11, .int (yw v11)), (12, .int (yw v12)), (13, .int (yw v13))]) (st' := [.int (1 : Int32)]) rfl ?_
        refine xZ.eqs (lv2 := [(0, .ref v0), (4, .ref v4), (5, .int (yw v5)), (6, .int (yw v6)), (7, .ref v7), (10, .ref v10), (11, .int (yw v11)), (12, .int (yw v12)), (13, .int (yw v13))]) (st2 := [.int (yw 1)]) rfl (by simp only [yl_lit, yL_lit, yw_add, yw_sub, yw_mul, yw_neg, yl_add, yl_sub, yl_mul, cj_and, cj_or, cj_xor, cj_shl, cj_shr, cj_ushr, cj_div, cj_i2c, cj_i2b, cj_dc, ck_and, ck_or, ck_xor, ck_shl, ck_shr, ck_ushr, ck_i2l, ck_l2i, ck_cmp]) ?_
        exact xZ.jrete (me := xm186) hP_186 rfl rfl rfl
      · skip
        refine xZ.adv (me := xm186) hP_186 1 (pc' := 782) (lv' := [(0, .ref v0), (4, .ref v4), (5, .int (yw v5)), (6, .int (yw v6)), (7, .ref v7), (10, .ref v10), (11, .int (yw v11)), (12, .int (yw v12)), (13, .int (yw v13))]) (st' := [.int (0 : Int32)]) rfl ?_
        refine xZ.eqs (lv2 := [(0, .ref v0), (4, .ref v4), (5, .int (yw v5)), (6, .int (yw v6)), (7, .ref v7), (10, .ref v10), (11, .int (yw v11)), (12, .int (yw v12)), (13, .int (yw v13))]) (st2 := [.int (yw 0)]) rfl (by simp only [yl_lit, yL_lit, yw_add, yw_sub, yw_mul, yw_neg, yl_add, yl_sub, yl_mul, cj_and, cj_or, cj_xor, cj_shl, cj_shr, cj_ushr, cj_div, cj_i2c, cj_i2b, cj_dc, ck_and, ck_or, ck_xor, ck_shl, ck_shr, ck_ushr, ck_i2l, ck_l2i, ck_cmp]) ?_
        exact xZ.jrete (me := xm186) hP_186 rfl rfl rfl
    · skip
      refine xZ.adv (me := xm186) hP_186 2 (pc' := 510) (lv' := [(14, .int (0 : Int32)), (0, .ref v0), (4, .ref v4), (5, .int (yw v5)), (6, .int (yw v6)), (7, .ref v7), (10, .ref v10), (11, .int (yw v11)), (12, .int (yw v12)), (13, .int (yw v13))]) (st' := []) rfl ?_
      refine xZ.eqs (lv2 := [(14, .int (yw 0)), (0, .ref v0), (4, .ref v4), (5, .int (yw v5)), (6, .int (yw v6)), (7, .ref v7), (10, .ref v10), (11, .int (yw v11)), (12, .int (yw v12)), (13, .int (yw v13))]) (st2 := []) (by simp only [yl_lit, yL_lit, yw_add, yw_sub, yw_mul, yw_neg, yl_add, yl_sub, yl_mul, cj_and, cj_or, cj_xor, cj_shl, cj_shr, cj_ushr, cj_div, cj_i2c, cj_i2b, cj_dc, ck_and, ck_or, ck_xor, ck_shl, ck_shr, ck_ushr, ck_i2l, ck_l2i, ck_cmp]) rfl ?_
      exact xZ.sub (xsc (.tail _ (.head _)) (xsc (.tail _ (.tail _ (.head _))) (xsc (.tail _ (.tail _ (.tail _ (.head _)))) (xsc (.tail _ (.tail _ (.tail _ (.tail _ (.head _))))) (xsc (.tail _ (.tail _ (.tail _ (.tail _ (.tail _ (.head _)))))) (xsc (.tail _ (.tail _ (.tail _ (.tail _ (.tail _ (.tail _ (.head _))))))) (xsc (.tail _ (.tail _ (.tail _ (.tail _ (.tail _ (.tail _ (.tail _ (.head _)))))))) (xsc (.tail _ (.tail _ (.tail _ (.tail _ (.tail _ (.tail _ (.tail _ (.tail _ (.head _))))))))) (xsc (.tail _ (.tail _ (.tail _ (.tail _ (.tail _ (.tail _ (.tail _ (.tail _ (.tail _ (.head _)))))))))) (xsc (.head _) xsn)))))))))) (show ([14, 0, 4, 5, 6, 7, 10, 11, 12, 13] : List Nat).Nodup from by decide) (k_f_Law_areLaid_510 O f d (f_Law_areLaid_497 O f n) ih f v0 v4 v5 v6 v7 v10 v11 v12 v13 0 M)
def f_Law_areLaid_398 (O : Nat → Option va_E) (f : Nat) (K303 : Nat → Nat → Nat → Int → Int → Nat → Int → Nat → Int → xM → Option (Int × xM)) : Nat → Nat → Nat → Nat → Int → Int → Nat → Int → Nat → Int → Int → xM → Option (Int × xM)
  | 0, _, _, _, _, _, _, _, _, _, _, _ => none
  | n + 1, v0, v1, v4, v5, v6, v7, v9, v10, v11, v12, M =>
    if yw v11 ≤ yw v12 then (
      K303 v0 v1 v4 v5 v6 v7 v9 v10 (v11 + 1) M
    ) else
    (aJ O M v10 v11).bind fun x1 =>
    if yw x1 = yw (-1) then (
      f_Law_areLaid_398 O f K303 n v0 v1 v4 v5 v6 v7 v9 v10 v11 (v12 + 1) M
    ) else
    (aJ O M v10 v12).bind fun x2 =>
    (aJ O M v10 v11).bind fun x3 =>
    if yw x2 = yw x3 then (
      (gR O M v7 13 2).bind fun x4 =>
      (aJ O M x4 v11).bind fun x5 =>
      (isO O M v7 13).bind fun _ =>
      xcl (f_LDates_end O f v7 v12 M) fun x6 M1 =>
      if yw x6 ≤ yw x5 then (
        f_Law_areLaid_398 O f K303 n v0 v1 v4 v5 v6 v7 v9 v10 v11 (v12 + 1) M1
      ) else
      (gR O M1 v7 13 2).bind fun x7 =>
      (aJ O M1 x7 v12).bind fun x8 =>
      (isO O M1 v7 13).bind fun _ =>
      xcl (f_LDates_end O f v7 v11 M1) fun x9 M2 =>
      if yw x9 ≤ yw x8 then (
        f_Law_areLaid_398 O f K303 n v0 v1 v4 v5 v6 v7 v9 v10 v11 (v12 + 1) M2
      ) else
      some (0, M2)
    ) else
    f_Law_areLaid_398 O f K303 n v0 v1 v4 v5 v6 v7 v9 v10 v11 (v12 + 1) M
set_option maxRecDepth 20000 in
theorem k_f_Law_areLaid_398 (O : Nat → Option va_E) (f d : Nat) (K303 : Nat → Nat → Nat → Int → Int → Nat → Int → Nat → Int → xM → Option (Int × xM)) (hK303 : ∀ (v0 : Nat) (v1 : Nat) (v4 : Nat) (v5 : Int) (v6 : Int) (v7 : Nat) (v9 : Int) (v10 : Nat) (v11 : Int) M, xZ oJ O (d + 9) 186 303 [(0, .ref v0), (1, .ref v1), (4, .ref v4), (5, .int (yw v5)), (6, .int (yw v6)), (7, .ref v7), (9, .int (yw v9)), (10, .ref v10), (11, .int (yw v11))] [] M (K303 v0 v1 v4 v5 v6 v7 v9 v10 v11 M)) : ∀ (n : Nat) (v0 : Nat) (v1 : Nat) (v4 : Nat) (v5 : Int) (v6 : Int) (v7 : Nat) (v9 : Int) (v10 : Nat) (v11 : Int) (v12 : Int) (M : xM), xZ oJ O (d + 9) 186 398 [(0, .ref v0), (1, .ref v1), (4, .ref v4), (5, .int (yw v5)), (6, .int (yw v6)), (7, .ref v7), (9, .int (yw v9)), (10, .ref v10), (11, .int (yw v11)), (12, .int (yw v12))] [] M (f_Law_areLaid_398 O f K303 n v0 v1 v4 v5 v6 v7 v9 v10 v11 v12 M) := by
  intro n
  induction n with
  | zero =>
    intro v0 v1 v4 v5 v6 v7 v9 v10 v11 v12 M
    exact xZ.no
  | succ n ih =>
    intro v0 v1 v4 v5 v6 v7 v9 v10 v11 v12 M
    unfold f_Law_areLaid_398
    refine xZ.adv (me := xm186) hP_186 2 (pc' := 402) (lv' := [(0, .ref v0), (1, .ref v1), (4, .ref v4), (5, .int (yw v5)), (6, .int (yw v6)), (7, .ref v7), (9, .int (yw v9)), (10, .ref v10), (11, .int (yw v11)), (12, .int (yw v12))]) (st' := [.int (yw v11), .int (yw v12)]) rfl ?_
    refine xZ.jc_ge (me := xm186) hP_186 rfl (fun h1 => ?_) (fun h1 => ?_)
    · skip
      refine xZ.adv (me := xm186) hP_186 2 (pc' := 303) (lv' := [(11, .int ((yw v11) + (1 : Int32))), (0, .ref v0), (1, .ref v1), (4, .ref v4), (5, .int (yw v5)), (6, .int (yw v6)), (7, .ref v7), (9, .int (yw v9)), (10, .ref v10), (12, .int (yw v12))]) (st' := []) rfl ?_
      refine xZ.eqs (lv2 := [(11, .int (yw (v11 + 1))), (0, .ref v0), (1, .ref v1), (4, .ref v4), (5, .int (yw v5)), (6, .int (yw v6)), (7, .ref v7), (9, .int (yw v9)), (10, .ref v10), (12, .int (yw v12))]) (st2 := []) (by simp only [yl_lit, yL_lit, yw_add, yw_sub, yw_mul, yw_neg, yl_add, yl_sub, yl_mul, cj_and, cj_or, cj_xor, cj_shl, cj_shr, cj_ushr, cj_div, cj_i2c, cj_i2b, cj_dc, ck_and, ck_or, ck_xor, ck_shl, ck_shr, ck_ushr, ck_i2l, ck_l2i, ck_cmp]) rfl ?_
      exact xZ.sub (xsc (.tail _ (.head _)) (xsc (.tail _ (.tail _ (.head _))) (xsc (.tail _ (.tail _ (.tail _ (.head _)))) (xsc (.tail _ (.tail _ (.tail _ (.tail _ (.head _))))) (xsc (.tail _ (.tail _ (.tail _ (.tail _ (.tail _ (.head _)))))) (xsc (.tail _ (.tail _ (.tail _ (.tail _ (.tail _ (.tail _ (.head _))))))) (xsc (.tail _ (.tail _ (.tail _ (.tail _ (.tail _ (.tail _ (.tail _ (.head _)))))))) (xsc (.tail _ (.tail _ (.tail _ (.tail _ (.tail _ (.tail _ (.tail _ (.tail _ (.head _))))))))) (xsc (.head _) xsn))))))))) (show ([11, 0, 1, 4, 5, 6, 7, 9, 10, 12] : List Nat).Nodup from by decide) (hK303 v0 v1 v4 v5 v6 v7 v9 v10 (v11 + 1) M)
    · skip
      refine xZ.adv (me := xm186) hP_186 2 (pc' := 409) (lv' := [(0, .ref v0), (1, .ref v1), (4, .ref v4), (5, .int (yw v5)), (6, .int (yw v6)), (7, .ref v7), (9, .int (yw v9)), (10, .ref v10), (11, .int (yw v11)), (12, .int (yw v12))]) (st' := [.int (yw v11), .ref v10]) rfl ?_
      refine xZ.k_aJ (me := xm186) hP_186 rfl (fun x1 => ?_)
      refine xZ.adv (me := xm186) hP_186 1 (pc' := 411) (lv' := [(0, .ref v0), (1, .ref v1), (4, .ref v4), (5, .int (yw v5)), (6, .int (yw v6)), (7, .ref v7), (9, .int (yw v9)), (10, .ref v10), (11, .int (yw v11)), (12, .int (yw v12))]) (st' := [.int (-1 : Int32), .int (yw x1)]) rfl ?_
      refine xZ.eqs (lv2 := [(0, .ref v0), (1, .ref v1), (4, .ref v4), (5, .int (yw v5)), (6, .int (yw v6)), (7, .ref v7), (9, .int (yw v9)), (10, .ref v10), (11, .int (yw v11)), (12, .int (yw v12))]) (st2 := [.int (yw (-1)), .int (yw x1)]) rfl (by simp only [yl_lit, yL_lit, yw_add, yw_sub, yw_mul, yw_neg, yl_add, yl_sub, yl_mul, cj_and, cj_or, cj_xor, cj_shl, cj_shr, cj_ushr, cj_div, cj_i2c, cj_i2b, cj_dc, ck_and, ck_or, ck_xor, ck_shl, ck_shr, ck_ushr, ck_i2l, ck_l2i, ck_cmp]) ?_
      refine xZ.jc_eq (me := xm186) hP_186 rfl (fun h2 => ?_) (fun h2 => ?_)
      · skip
        refine xZ.adv (me := xm186) hP_186 2 (pc' := 398) (lv' := [(12, .int ((yw v12) + (1 : Int32))), (0, .ref v0), (1, .ref v1), (4, .ref v4), (5, .int (yw v5)), (6, .int (yw v6)), (7, .ref v7), (9, .int (yw v9)), (10, .ref v10), (11, .int (yw v11))]) (st' := []) rfl ?_
        refine xZ.eqs (lv2 := [(12, .int (yw (v12 + 1))), (0, .ref v0), (1, .ref v1), (4, .ref v4), (5, .int (yw v5)), (6, .int (yw v6)), (7, .ref v7), (9, .int (yw v9)), (10, .ref v10), (11, .int (yw v11))]) (st2 := []) (by simp only [yl_lit, yL_lit, yw_add, yw_sub, yw_mul, yw_neg, yl_add, yl_sub, yl_mul, cj_and, cj_or, cj_xor, cj_shl, cj_shr, cj_ushr, cj_div, cj_i2c, cj_i2b, cj_dc, ck_and, ck_or, ck_xor, ck_shl, ck_shr, ck_ushr, ck_i2l, ck_l2i, ck_cmp]) rfl ?_
        exact xZ.sub (xsc (.tail _ (.head _)) (xsc (.tail _ (.tail _ (.head _))) (xsc (.tail _ (.tail _ (.tail _ (.head _)))) (xsc (.tail _ (.tail _ (.tail _ (.tail _ (.head _))))) (xsc (.tail _ (.tail _ (.tail _ (.tail _ (.tail _ (.head _)))))) (xsc (.tail _ (.tail _ (.tail _ (.tail _ (.tail _ (.tail _ (.head _))))))) (xsc (.tail _ (.tail _ (.tail _ (.tail _ (.tail _ (.tail _ (.tail _ (.head _)))))))) (xsc (.tail _ (.tail _ (.tail _ (.tail _ (.tail _ (.tail _ (.tail _ (.tail _ (.head _))))))))) (xsc (.tail _ (.tail _ (.tail _ (.tail _ (.tail _ (.tail _ (.tail _ (.tail _ (.tail _ (.head _)))))))))) (xsc (.head _) xsn)))))))))) (show ([12, 0, 1, 4, 5, 6, 7, 9, 10, 11] : List Nat).Nodup from by decide) (ih v0 v1 v4 v5 v6 v7 v9 v10 v11 (v12 + 1) M)
      · skip
        refine xZ.adv (me := xm186) hP_186 2 (pc' := 418) (lv' := [(0, .ref v0), (1, .ref v1), (4, .ref v4), (5, .int (yw v5)), (6, .int (yw v6)), (7, .ref v7), (9, .int (yw v9)), (10, .ref v10), (11, .int (yw v11)), (12, .int (yw v12))]) (st' := [.int (yw v12), .ref v10]) rfl ?_
        refine xZ.k_aJ (me := xm186) hP_186 rfl (fun x2 => ?_)
        refine xZ.adv (me := xm186) hP_186 2 (pc' := 423) (lv' := [(0, .ref v0), (1, .ref v1), (4, .ref v4), (5, .int (yw v5)), (6, .int (yw v6)), (7, .ref v7), (9, .int (yw v9)), (10, .ref v10), (11, .int (yw v11)), (12, .int (yw v12))]) (st' := [.int (yw v11), .ref v10, .int (yw x2)]) rfl ?_
        refine xZ.k_aJ (me := xm186) hP_186 rfl (fun x3 => ?_)
        refine xZ.jc_ne (me := xm186) hP_186 rfl (fun h3 => ?_) (fun h3 => ?_)
        · skip
          refine xZ.adv (me := xm186) hP_186 1 (pc' := 429) (lv' := [(0, .ref v0), (1, .ref v1), (4, .ref v4), (5, .int (yw v5)), (6, .int (yw v6)), (7, .ref v7), (9, .int (yw v9)), (10, .ref v10), (11, .int (yw v11)), (12, .int (yw v12))]) (st' := [.ref v7]) rfl ?_
          refine xZ.k_gR (me := xm186) hP_186 rfl (fun x4 => ?_)
          refine xZ.adv (me := xm186) hP_186 1 (pc' := 434) (lv' := [(0, .ref v0), (1, .ref v1), (4, .ref v4), (5, .int (yw v5)), (6, .int (yw v6)), (7, .ref v7), (9, .int (yw v9)), (10, .ref v10), (11, .int (yw v11)), (12, .int (yw v12))]) (st' := [.int (yw v11), .ref x4]) rfl ?_
          refine xZ.k_aJ (me := xm186) hP_186 rfl (fun x5 => ?_)
          refine xZ.adv (me := xm186) hP_186 2 (pc' := 439) (lv' := [(0, .ref v0), (1, .ref v1), (4, .ref v4), (5, .int (yw v5)), (6, .int (yw v6)), (7, .ref v7), (9, .int (yw v9)), (10, .ref v10), (11, .int (yw v11)), (12, .int (yw v12))]) (st' := [.int (yw v12), .ref v7, .int (yw x5)]) rfl ?_
          refine xZ.callv (κ := oJ) (av := [.int (yw v12)]) (rest := [.int (yw x5)]) (st' := fun x6 => [.int (yw x6), .int (yw x5)]) (k0 := v7) (me := xm186) hP_186 rfl (Or.inl rfl) ⟨rfl, by decide⟩ rfl rfl (Nat.le_of_ble_eq_true rfl) (by decide) hP_154 (Nat.le_of_ble_eq_true rfl) (fun _ => rfl) (k_f_LDates_end O f (d + 8) v7 v12 M) (fun x6 M1 => ?_)
          refine xZ.jc_ge (me := xm186) hP_186 rfl (fun h4 => ?_) (fun h4 => ?_)
          · skip
            refine xZ.adv (me := xm186) hP_186 2 (pc' := 398) (lv' := [(12, .int ((yw v12) + (1 : Int32))), (0, .ref v0), (1, .ref v1), (4, .ref v4), (5, .int (yw v5)), (6, .int (yw v6)), (7, .ref v7), (9, .int (yw v9)), (10, .ref v10), (11, .int (yw v11))]) (st' := []) rfl ?_
            refine xZ.eqs (lv2 := [(12, .int (yw (v12 + 1))), (0, .ref v0), (1, .ref v1), (4, .ref v4), (5, .int (yw v5)), (6, .int (yw v6)), (7, .ref v7), (9, .int (yw v9)), (10, .ref v10), (11, .int (yw v11))]) (st2 := []) (by simp only [yl_lit, yL_lit, yw_add, yw_sub, yw_mul, yw_neg, yl_add, yl_sub, yl_mul, cj_and, cj_or, cj_xor, cj_shl, cj_shr, cj_ushr, cj_div, cj_i2c, cj_i2b, cj_dc, ck_and, ck_or, ck_xor, ck_shl, ck_shr, ck_ushr, ck_i2l, ck_l2i, ck_cmp]) rfl ?_
            exact xZ.sub (xsc (.tail _ (.head _)) (xsc (.tail _ (.tail _ (.head _))) (xsc (.tail _ (.tail _ (.tail _ (.head _)))) (xsc (.tail _ (.tail _ (.tail _ (.tail _ (.head _))))) (xsc (.tail _ (.tail _ (.tail _ (.tail _ (.tail _ (.head _)))))) (xsc (.tail _ (.tail _ (.tail _ (.tail _ (.tail _ (.tail _ (.head _))))))) (xsc (.tail _ (.tail _ (.tail _ (.tail _ (.tail _ (.tail _ (.tail _ (.head _)))))))) (xsc (.tail _ (.tail _ (.tail _ (.tail _ (.tail _ (.tail _ (.tail _ (.tail _ (.head _))))))))) (xsc (.tail _ (.tail _ (.tail _ (.tail _ (.tail _ (.tail _ (.tail _ (.tail _ (.tail _ (.head _)))))))))) (xsc (.head _) xsn)))))))))) (show ([12, 0, 1, 4, 5, 6, 7, 9, 10, 11] : List Nat).Nodup from by decide) (ih v0 v1 v4 v5 v6 v7 v9 v10 v11 (v12 + 1) M1)
          · skip
            refine xZ.adv (me := xm186) hP_186 1 (pc' := 447) (lv' := [(0, .ref v0), (1, .ref v1), (4, .ref v4), (5, .int (yw v5)), (6, .int (yw v6)), (7, .ref v7), (9, .int (yw v9)), (10, .ref v10), (11, .int (yw v11)), (12, .int (yw v12))]) (st' := [.ref v7]) rfl ?_
            refine xZ.k_gR (me := xm186) hP_186 rfl (fun x7 => ?_)
            refine xZ.adv (me := xm186) hP_186 1 (pc' := 452) (lv' := [(0, .ref v0), (1, .ref v1), (4, .ref v4), (5, .int (yw v5)), (6, .int (yw v6)), (7, .ref v7), (9, .int (yw v9)), (10, .ref v10), (11, .int (yw v11)), (12, .int (yw v12))]) (st' := [.int (yw v12), .ref x7]) rfl ?_
            refine xZ.k_aJ (me := xm186) hP_186 rfl (fun x8 => ?_)
            refine xZ.adv (me := xm186) hP_186 2 (pc' := 457) (lv' := [(0, .ref v0), (1, .ref v1), (4, .ref v4), (5, .int (yw v5)), (6, .int (yw v6)), (7, .ref v7), (9, .int (yw v9)), (10, .ref v10), (11, .int (yw v11)), (12, .int (yw v12))]) (st' := [.int (yw v11), .ref v7, .int (yw x8)]) rfl ?_
            refine xZ.callv (κ := oJ) (av := [.int (yw v11)]) (rest := [.int (yw x8)]) (st' := fun x9 => [.int (yw x9), .int (yw x8)]) (k0 := v7) (me := xm186) hP_186 rfl (Or.inl rfl) ⟨rfl, by decide⟩ rfl rfl (Nat.le_of_ble_eq_true rfl) (by decide) hP_154 (Nat.le_of_ble_eq_true rfl) (fun _ => rfl) (k_f_LDates_end O f (d + 8) v7 v11 M1) (fun x9 M2 => ?_)
            refine xZ.jc_ge (me := xm186) hP_186 rfl (fun h5 => ?_) (fun h5 => ?_)
            · skip
              refine xZ.adv (me := xm186) hP_186 2 (pc' := 398) (lv' := [(12, .int ((yw v12) + (1 : Int32))), (0, .ref v0), (1, .ref v1), (4, .ref v4), (5, .int (yw v5)), (6, .int (yw v6)), (7, .ref v7), (9, .int (yw v9)), (10, .ref v10), (11, .int (yw v11))]) (st' := []) rfl ?_
              refine xZ.eqs (lv2 := [(12, .int (yw (v12 + 1))), (0, .ref v0), (1, .ref v1), (4, .ref v4), (5, .int (yw v5)), (6, .int (yw v6)), (7, .ref v7), (9, .int (yw v9)), (10, .ref v10), (11, .int (yw v11))]) (st2 := []) (by simp only [yl_lit, yL_lit, yw_add, yw_sub, yw_mul, yw_neg, yl_add, yl_sub, yl_mul, cj_and, cj_or, cj_xor, cj_shl, cj_shr, cj_ushr, cj_div, cj_i2c, cj_i2b, cj_dc, ck_and, ck_or, ck_xor, ck_shl, ck_shr, ck_ushr, ck_i2l, ck_l2i, ck_cmp]) rfl ?_
              exact xZ.sub (xsc (.tail _ (.head _)) (xsc (.tail _ (.tail _ (.head _))) (xsc (.tail _ (.tail _ (.tail _ (.head _)))) (xsc (.tail _ (.tail _ (.tail _ (.tail _ (.head _))))) (xsc (.tail _ (.tail _ (.tail _ (.tail _ (.tail _ (.head _)))))) (xsc (.tail _ (.tail _ (.tail _ (.tail _ (.tail _ (.tail _ (.head _))))))) (xsc (.tail _ (.tail _ (.tail _ (.tail _ (.tail _ (.tail _ (.tail _ (.head _)))))))) (xsc (.tail _ (.tail _ (.tail _ (.tail _ (.tail _ (.tail _ (.tail _ (.tail _ (.head _))))))))) (xsc (.tail _ (.tail _ (.tail _ (.tail _ (.tail _ (.tail _ (.tail _ (.tail _ (.tail _ (.head _)))))))))) (xsc (.head _) xsn)))))))))) (show ([12, 0, 1, 4, 5, 6, 7, 9, 10, 11] : List Nat).Nodup from by decide) (ih v0 v1 v4 v5 v6 v7 v9 v10 v11 (v12 + 1) M2)
            · skip
              refine xZ.adv (me := xm186) hP_186 1 (pc' := 464) (lv' := [(0, .ref v0), (1, .ref v1), (4, .ref v4), (5, .int (yw v5)), (6, .int (yw v6)), (7, .ref v7), (9, .int (yw v9)), (10, .ref v10), (11, .int (yw v11)), (12, .int (yw v12))]) (st' := [.int (0 : Int32)]) rfl ?_
              refine xZ.eqs (lv2 := [(0, .ref v0), (1, .ref v1), (4, .ref v4), (5, .int (yw v5)), (6, .int (yw v6)), (7, .ref v7), (9, .int (yw v9)), (10, .ref v10), (11, .int (yw v11)), (12, .int (yw v12))]) (st2 := [.int (yw 0)]) rfl (by simp only [yl_lit, yL_lit, yw_add, yw_sub, yw_mul, yw_neg, yl_add, yl_sub, yl_mul, cj_and, cj_or, cj_xor, cj_shl, cj_shr, cj_ushr, cj_div, cj_i2c, cj_i2b, cj_dc, ck_and, ck_or, ck_xor, ck_shl, ck_shr, ck_ushr, ck_i2l, ck_l2i, ck_cmp]) ?_
              exact xZ.jrete (me := xm186) hP_186 rfl rfl rfl
        · skip
          refine xZ.adv (me := xm186) hP_186 2 (pc' := 398) (lv' := [(12, .int ((yw v12) + (1 : Int32))), (0, .ref v0), (1, .ref v1), (4, .ref v4), (5, .int (yw v5)), (6, .int (yw v6)), (7, .ref v7), (9, .int (yw v9)), (10, .ref v10), (11, .int (yw v11))]) (st' := []) rfl ?_
          refine xZ.eqs (lv2 := [(12, .int (yw (v12 + 1))), (0, .ref v0), (1, .ref v1), (4, .ref v4), (5, .int (yw v5)), (6, .int (yw v6)), (7, .ref v7), (9, .int (yw v9)), (10, .ref v10), (11, .int (yw v11))]) (st2 := []) (by simp only [yl_lit, yL_lit, yw_add, yw_sub, yw_mul, yw_neg, yl_add, yl_sub, yl_mul, cj_and, cj_or, cj_xor, cj_shl, cj_shr, cj_ushr, cj_div, cj_i2c, cj_i2b, cj_dc, ck_and, ck_or, ck_xor, ck_shl, ck_shr, ck_ushr, ck_i2l, ck_l2i, ck_cmp]) rfl ?_
          exact xZ.sub (xsc (.tail _ (.head _)) (xsc (.tail _ (.tail _ (.head _))) (xsc (.tail _ (.tail _ (.tail _ (.head _)))) (xsc (.tail _ (.tail _ (.tail _ (.tail _ (.head _))))) (xsc (.tail _ (.tail _ (.tail _ (.tail _ (.tail _ (.head _)))))) (xsc (.tail _ (.tail _ (.tail _ (.tail _ (.tail _ (.tail _ (.head _))))))) (xsc (.tail _ (.tail _ (.tail _ (.tail _ (.tail _ (.tail _ (.tail _ (.head _)))))))) (xsc (.tail _ (.tail _ (.tail _ (.tail _ (.tail _ (.tail _ (.tail _ (.tail _ (.head _))))))))) (xsc (.tail _ (.tail _ (.tail _ (.tail _ (.tail _ (.tail _ (.tail _ (.tail _ (.tail _ (.head _)))))))))) (xsc (.head _) xsn)))))))))) (show ([12, 0, 1, 4, 5, 6, 7, 9, 10, 11] : List Nat).Nodup from by decide) (ih v0 v1 v4 v5 v6 v7 v9 v10 v11 (v12 + 1) M)
def f_Law_areLaid_392 (O : Nat → Option va_E) (f : Nat) (K303 : Nat → Nat → Nat → Int → Int → Nat → Int → Nat → Int → xM → Option (Int × xM)) (v0 : Nat) (v1 : Nat) (v4 : Nat) (v5 : Int) (v6 : Int) (v7 : Nat) (v10 : Nat) (v11 : Int) (s0 : Int) (s1 : Int) (M : xM) : Option (Int × xM) :=
  f_Law_areLaid_398 O f K303 f v0 v1 v4 v5 v6 v7 (s0 - s1) v10 v11 0 M
set_option maxRecDepth 20000 in
theorem k_f_Law_areLaid_392 (O : Nat → Option va_E) (f d : Nat) (K303 : Nat → Nat → Nat → Int → Int → Nat → Int → Nat → Int → xM → Option (Int × xM)) (hK303 : ∀ (v0 : Nat) (v1 : Nat) (v4 : Nat) (v5 : Int) (v6 : Int) (v7 : Nat) (v9 : Int) (v10 : Nat) (v11 : Int) M, xZ oJ O (d + 9) 186 303 [(0, .ref v0), (1, .ref v1), (4, .ref v4), (5, .int (yw v5)), (6, .int (yw v6)), (7, .ref v7), (9, .int (yw v9)), (10, .ref v10), (11, .int (yw v11))] [] M (K303 v0 v1 v4 v5 v6 v7 v9 v10 v11 M)) (v0 : Nat) (v1 : Nat) (v4 : Nat) (v5 : Int) (v6 : Int) (v7 : Nat) (v10 : Nat) (v11 : Int) (s0 : Int) (s1 : Int) (M : xM) : xZ oJ O (d + 9) 186 392 [(0, .ref v0), (1, .ref v1), (4, .ref v4), (5, .int (yw v5)), (6, .int (yw v6)), (7, .ref v7), (10, .ref v10), (11, .int (yw v11))] [.int (yw s1), .int (yw s0)] M (f_Law_areLaid_392 O f K303 v0 v1 v4 v5 v6 v7 v10 v11 s0 s1 M) := by
  unfold f_Law_areLaid_392
  refine xZ.adv (me := xm186) hP_186 4 (pc' := 398) (lv' := [(12, .int (0 : Int32)), (9, .int ((yw s0) - (yw s1))), (0, .ref v0), (1, .ref v1), (4, .ref v4), (5, .int (yw v5)), (6, .int (yw v6)), (7, .ref v7), (10, .ref v10), (11, .int (yw v11))]) (st' := []) rfl ?_
  refine xZ.eqs (lv2 := [(12, .int (yw 0)), (9, .int (yw (s0 - s1))), (0, .ref v0), (1, .ref v1), (4, .ref v4), (5, .int (yw v5)), (6, .int (yw v6)), (7, .ref v7), (10, .ref v10), (11, .int (yw v11))]) (st2 := []) (by simp only [yl_lit, yL_lit, yw_add, yw_sub, yw_mul, yw_neg, yl_add, yl_sub, yl_mul, cj_and, cj_or, cj_xor, cj_shl, cj_shr, cj_ushr, cj_div, cj_i2c, cj_i2b, cj_dc, ck_and, ck_or, ck_xor, ck_shl, ck_shr, ck_ushr, ck_i2l, ck_l2i, ck_cmp]) rfl ?_
  exact xZ.sub (xsc (.tail _ (.tail _ (.head _))) (xsc (.tail _ (.tail _ (.tail _ (.head _)))) (xsc (.tail _ (.tail _ (.tail _ (.tail _ (.head _))))) (xsc (.tail _ (.tail _ (.tail _ (.tail _ (.tail _ (.head _)))))) (xsc (.tail _ (.tail _ (.tail _ (.tail _ (.tail _ (.tail _ (.head _))))))) (xsc (.tail _ (.tail _ (.tail _ (.tail _ (.tail _ (.tail _ (.tail _ (.head _)))))))) (xsc (.tail _ (.head _)) (xsc (.tail _ (.tail _ (.tail _ (.tail _ (.tail _ (.tail _ (.tail _ (.tail _ (.head _))))))))) (xsc (.tail _ (.tail _ (.tail _ (.tail _ (.tail _ (.tail _ (.tail _ (.tail _ (.tail _ (.head _)))))))))) (xsc (.head _) xsn)))))))))) (show ([12, 9, 0, 1, 4, 5, 6, 7, 10, 11] : List Nat).Nodup from by decide) (k_f_Law_areLaid_398 O f d K303 hK303 f v0 v1 v4 v5 v6 v7 (s0 - s1) v10 v11 0 M)
def f_Law_areLaid_391 (O : Nat → Option va_E) (f : Nat) (K303 : Nat → Nat → Nat → Int → Int → Nat → Int → Nat → Int → xM → Option (Int × xM)) (v0 : Nat) (v1 : Nat) (v4 : Nat) (v5 : Int) (v6 : Int) (v7 : Nat) (v10 : Nat) (v11 : Int) (s0 : Int) (M : xM) : Option (Int × xM) :=
  f_Law_areLaid_392 O f K303 v0 v1 v4 v5 v6 v7 v10 v11 s0 0 M
set_option maxRecDepth 20000 in
theorem k_f_Law_areLaid_391 (O : Nat → Option va_E) (f d : Nat) (K303 : Nat → Nat → Nat → Int → Int → Nat → Int → Nat → Int → xM → Option (Int × xM)) (hK303 : ∀ (v0 : Nat) (v1 : Nat) (v4 : Nat) (v5 : Int) (v6 : Int) (v7 : Nat) (v9 : Int) (v10 : Nat) (v11 : Int) M, xZ oJ O (d + 9) 186 303 [(0, .ref v0), (1, .ref v1), (4, .ref v4), (5, .int (yw v5)), (6, .int (yw v6)), (7, .ref v7), (9, .int (yw v9)), (10, .ref v10), (11, .int (yw v11))] [] M (K303 v0 v1 v4 v5 v6 v7 v9 v10 v11 M)) (v0 : Nat) (v1 : Nat) (v4 : Nat) (v5 : Int) (v6 : Int) (v7 : Nat) (v10 : Nat) (v11 : Int) (s0 : Int) (M : xM) : xZ oJ O (d + 9) 186 391 [(0, .ref v0), (1, .ref v1), (4, .ref v4), (5, .int (yw v5)), (6, .int (yw v6)), (7, .ref v7), (10, .ref v10), (11, .int (yw v11))] [.int (yw s0)] M (f_Law_areLaid_391 O f K303 v0 v1 v4 v5 v6 v7 v10 v11 s0 M) := by
  unfold f_Law_areLaid_391
  refine xZ.adv (me := xm186) hP_186 1 (pc' := 392) (lv' := [(0, .ref v0), (1, .ref v1), (4, .ref v4), (5, .int (yw v5)), (6, .int (yw v6)), (7, .ref v7), (10, .ref v10), (11, .int (yw v11))]) (st' := [.int (0 : Int32), .int (yw s0)]) rfl ?_
  refine xZ.eqs (lv2 := [(0, .ref v0), (1, .ref v1), (4, .ref v4), (5, .int (yw v5)), (6, .int (yw v6)), (7, .ref v7), (10, .ref v10), (11, .int (yw v11))]) (st2 := [.int (yw 0), .int (yw s0)]) rfl (by simp only [yl_lit, yL_lit, yw_add, yw_sub, yw_mul, yw_neg, yl_add, yl_sub, yl_mul, cj_and, cj_or, cj_xor, cj_shl, cj_shr, cj_ushr, cj_div, cj_i2c, cj_i2b, cj_dc, ck_and, ck_or, ck_xor, ck_shl, ck_shr, ck_ushr, ck_i2l, ck_l2i, ck_cmp]) ?_
  exact (k_f_Law_areLaid_392 O f d K303 hK303 v0 v1 v4 v5 v6 v7 v10 v11 s0 0 M)
def f_Law_areLaid_358 (O : Nat → Option va_E) (f : Nat) (K303 : Nat → Nat → Nat → Int → Int → Nat → Int → Nat → Int → xM → Option (Int × xM)) (v0 : Nat) (v1 : Nat) (v4 : Nat) (v5 : Int) (v6 : Int) (v7 : Nat) (v9 : Int) (v10 : Nat) (v11 : Int) (s0 : Nat) (s1 : Int) (s2 : Int) (M : xM) : Option (Int × xM) :=
  (wJ M s0 s1 s2).bind fun M1 =>
  (gR O M1 v7 13 0).bind fun x1 =>
  (aJ O M1 x1 v11).bind fun x2 =>
  (isO O M1 v0 12).bind fun _ =>
  xcl (f_Calendarhall_seriesAt O f v0 x2 5 M1) fun x3 M2 =>
  if yw x3 = yw 1 then (
    (aJ O M2 v10 v11).bind fun x4 =>
    if yw x4 = yw (-1) then (
      f_Law_areLaid_392 O f K303 v0 v1 v4 v5 v6 v7 v10 v11 v9 1 M2
    ) else
    f_Law_areLaid_391 O f K303 v0 v1 v4 v5 v6 v7 v10 v11 v9 M2
  ) else
  f_Law_areLaid_391 O f K303 v0 v1 v4 v5 v6 v7 v10 v11 v9 M2
set_option maxRecDepth 20000 in
theorem k_f_Law_areLaid_358 (O : Nat → Option va_E) (f d : Nat) (K303 : Nat → Nat → Nat → Int → Int → Nat → Int → Nat → Int → xM → Option (Int × xM)) (hK303 : ∀ (v0 : Nat) (v1 : Nat) (v4 : Nat) (v5 : Int) (v6 : Int) (v7 : Nat) (v9 : Int) (v10 : Nat) (v11 : Int) M, xZ oJ O (d + 9) 186 303 [(0, .ref v0), (1, .ref v1), (4, .ref v4), (5, .int (yw v5)), (6, .int (yw v6)), (7, .ref v7), (9, .int (yw v9)), (10, .ref v10), (11, .int (yw v11))] [] M (K303 v0 v1 v4 v5 v6 v7 v9 v10 v11 M)) (v0 : Nat) (v1 : Nat) (v4 : Nat) (v5 : Int) (v6 : Int) (v7 : Nat) (v9 : Int) (v10 : Nat) (v11 : Int) (s0 : Nat) (s1 : Int) (s2 : Int) (M : xM) : xZ oJ O (d + 9) 186 358 [(0, .ref v0), (1, .ref v1), (4, .ref v4), (5, .int (yw v5)), (6, .int (yw v6)), (7, .ref v7), (9, .int (yw v9)), (10, .ref v10), (11, .int (yw v11))] [.int (yw s2), .int (yw s1), .ref s0] M (f_Law_areLaid_358 O f K303 v0 v1 v4 v5 v6 v7 v9 v10 v11 s0 s1 s2 M) := by
  unfold f_Law_areLaid_358
  refine xZ.k_wJ (me := xm186) hP_186 rfl (fun M1 => ?_)
  refine xZ.adv (me := xm186) hP_186 3 (pc' := 364) (lv' := [(0, .ref v0), (1, .ref v1), (4, .ref v4), (5, .int (yw v5)), (6, .int (yw v6)), (7, .ref v7), (9, .int (yw v9)), (10, .ref v10), (11, .int (yw v11))]) (st' := [.ref v7, .ref v0, .int (yw v9)]) rfl ?_
  refine xZ.k_gR (me := xm186) hP_186 rfl (fun x1 => ?_)
  refine xZ.adv (me := xm186) hP_186 1 (pc' := 369) (lv' := [(0, .ref v0), (1, .ref v1), (4, .ref v4), (5, .int (yw v5)), (6, .int (yw v6)), (7, .ref v7), (9, .int (yw v9)), (10, .ref v10), (11, .int (yw v11))]) (st' := [.int (yw v11), .ref x1, .ref v0, .int (yw v9)]) rfl ?_
  refine xZ.k_aJ (me := xm186) hP_186 rfl (fun x2 => ?_)
  refine xZ.adv (me := xm186) hP_186 1 (pc' := 371) (lv' := [(0, .ref v0), (1, .ref v1), (4, .ref v4), (5, .int (yw v5)), (6, .int (yw v6)), (7, .ref v7), (9, .int (yw v9)), (10, .ref v10), (11, .int (yw v11))]) (st' := [.int (5 : Int32), .int (yw x2), .ref v0, .int (yw v9)]) rfl ?_
  refine xZ.eqs (lv2 := [(0, .ref v0), (1, .ref v1), (4, .ref v4), (5, .int (yw v5)), (6, .int (yw v6)), (7, .ref v7), (9, .int (yw v9)), (10, .ref v10), (11, .int (yw v11))]) (st2 := [.int (yw 5), .int (yw x2), .ref v0, .int (yw v9)]) rfl (by simp only [yl_lit, yL_lit, yw_add, yw_sub, yw_mul, yw_neg, yl_add, yl_sub, yl_mul, cj_and, cj_or, cj_xor, cj_shl, cj_shr, cj_ushr, cj_div, cj_i2c, cj_i2b, cj_dc, ck_and, ck_or, ck_xor, ck_shl, ck_shr, ck_ushr, ck_i2l, ck_l2i, ck_cmp]) ?_
  refine xZ.callv (κ := oJ) (av := [.int (yw x2), .int (yw 5)]) (rest := [.int (yw v9)]) (st' := fun x3 => [.int (yw x3), .int (yw v9)]) (k0 := v0) (me := xm186) hP_186 rfl (Or.inl rfl) ⟨rfl, by decide⟩ rfl rfl (Nat.le_of_ble_eq_true rfl) (by decide) hP_126 (Nat.le_of_ble_eq_true rfl) (fun _ => rfl) (k_f_Calendarhall_seriesAt O f (d + 6) v0 x2 5 M1) (fun x3 M2 => ?_)
  refine xZ.adv (me := xm186) hP_186 1 (pc' := 375) (lv' := [(0, .ref v0), (1, .ref v1), (4, .ref v4), (5, .int (yw v5)), (6, .int (yw v6)), (7, .ref v7), (9, .int (yw v9)), (10, .ref v10), (11, .int (yw v11))]) (st' := [.int (1 : Int32), .int (yw x3), .int (yw v9)]) rfl ?_
  refine xZ.eqs (lv2 := [(0, .ref v0), (1, .ref v1), (4, .ref v4), (5, .int (yw v5)), (6, .int (yw v6)), (7, .ref v7), (9, .int (yw v9)), (10, .ref v10), (11, .int (yw v11))]) (st2 := [.int (yw 1), .int (yw x3), .int (yw v9)]) rfl (by simp only [yl_lit, yL_lit, yw_add, yw_sub, yw_mul, yw_neg, yl_add, yl_sub, yl_mul, cj_and, cj_or, cj_xor, cj_shl, cj_shr, cj_ushr, cj_div, cj_i2c, cj_i2b, cj_dc, ck_and, ck_or, ck_xor, ck_shl, ck_shr, ck_ushr, ck_i2l, ck_l2i, ck_cmp]) ?_
  refine xZ.jc_ne (me := xm186) hP_186 rfl (fun h1 => ?_) (fun h1 => ?_)
  · skip
    refine xZ.adv (me := xm186) hP_186 2 (pc' := 382) (lv' := [(0, .ref v0), (1, .ref v1), (4, .ref v4), (5, .int (yw v5)), (6, .int (yw v6)), (7, .ref v7), (9, .int (yw v9)), (10, .ref v10), (11, .int (yw v11))]) (st' := [.int (yw v11), .ref v10, .int (yw v9)]) rfl ?_
    refine xZ.k_aJ (me := xm186) hP_186 rfl (fun x4 => ?_)
    refine xZ.adv (me := xm186) hP_186 1 (pc' := 384) (lv' := [(0, .ref v0), (1, .ref v1), (4, .ref v4), (5, .int (yw v5)), (6, .int (yw v6)), (7, .ref v7), (9, .int (yw v9)), (10, .ref v10), (11, .int (yw v11))]) (st' := [.int (-1 : Int32), .int (yw x4), .int (yw v9)]) rfl ?_
    refine xZ.eqs (lv2 := [(0, .ref v0), (1, .ref v1), (4, .ref v4), (5, .int (yw v5)), (6, .int (yw v6)), (7, .ref v7), (9, .int (yw v9)), (10, .ref v10), (11, .int (yw v11))]) (st2 := [.int (yw (-1)), .int (yw x4), .int (yw v9)]) rfl (by simp only [yl_lit, yL_lit, yw_add, yw_sub, yw_mul, yw_neg, yl_add, yl_sub, yl_mul, cj_and, cj_or, cj_xor, cj_shl, cj_shr, cj_ushr, cj_div, cj_i2c, cj_i2b, cj_dc, ck_and, ck_or, ck_xor, ck_shl, ck_shr, ck_ushr, ck_i2l, ck_l2i, ck_cmp]) ?_
    refine xZ.jc_ne (me := xm186) hP_186 rfl (fun h2 => ?_) (fun h2 => ?_)
    · skip
      refine xZ.adv (me := xm186) hP_186 2 (pc' := 392) (lv' := [(0, .ref v0), (1, .ref v1), (4, .ref v4), (5, .int (yw v5)), (6, .int (yw v6)), (7, .ref v7), (9, .int (yw v9)), (10, .ref v10), (11, .int (yw v11))]) (st' := [.int (1 : Int32), .int (yw v9)]) rfl ?_
      refine xZ.eqs (lv2 := [(0, .ref v0), (1, .ref v1), (4, .ref v4), (5, .int (yw v5)), (6, .int (yw v6)), (7, .ref v7), (9, .int (yw v9)), (10, .ref v10), (11, .int (yw v11))]) (st2 := [.int (yw 1), .int (yw v9)]) rfl (by simp only [yl_lit, yL_lit, yw_add, yw_sub, yw_mul, yw_neg, yl_add, yl_sub, yl_mul, cj_and, cj_or, cj_xor, cj_shl, cj_shr, cj_ushr, cj_div, cj_i2c, cj_i2b, cj_dc, ck_and, ck_or, ck_xor, ck_shl, ck_shr, ck_ushr, ck_i2l, ck_l2i, ck_cmp]) ?_
      exact xZ.sub (xsc (.head _) (xsc (.tail _ (.head _)) (xsc (.tail _ (.tail _ (.head _))) (xsc (.tail _ (.tail _ (.tail _ (.head _)))) (xsc (.tail _ (.tail _ (.tail _ (.tail _ (.head _))))) (xsc (.tail _ (.tail _ (.tail _ (.tail _ (.tail _ (.head _)))))) (xsc (.tail _ (.tail _ (.tail _ (.tail _ (.tail _ (.tail _ (.tail _ (.head _)))))))) (xsc (.tail _ (.tail _ (.tail _ (.tail _ (.tail _ (.tail _ (.tail _ (.tail _ (.head _))))))))) xsn)))))))) (show ([0, 1, 4, 5, 6, 7, 9, 10, 11] : List Nat).Nodup from by decide) (k_f_Law_areLaid_392 O f d K303 hK303 v0 v1 v4 v5 v6 v7 v10 v11 v9 1 M2)
    · skip
      exact xZ.sub (xsc (.head _) (xsc (.tail _ (.head _)) (xsc (.tail _ (.tail _ (.head _))) (xsc (.tail _ (.tail _ (.tail _ (.head _)))) (xsc (.tail _ (.tail _ (.tail _ (.tail _ (.head _))))) (xsc (.tail _ (.tail _ (.tail _ (.tail _ (.tail _ (.head _)))))) (xsc (.tail _ (.tail _ (.tail _ (.tail _ (.tail _ (.tail _ (.tail _ (.head _)))))))) (xsc (.tail _ (.tail _ (.tail _ (.tail _ (.tail _ (.tail _ (.tail _ (.tail _ (.head _))))))))) xsn)))))))) (show ([0, 1, 4, 5, 6, 7, 9, 10, 11] : List Nat).Nodup from by decide) (k_f_Law_areLaid_391 O f d K303 hK303 v0 v1 v4 v5 v6 v7 v10 v11 v9 M2)
  · skip
    exact xZ.sub (xsc (.head _) (xsc (.tail _ (.head _)) (xsc (.tail _ (.tail _ (.head _))) (xsc (.tail _ (.tail _ (.tail _ (.head _)))) (xsc (.tail _ (.tail _ (.tail _ (.tail _ (.head _))))) (xsc (.tail _ (.tail _ (.tail _ (.tail _ (.tail _ (.head _)))))) (xsc (.tail _ (.tail _ (.tail _ (.tail _ (.tail _ (.tail _ (.tail _ (.head _)))))))) (xsc (.tail _ (.tail _ (.tail _ (.tail _ (.tail _ (.tail _ (.tail _ (.tail _ (.head _))))))))) xsn)))))))) (show ([0, 1, 4, 5, 6, 7, 9, 10, 11] : List Nat).Nodup from by decide) (k_f_Law_areLaid_391 O f d K303 hK303 v0 v1 v4 v5 v6 v7 v10 v11 v9 M2)
def f_Law_areLaid_303 (O : Nat → Option va_E) (f : Nat) : Nat → Nat → Nat → Nat → Int → Int → Nat → Int → Nat → Int → xM → Option (Int × xM)
  | 0, _, _, _, _, _, _, _, _, _, _ => none
  | n + 1, v0, v1, v4, v5, v6, v7, v9, v10, v11, M =>
    (gJ O M v7 13 4).bind fun x1 =>
    if yw x1 ≤ yw v11 then (
      if yw v9 = yw 0 then (
        (isO O M v1 15).bind fun _ =>
        xcl (f_LDraw_n O f v1 3 M) fun x2 M1 =>
        f_Law_areLaid_497 O f f v0 v4 v5 v6 v7 v10 x2 0 0 M1
      ) else
      some (0, M)
    ) else
    (gR O M v7 13 0).bind fun x3 =>
    (aJ O M x3 v11).bind fun x4 =>
    (isO O M v0 12).bind fun _ =>
    xcl (f_Calendarhall_seriesAt O f v0 x4 5 M) fun x5 M2 =>
    if yw x5 = yw 1 then (
      (gR O M2 v7 13 0).bind fun x6 =>
      (aJ O M2 x6 v11).bind fun x7 =>
      (gR O M2 v7 13 1).bind fun x8 =>
      (aJ O M2 x8 v11).bind fun x9 =>
      (isO O M2 v0 12).bind fun _ =>
      xcl (f_Calendarhall_roomOf O f v0 x7 x9 M2) fun x10 M3 =>
      f_Law_areLaid_358 O f (f_Law_areLaid_303 O f n) v0 v1 v4 v5 v6 v7 v9 v10 v11 v10 v11 x10 M3
    ) else
    f_Law_areLaid_358 O f (f_Law_areLaid_303 O f n) v0 v1 v4 v5 v6 v7 v9 v10 v11 v10 v11 (-1) M2
set_option maxRecDepth 20000 in
theorem k_f_Law_areLaid_303 (O : Nat → Option va_E) (f d : Nat) : ∀ (n : Nat) (v0 : Nat) (v1 : Nat) (v4 : Nat) (v5 : Int) (v6 : Int) (v7 : Nat) (v9 : Int) (v10 : Nat) (v11 : Int) (M : xM), xZ oJ O (d + 9) 186 303 [(0, .ref v0), (1, .ref v1), (4, .ref v4), (5, .int (yw v5)), (6, .int (yw v6)), (7, .ref v7), (9, .int (yw v9)), (10, .ref v10), (11, .int (yw v11))] [] M (f_Law_areLaid_303 O f n v0 v1 v4 v5 v6 v7 v9 v10 v11 M) := by
  intro n
  induction n with
  | zero =>
    intro v0 v1 v4 v5 v6 v7 v9 v10 v11 M
    exact xZ.no
  | succ n ih =>
    intro v0 v1 v4 v5 v6 v7 v9 v10 v11 M
    unfold f_Law_areLaid_303
    refine xZ.adv (me := xm186) hP_186 2 (pc' := 307) (lv' := [(0, .ref v0), (1, .ref v1), (4, .ref v4), (5, .int (yw v5)), (6, .int (yw v6)), (7, .ref v7), (9, .int (yw v9)), (10, .ref v10), (11, .int (yw v11))]) (st' := [.ref v7, .int (yw v11)]) rfl ?_
    refine xZ.k_gJ (me := xm186) hP_186 rfl (fun x1 => ?_)
    refine xZ.jc_ge (me := xm186) hP_186 rfl (fun h1 => ?_) (fun h1 => ?_)
    · skip
      refine xZ.adv (me := xm186) hP_186 1 (pc' := 479) (lv' := [(0, .ref v0), (1, .ref v1), (4, .ref v4), (5, .int (yw v5)), (6, .int (yw v6)), (7, .ref v7), (9, .int (yw v9)), (10, .ref v10), (11, .int (yw v11))]) (st' := [.int (yw v9)]) rfl ?_
      refine xZ.jf_eq (me := xm186) hP_186 rfl (fun h2 => ?_) (fun h2 => ?_)
      · skip
        refine xZ.adv (me := xm186) hP_186 2 (pc' := 486) (lv' := [(0, .ref v0), (1, .ref v1), (4, .ref v4), (5, .int (yw v5)), (6, .int (yw v6)), (7, .ref v7), (9, .int (yw v9)), (10, .ref v10), (11, .int (yw v11))]) (st' := [.int (3 : Int32), .ref v1]) rfl ?_
        refine xZ.eqs (lv2 := [(0, .ref v0), (1, .ref v1), (4, .ref v4), (5, .int (yw v5)), (6, .int (yw v6)), (7, .ref v7), (9, .int (yw v9)), (10, .ref v10), (11, .int (yw v11))]) (st2 := [.int (yw 3), .ref v1]) rfl (by simp only [yl_lit, yL_lit, yw_add, yw_sub, yw_mul, yw_neg, yl_add, yl_sub, yl_mul, cj_and, cj_or, cj_xor, cj_shl, cj_shr, cj_ushr, cj_div, cj_i2c, cj_i2b, cj_dc, ck_and, ck_or, ck_xor, ck_shl, ck_shr, ck_ushr, ck_i2l, ck_l2i, ck_cmp]) ?_
        refine xZ.callv (κ := oJ) (av := [.int (yw 3)]) (rest := []) (st' := fun x2 => [.int (yw x2)]) (k0 := v1) (me := xm186) hP_186 rfl (Or.inl rfl) ⟨rfl, by decide⟩ rfl rfl (Nat.le_of_ble_eq_true rfl) (by decide) hP_12 (Nat.le_of_ble_eq_true rfl) (fun _ => rfl) (k_f_LDraw_n O f (d + 8) v1 3 M) (fun x2 M1 => ?_)
        refine xZ.adv (me := xm186) hP_186 5 (pc' := 497) (lv' := [(13, .int (0 : Int32)), (12, .int (0 : Int32)), (11, .int (yw x2)), (0, .ref v0), (1, .ref v1), (4, .ref v4), (5, .int (yw v5)), (6, .int (yw v6)), (7, .ref v7), (9, .int (yw v9)), (10, .ref v10)]) (st' := []) rfl ?_
        refine xZ.eqs (lv2 := [(13, .int (yw 0)), (12, .int (yw 0)), (11, .int (yw x2)), (0, .ref v0), (1, .ref v1), (4, .ref v4), (5, .int (yw v5)), (6, .int (yw v6)), (7, .ref v7), (9, .int (yw v9)), (10, .ref v10)]) (st2 := []) (by simp only [yl_lit, yL_lit, yw_add, yw_sub, yw_mul, yw_neg, yl_add, yl_sub, yl_mul, cj_and, cj_or, cj_xor, cj_shl, cj_shr, cj_ushr, cj_div, cj_i2c, cj_i2b, cj_dc, ck_and, ck_or, ck_xor, ck_shl, ck_shr, ck_ushr, ck_i2l, ck_l2i, ck_cmp]) rfl ?_
        exact xZ.sub (xsc (.tail _ (.tail _ (.tail _ (.head _)))) (xsc (.tail _ (.tail _ (.tail _ (.tail _ (.tail _ (.head _)))))) (xsc (.tail _ (.tail _ (.tail _ (.tail _ (.tail _ (.tail _ (.head _))))))) (xsc (.tail _ (.tail _ (.tail _ (.tail _ (.tail _ (.tail _ (.tail _ (.head _)))))))) (xsc (.tail _ (.tail _ (.tail _ (.tail _ (.tail _ (.tail _ (.tail _ (.tail _ (.head _))))))))) (xsc (.tail _ (.tail _ (.tail _ (.tail _ (.tail _ (.tail _ (.tail _ (.tail _ (.tail _ (.tail _ (.head _))))))))))) (xsc (.tail _ (.tail _ (.head _))) (xsc (.tail _ (.head _)) (xsc (.head _) xsn))))))))) (show ([13, 12, 11, 0, 1, 4, 5, 6, 7, 9, 10] : List Nat).Nodup from by decide) (k_f_Law_areLaid_497 O f d f v0 v4 v5 v6 v7 v10 x2 0 0 M1)
      · skip
        refine xZ.adv (me := xm186) hP_186 1 (pc' := 483) (lv' := [(0, .ref v0), (1, .ref v1), (4, .ref v4), (5, .int (yw v5)), (6, .int (yw v6)), (7, .ref v7), (9, .int (yw v9)), (10, .ref v10), (11, .int (yw v11))]) (st' := [.int (0 : Int32)]) rfl ?_
        refine xZ.eqs (lv2 := [(0, .ref v0), (1, .ref v1), (4, .ref v4), (5, .int (yw v5)), (6, .int (yw v6)), (7, .ref v7), (9, .int (yw v9)), (10, .ref v10), (11, .int (yw v11))]) (st2 := [.int (yw 0)]) rfl (by simp only [yl_lit, yL_lit, yw_add, yw_sub, yw_mul, yw_neg, yl_add, yl_sub, yl_mul, cj_and, cj_or, cj_xor, cj_shl, cj_shr, cj_ushr, cj_div, cj_i2c, cj_i2b, cj_dc, ck_and, ck_or, ck_xor, ck_shl, ck_shr, ck_ushr, ck_i2l, ck_l2i, ck_cmp]) ?_
        exact xZ.jrete (me := xm186) hP_186 rfl rfl rfl
    · skip
      refine xZ.adv (me := xm186) hP_186 4 (pc' := 320) (lv' := [(0, .ref v0), (1, .ref v1), (4, .ref v4), (5, .int (yw v5)), (6, .int (yw v6)), (7, .ref v7), (9, .int (yw v9)), (10, .ref v10), (11, .int (yw v11))]) (st' := [.ref v7, .ref v0, .int (yw v11), .ref v10]) rfl ?_
      refine xZ.k_gR (me := xm186) hP_186 rfl (fun x3 => ?_)
      refine xZ.adv (me := xm186) hP_186 1 (pc' := 325) (lv' := [(0, .ref v0), (1, .ref v1), (4, .ref v4), (5, .int (yw v5)), (6, .int (yw v6)), (7, .ref v7), (9, .int (yw v9)), (10, .ref v10), (11, .int (yw v11))]) (st' := [.int (yw v11), .ref x3, .ref v0, .int (yw v11), .ref v10]) rfl ?_
      refine xZ.k_aJ (me := xm186) hP_186 rfl (fun x4 => ?_)
      refine xZ.adv (me := xm186) hP_186 1 (pc' := 327) (lv' := [(0, .ref v0), (1, .ref v1), (4, .ref v4), (5, .int (yw v5)), (6, .int (yw v6)), (7, .ref v7), (9, .int (yw v9)), (10, .ref v10), (11, .int (yw v11))]) (st' := [.int (5 : Int32), .int (yw x4), .ref v0, .int (yw v11), .ref v10]) rfl ?_
      refine xZ.eqs (lv2 := [(0, .ref v0), (1, .ref v1), (4, .ref v4), (5, .int (yw v5)), (6, .int (yw v6)), (7, .ref v7), (9, .int (yw v9)), (10, .ref v10), (11, .int (yw v11))]) (st2 := [.int (yw 5), .int (yw x4), .ref v0, .int (yw v11), .ref v10]) rfl (by simp only [yl_lit, yL_lit, yw_add, yw_sub, yw_mul, yw_neg, yl_add, yl_sub, yl_mul, cj_and, cj_or, cj_xor, cj_shl, cj_shr, cj_ushr, cj_div, cj_i2c, cj_i2b, cj_dc, ck_and, ck_or, ck_xor, ck_shl, ck_shr, ck_ushr, ck_i2l, ck_l2i, ck_cmp]) ?_
      refine xZ.callv (κ := oJ) (av := [.int (yw x4), .int (yw 5)]) (rest := [.int (yw v11), .ref v10]) (st' := fun x5 => [.int (yw x5), .int (yw v11), .ref v10]) (k0 := v0) (me := xm186) hP_186 rfl (Or.inl rfl) ⟨rfl, by decide⟩ rfl rfl (Nat.le_of_ble_eq_true rfl) (by decide) hP_126 (Nat.le_of_ble_eq_true rfl) (fun _ => rfl) (k_f_Calendarhall_seriesAt O f (d + 6) v0 x4 5 M) (fun x5 M2 => ?_)
      refine xZ.adv (me := xm186) hP_186 1 (pc' := 331) (lv' := [(0, .ref v0), (1, .ref v1), (4, .ref v4), (5, .int (yw v5)), (6, .int (yw v6)), (7, .ref v7), (9, .int (yw v9)), (10, .ref v10), (11, .int (yw v11))]) (st' := [.int (1 : Int32), .int (yw x5), .int (yw v11), .ref v10]) rfl ?_
      refine xZ.eqs (lv2 := [(0, .ref v0), (1, .ref v1), (4, .ref v4), (5, .int (yw v5)), (6, .int (yw v6)), (7, .ref v7), (9, .int (yw v9)), (10, .ref v10), (11, .int (yw v11))]) (st2 := [.int (yw 1), .int (yw x5), .int (yw v11), .ref v10]) rfl (by simp only [yl_lit, yL_lit, yw_add, yw_sub, yw_mul, yw_neg, yl_add, yl_sub, yl_mul, cj_and, cj_or, cj_xor, cj_shl, cj_shr, cj_ushr, cj_div, cj_i2c, cj_i2b, cj_dc, ck_and, ck_or, ck_xor, ck_shl, ck_shr, ck_ushr, ck_i2l, ck_l2i, ck_cmp]) ?_
      refine xZ.jc_ne (me := xm186) hP_186 rfl (fun h3 => ?_) (fun h3 => ?_)
      · skip
        refine xZ.adv (me := xm186) hP_186 2 (pc' := 337) (lv' := [(0, .ref v0), (1, .ref v1), (4, .ref v4), (5, .int (yw v5)), (6, .int (yw v6)), (7, .ref v7), (9, .int (yw v9)), (10, .ref v10), (11, .int (yw v11))]) (st' := [.ref v7, .ref v0, .int (yw v11), .ref v10]) rfl ?_
        refine xZ.k_gR (me := xm186) hP_186 rfl (fun x6 => ?_)
        refine xZ.adv (me := xm186) hP_186 1 (pc' := 342) (lv' := [(0, .ref v0), (1, .ref v1), (4, .ref v4), (5, .int (yw v5)), (6, .int (yw v6)), (7, .ref v7), (9, .int (yw v9)), (10, .ref v10), (11, .int (yw v11))]) (st' := [.int (yw v11), .ref x6, .ref v0, .int (yw v11), .ref v10]) rfl ?_
        refine xZ.k_aJ (me := xm186) hP_186 rfl (fun x7 => ?_)
        refine xZ.adv (me := xm186) hP_186 1 (pc' := 345) (lv' := [(0, .ref v0), (1, .ref v1), (4, .ref v4), (5, .int (yw v5)), (6, .int (yw v6)), (7, .ref v7), (9, .int (yw v9)), (10, .ref v10), (11, .int (yw v11))]) (st' := [.ref v7, .int (yw x7), .ref v0, .int (yw v11), .ref v10]) rfl ?_
        refine xZ.k_gR (me := xm186) hP_186 rfl (fun x8 => ?_)
        refine xZ.adv (me := xm186) hP_186 1 (pc' := 350) (lv' := [(0, .ref v0), (1, .ref v1), (4, .ref v4), (5, .int (yw v5)), (6, .int (yw v6)), (7, .ref v7), (9, .int (yw v9)), (10, .ref v10), (11, .int (yw v11))]) (st' := [.int (yw v11), .ref x8, .int (yw x7), .ref v0, .int (yw v11), .ref v10]) rfl ?_
        refine xZ.k_aJ (me := xm186) hP_186 rfl (fun x9 => ?_)
        refine xZ.callv (κ := oJ) (av := [.int (yw x7), .int (yw x9)]) (rest := [.int (yw v11), .ref v10]) (st' := fun x10 => [.int (yw x10), .int (yw v11), .ref v10]) (k0 := v0) (me := xm186) hP_186 rfl (Or.inl rfl) ⟨rfl, by decide⟩ rfl rfl (Nat.le_of_ble_eq_true rfl) (by decide) hP_195 (Nat.le_of_ble_eq_true rfl) (fun _ => rfl) (k_f_Calendarhall_roomOf O f (d + 7) v0 x7 x9 M2) (fun x10 M3 => ?_)
        refine xZ.adv (me := xm186) hP_186 1 (pc' := 358) (lv' := [(0, .ref v0), (1, .ref v1), (4, .ref v4), (5, .int (yw v5)), (6, .int (yw v6)), (7, .ref v7), (9, .int (yw v9)), (10, .ref v10), (11, .int (yw v11))]) (st' := [.int (yw x10), .int (yw v11), .ref v10]) rfl ?_
        exact (k_f_Law_areLaid_358 O f d (f_Law_areLaid_303 O f n) ih v0 v1 v4 v5 v6 v7 v9 v10 v11 v10 v11 x10 M3)
      · skip
        refine xZ.adv (me := xm186) hP_186 1 (pc' := 358) (lv' := [(0, .ref v0), (1, .ref v1), (4, .ref v4), (5, .int (yw v5)), (6, .int (yw v6)), (7, .ref v7), (9, .int (yw v9)), (10, .ref v10), (11, .int (yw v11))]) (st' := [.int (-1 : Int32), .int (yw v11), .ref v10]) rfl ?_
        refine xZ.eqs (lv2 := [(0, .ref v0), (1, .ref v1), (4, .ref v4), (5, .int (yw v5)), (6, .int (yw v6)), (7, .ref v7), (9, .int (yw v9)), (10, .ref v10), (11, .int (yw v11))]) (st2 := [.int (yw (-1)), .int (yw v11), .ref v10]) rfl (by simp only [yl_lit, yL_lit, yw_add, yw_sub, yw_mul, yw_neg, yl_add, yl_sub, yl_mul, cj_and, cj_or, cj_xor, cj_shl, cj_shr, cj_ushr, cj_div, cj_i2c, cj_i2b, cj_dc, ck_and, ck_or, ck_xor, ck_shl, ck_shr, ck_ushr, ck_i2l, ck_l2i, ck_cmp]) ?_
        exact (k_f_Law_areLaid_358 O f d (f_Law_areLaid_303 O f n) ih v0 v1 v4 v5 v6 v7 v9 v10 v11 v10 v11 (-1) M2)
def f_Law_areLaid_286 (O : Nat → Option va_E) (f : Nat) (v0 : Nat) (v1 : Nat) (v4 : Nat) (v5 : Int) (v6 : Int) (v7 : Nat) (v9 : Int) (s0 : Int) (s1 : Int) (M : xM) : Option (Int × xM) :=
  if yw s0 = yw s1 then (
    (gJ O M v7 13 4).bind fun x1 =>
    xcl (nAJ M 0 x1) fun x2 M1 =>
    f_Law_areLaid_303 O f f v0 v1 v4 v5 v6 v7 v9 x2 0 M1
  ) else
  some (0, M)
set_option maxRecDepth 20000 in
theorem k_f_Law_areLaid_286 (O : Nat → Option va_E) (f d : Nat) (v0 : Nat) (v1 : Nat) (v4 : Nat) (v5 : Int) (v6 : Int) (v7 : Nat) (v9 : Int) (s0 : Int) (s1 : Int) (M : xM) : xZ oJ O (d + 9) 186 286 [(0, .ref v0), (1, .ref v1), (4, .ref v4), (5, .int (yw v5)), (6, .int (yw v6)), (7, .ref v7), (9, .int (yw v9))] [.int (yw s1), .int (yw s0)] M (f_Law_areLaid_286 O f v0 v1 v4 v5 v6 v7 v9 s0 s1 M) := by
  unfold f_Law_areLaid_286
  refine xZ.jc_eq (me := xm186) hP_186 rfl (fun h1 => ?_) (fun h1 => ?_)
  · skip
    refine xZ.adv (me := xm186) hP_186 1 (pc' := 293) (lv' := [(0, .ref v0), (1, .ref v1), (4, .ref v4), (5, .int (yw v5)), (6, .int (yw v6)), (7, .ref v7), (9, .int (yw v9))]) (st' := [.ref v7]) rfl ?_
    refine xZ.k_gJ (me := xm186) hP_186 rfl (fun x1 => ?_)
    refine xZ.k_nAJ (me := xm186) hP_186 rfl rfl (by decide) (fun x2 M1 => ?_)
    refine xZ.adv (me := xm186) hP_186 3 (pc' := 303) (lv' := [(11, .int (0 : Int32)), (10, .ref x2), (0, .ref v0), (1, .ref v1), (4, .ref v4), (5, .int (yw v5)), (6, .int (yw v6)), (7, .ref v7), (9, .int (yw v9))]) (st' := []) rfl ?_
    refine xZ.eqs (lv2 := [(11, .int (yw 0)), (10, .ref x2), (0, .ref v0), (1, .ref v1), (4, .ref v4), (5, .int (yw v5)), (6, .int (yw v6)), (7, .ref v7), (9, .int (yw v9))]) (st2 := []) (by simp only [yl_lit, yL_lit, yw_add, yw_sub, yw_mul, yw_neg, yl_add, yl_sub, yl_mul, cj_and, cj_or, cj_xor, cj_shl, cj_shr, cj_ushr, cj_div, cj_i2c, cj_i2b, cj_dc, ck_and, ck_or, ck_xor, ck_shl, ck_shr, ck_ushr, ck_i2l, ck_l2i, ck_cmp]) rfl ?_
    exact xZ.sub (xsc (.tail _ (.tail _ (.head _))) (xsc (.tail _ (.tail _ (.tail _ (.head _)))) (xsc (.tail _ (.tail _ (.tail _ (.tail _ (.head _))))) (xsc (.tail _ (.tail _ (.tail _ (.tail _ (.tail _ (.head _)))))) (xsc (.tail _ (.tail _ (.tail _ (.tail _ (.tail _ (.tail _ (.head _))))))) (xsc (.tail _ (.tail _ (.tail _ (.tail _ (.tail _ (.tail _ (.tail _ (.head _)))))))) (xsc (.tail _ (.tail _ (.tail _ (.tail _ (.tail _ (.tail _ (.tail _ (.tail _ (.head _))))))))) (xsc (.tail _ (.head _)) (xsc (.head _) xsn))))))))) (show ([11, 10, 0, 1, 4, 5, 6, 7, 9] : List Nat).Nodup from by decide) (k_f_Law_areLaid_303 O f d f v0 v1 v4 v5 v6 v7 v9 x2 0 M1)
  · skip
    refine xZ.adv (me := xm186) hP_186 1 (pc' := 290) (lv' := [(0, .ref v0), (1, .ref v1), (4, .ref v4), (5, .int (yw v5)), (6, .int (yw v6)), (7, .ref v7), (9, .int (yw v9))]) (st' := [.int (0 : Int32)]) rfl ?_
    refine xZ.eqs (lv2 := [(0, .ref v0), (1, .ref v1), (4, .ref v4), (5, .int (yw v5)), (6, .int (yw v6)), (7, .ref v7), (9, .int (yw v9))]) (st2 := [.int (yw 0)]) rfl (by simp only [yl_lit, yL_lit, yw_add, yw_sub, yw_mul, yw_neg, yl_add, yl_sub, yl_mul, cj_and, cj_or, cj_xor, cj_shl, cj_shr, cj_ushr, cj_div, cj_i2c, cj_i2b, cj_dc, ck_and, ck_or, ck_xor, ck_shl, ck_shr, ck_ushr, ck_i2l, ck_l2i, ck_cmp]) ?_
    exact xZ.jrete (me := xm186) hP_186 rfl rfl rfl
def f_Law_areLaid_275 (O : Nat → Option va_E) (f : Nat) (v0 : Nat) (v1 : Nat) (v4 : Nat) (v5 : Int) (v6 : Int) (v7 : Nat) (v8 : Int) (v9 : Int) (s0 : Int) (M : xM) : Option (Int × xM) :=
  if yw 4 < yw v8 then (
    f_Law_areLaid_286 O f v0 v1 v4 v5 v6 v7 v9 s0 0 M
  ) else
  f_Law_areLaid_286 O f v0 v1 v4 v5 v6 v7 v9 s0 1 M
set_option maxRecDepth 20000 in
theorem k_f_Law_areLaid_275 (O : Nat → Option va_E) (f d : Nat) (v0 : Nat) (v1 : Nat) (v4 : Nat) (v5 : Int) (v6 : Int) (v7 : Nat) (v8 : Int) (v9 : Int) (s0 : Int) (M : xM) : xZ oJ O (d + 9) 186 275 [(0, .ref v0), (1, .ref v1), (4, .ref v4), (5, .int (yw v5)), (6, .int (yw v6)), (7, .ref v7), (8, .int (yw v8)), (9, .int (yw v9))] [.int (yw s0)] M (f_Law_areLaid_275 O f v0 v1 v4 v5 v6 v7 v8 v9 s0 M) := by
  unfold f_Law_areLaid_275
  refine xZ.adv (me := xm186) hP_186 2 (pc' := 278) (lv' := [(0, .ref v0), (1, .ref v1), (4, .ref v4), (5, .int (yw v5)), (6, .int (yw v6)), (7, .ref v7), (8, .int (yw v8)), (9, .int (yw v9))]) (st' := [.int (4 : Int32), .int (yw v8), .int (yw s0)]) rfl ?_
  refine xZ.eqs (lv2 := [(0, .ref v0), (1, .ref v1), (4, .ref v4), (5, .int (yw v5)), (6, .int (yw v6)), (7, .ref v7), (8, .int (yw v8)), (9, .int (yw v9))]) (st2 := [.int (yw 4), .int (yw v8), .int (yw s0)]) rfl (by simp only [yl_lit, yL_lit, yw_add, yw_sub, yw_mul, yw_neg, yl_add, yl_sub, yl_mul, cj_and, cj_or, cj_xor, cj_shl, cj_shr, cj_ushr, cj_div, cj_i2c, cj_i2b, cj_dc, ck_and, ck_or, ck_xor, ck_shl, ck_shr, ck_ushr, ck_i2l, ck_l2i, ck_cmp]) ?_
  refine xZ.jc_gt (me := xm186) hP_186 rfl (fun h1 => ?_) (fun h1 => ?_)
  · skip
    refine xZ.adv (me := xm186) hP_186 1 (pc' := 286) (lv' := [(0, .ref v0), (1, .ref v1), (4, .ref v4), (5, .int (yw v5)), (6, .int (yw v6)), (7, .ref v7), (8, .int (yw v8)), (9, .int (yw v9))]) (st' := [.int (0 : Int32), .int (yw s0)]) rfl ?_
    refine xZ.eqs (lv2 := [(0, .ref v0), (1, .ref v1), (4, .ref v4), (5, .int (yw v5)), (6, .int (yw v6)), (7, .ref v7), (8, .int (yw v8)), (9, .int (yw v9))]) (st2 := [.int (yw 0), .int (yw s0)]) rfl (by simp only [yl_lit, yL_lit, yw_add, yw_sub, yw_mul, yw_neg, yl_add, yl_sub, yl_mul, cj_and, cj_or, cj_xor, cj_shl, cj_shr, cj_ushr, cj_div, cj_i2c, cj_i2b, cj_dc, ck_and, ck_or, ck_xor, ck_shl, ck_shr, ck_ushr, ck_i2l, ck_l2i, ck_cmp]) ?_
    exact xZ.sub (xsc (.head _) (xsc (.tail _ (.head _)) (xsc (.tail _ (.tail _ (.head _))) (xsc (.tail _ (.tail _ (.tail _ (.head _)))) (xsc (.tail _ (.tail _ (.tail _ (.tail _ (.head _))))) (xsc (.tail _ (.tail _ (.tail _ (.tail _ (.tail _ (.head _)))))) (xsc (.tail _ (.tail _ (.tail _ (.tail _ (.tail _ (.tail _ (.tail _ (.head _)))))))) xsn))))))) (show ([0, 1, 4, 5, 6, 7, 8, 9] : List Nat).Nodup from by decide) (k_f_Law_areLaid_286 O f d v0 v1 v4 v5 v6 v7 v9 s0 0 M)
  · skip
    refine xZ.adv (me := xm186) hP_186 2 (pc' := 286) (lv' := [(0, .ref v0), (1, .ref v1), (4, .ref v4), (5, .int (yw v5)), (6, .int (yw v6)), (7, .ref v7), (8, .int (yw v8)), (9, .int (yw v9))]) (st' := [.int (1 : Int32), .int (yw s0)]) rfl ?_
    refine xZ.eqs (lv2 := [(0, .ref v0), (1, .ref v1), (4, .ref v4), (5, .int (yw v5)), (6, .int (yw v6)), (7, .ref v7), (8, .int (yw v8)), (9, .int (yw v9))]) (st2 := [.int (yw 1), .int (yw s0)]) rfl (by simp only [yl_lit, yL_lit, yw_add, yw_sub, yw_mul, yw_neg, yl_add, yl_sub, yl_mul, cj_and, cj_or, cj_xor, cj_shl, cj_shr, cj_ushr, cj_div, cj_i2c, cj_i2b, cj_dc, ck_and, ck_or, ck_xor, ck_shl, ck_shr, ck_ushr, ck_i2l, ck_l2i, ck_cmp]) ?_
    exact xZ.sub (xsc (.head _) (xsc (.tail _ (.head _)) (xsc (.tail _ (.tail _ (.head _))) (xsc (.tail _ (.tail _ (.tail _ (.head _)))) (xsc (.tail _ (.tail _ (.tail _ (.tail _ (.head _))))) (xsc (.tail _ (.tail _ (.tail _ (.tail _ (.tail _ (.head _)))))) (xsc (.tail _ (.tail _ (.tail _ (.tail _ (.tail _ (.tail _ (.tail _ (.head _)))))))) xsn))))))) (show ([0, 1, 4, 5, 6, 7, 8, 9] : List Nat).Nodup from by decide) (k_f_Law_areLaid_286 O f d v0 v1 v4 v5 v6 v7 v9 s0 1 M)
def f_Law_areLaid_218 (O : Nat → Option va_E) (f : Nat) (K147 : Nat → Nat → Nat → Int → Int → Nat → Int → Int → Int → Int → xM → Option (Int × xM)) (v0 : Nat) (v1 : Nat) (v4 : Nat) (v5 : Int) (v6 : Int) (v7 : Nat) (v8 : Int) (v9 : Int) (v11 : Int) (s0 : Int) (s1 : Int) (M : xM) : Option (Int × xM) :=
  K147 v0 v1 v4 v5 v6 v7 v8 v9 (s0 + s1) (v11 + 1) M
set_option maxRecDepth 20000 in
theorem k_f_Law_areLaid_218 (O : Nat → Option va_E) (f d : Nat) (K147 : Nat → Nat → Nat → Int → Int → Nat → Int → Int → Int → Int → xM → Option (Int × xM)) (hK147 : ∀ (v0 : Nat) (v1 : Nat) (v4 : Nat) (v5 : Int) (v6 : Int) (v7 : Nat) (v8 : Int) (v9 : Int) (v10 : Int) (v11 : Int) M, xZ oJ O (d + 9) 186 147 [(0, .ref v0), (1, .ref v1), (4, .ref v4), (5, .int (yw v5)), (6, .int (yw v6)), (7, .ref v7), (8, .int (yw v8)), (9, .int (yw v9)), (10, .int (yw v10)), (11, .int (yw v11))] [] M (K147 v0 v1 v4 v5 v6 v7 v8 v9 v10 v11 M)) (v0 : Nat) (v1 : Nat) (v4 : Nat) (v5 : Int) (v6 : Int) (v7 : Nat) (v8 : Int) (v9 : Int) (v11 : Int) (s0 : Int) (s1 : Int) (M : xM) : xZ oJ O (d + 9) 186 218 [(0, .ref v0), (1, .ref v1), (4, .ref v4), (5, .int (yw v5)), (6, .int (yw v6)), (7, .ref v7), (8, .int (yw v8)), (9, .int (yw v9)), (11, .int (yw v11))] [.int (yw s1), .int (yw s0)] M (f_Law_areLaid_218 O f K147 v0 v1 v4 v5 v6 v7 v8 v9 v11 s0 s1 M) := by
  unfold f_Law_areLaid_218
  refine xZ.adv (me := xm186) hP_186 4 (pc' := 147) (lv' := [(11, .int ((yw v11) + (1 : Int32))), (10, .int ((yw s0) + (yw s1))), (0, .ref v0), (1, .ref v1), (4, .ref v4), (5, .int (yw v5)), (6, .int (yw v6)), (7, .ref v7), (8, .int (yw v8)), (9, .int (yw v9))]) (st' := []) rfl ?_
  refine xZ.eqs (lv2 := [(11, .int (yw (v11 + 1))), (10, .int (yw (s0 + s1))), (0, .ref v0), (1, .ref v1), (4, .ref v4), (5, .int (yw v5)), (6, .int (yw v6)), (7, .ref v7), (8, .int (yw v8)), (9, .int (yw v9))]) (st2 := []) (by simp only [yl_lit, yL_lit, yw_add, yw_sub, yw_mul, yw_neg, yl_add, yl_sub, yl_mul, cj_and, cj_or, cj_xor, cj_shl, cj_shr, cj_ushr, cj_div, cj_i2c, cj_i2b, cj_dc, ck_and, ck_or, ck_xor, ck_shl, ck_shr, ck_ushr, ck_i2l, ck_l2i, ck_cmp]) rfl ?_
  exact xZ.sub (xsc (.tail _ (.tail _ (.head _))) (xsc (.tail _ (.tail _ (.tail _ (.head _)))) (xsc (.tail _ (.tail _ (.tail _ (.tail _ (.head _))))) (xsc (.tail _ (.tail _ (.tail _ (.tail _ (.tail _ (.head _)))))) (xsc (.tail _ (.tail _ (.tail _ (.tail _ (.tail _ (.tail _ (.head _))))))) (xsc (.tail _ (.tail _ (.tail _ (.tail _ (.tail _ (.tail _ (.tail _ (.head _)))))))) (xsc (.tail _ (.tail _ (.tail _ (.tail _ (.tail _ (.tail _ (.tail _ (.tail _ (.head _))))))))) (xsc (.tail _ (.tail _ (.tail _ (.tail _ (.tail _ (.tail _ (.tail _ (.tail _ (.tail _ (.head _)))))))))) (xsc (.tail _ (.head _)) (xsc (.head _) xsn)))))))))) (show ([11, 10, 0, 1, 4, 5, 6, 7, 8, 9] : List Nat).Nodup from by decide) (hK147 v0 v1 v4 v5 v6 v7 v8 v9 (s0 + s1) (v11 + 1) M)
def f_Law_areLaid_217 (O : Nat → Option va_E) (f : Nat) (K147 : Nat → Nat → Nat → Int → Int → Nat → Int → Int → Int → Int → xM → Option (Int × xM)) (v0 : Nat) (v1 : Nat) (v4 : Nat) (v5 : Int) (v6 : Int) (v7 : Nat) (v8 : Int) (v9 : Int) (v11 : Int) (s0 : Int) (M : xM) : Option (Int × xM) :=
  f_Law_areLaid_218 O f K147 v0 v1 v4 v5 v6 v7 v8 v9 v11 s0 0 M
set_option maxRecDepth 20000 in
theorem k_f_Law_areLaid_217 (O : Nat → Option va_E) (f d : Nat) (K147 : Nat → Nat → Nat → Int → Int → Nat → Int → Int → Int → Int → xM → Option (Int × xM)) (hK147 : ∀ (v0 : Nat) (v1 : Nat) (v4 : Nat) (v5 : Int) (v6 : Int) (v7 : Nat) (v8 : Int) (v9 : Int) (v10 : Int) (v11 : Int) M, xZ oJ O (d + 9) 186 147 [(0, .ref v0), (1, .ref v1), (4, .ref v4), (5, .int (yw v5)), (6, .int (yw v6)), (7, .ref v7), (8, .int (yw v8)), (9, .int (yw v9)), (10, .int (yw v10)), (11, .int (yw v11))] [] M (K147 v0 v1 v4 v5 v6 v7 v8 v9 v10 v11 M)) (v0 : Nat) (v1 : Nat) (v4 : Nat) (v5 : Int) (v6 : Int) (v7 : Nat) (v8 : Int) (v9 : Int) (v11 : Int) (s0 : Int) (M : xM) : xZ oJ O (d + 9) 186 217 [(0, .ref v0), (1, .ref v1), (4, .ref v4), (5, .int (yw v5)), (6, .int (yw v6)), (7, .ref v7), (8, .int (yw v8)), (9, .int (yw v9)), (11, .int (yw v11))] [.int (yw s0)] M (f_Law_areLaid_217 O f K147 v0 v1 v4 v5 v6 v7 v8 v9 v11 s0 M) := by
  unfold f_Law_areLaid_217
  refine xZ.adv (me := xm186) hP_186 1 (pc' := 218) (lv' := [(0, .ref v0), (1, .ref v1), (4, .ref v4), (5, .int (yw v5)), (6, .int (yw v6)), (7, .ref v7), (8, .int (yw v8)), (9, .int (yw v9)), (11, .int (yw v11))]) (st' := [.int (0 : Int32), .int (yw s0)]) rfl ?_
  refine xZ.eqs (lv2 := [(0, .ref v0), (1, .ref v1), (4, .ref v4), (5, .int (yw v5)), (6, .int (yw v6)), (7, .ref v7), (8, .int (yw v8)), (9, .int (yw v9)), (11, .int (yw v11))]) (st2 := [.int (yw 0), .int (yw s0)]) rfl (by simp only [yl_lit, yL_lit, yw_add, yw_sub, yw_mul, yw_neg, yl_add, yl_sub, yl_mul, cj_and, cj_or, cj_xor, cj_shl, cj_shr, cj_ushr, cj_div, cj_i2c, cj_i2b, cj_dc, ck_and, ck_or, ck_xor, ck_shl, ck_shr, ck_ushr, ck_i2l, ck_l2i, ck_cmp]) ?_
  exact (k_f_Law_areLaid_218 O f d K147 hK147 v0 v1 v4 v5 v6 v7 v8 v9 v11 s0 0 M)
def f_Law_areLaid_147 (O : Nat → Option va_E) (f : Nat) (K131 : Nat → Nat → Nat → Int → Int → Nat → Int → Int → xM → Option (Int × xM)) : Nat → Nat → Nat → Nat → Int → Int → Nat → Int → Int → Int → Int → xM → Option (Int × xM)
  | 0, _, _, _, _, _, _, _, _, _, _, _ => none
  | n + 1, v0, v1, v4, v5, v6, v7, v8, v9, v10, v11, M =>
    (gJ O M v7 13 4).bind fun x1 =>
    if yw x1 ≤ yw v11 then (
      xcl (f_Math_max O f v8 v10 M) fun x2 M1 =>
      K131 v0 v1 v4 v5 v6 v7 x2 (v9 + 1) M1
    ) else
    (gR O M v7 13 0).bind fun x3 =>
    (aJ O M x3 v11).bind fun x4 =>
    (isO O M v0 12).bind fun _ =>
    xcl (f_Calendarhall_seriesAt O f v0 x4 5 M) fun x5 M2 =>
    if yw x5 = yw 1 then (
      (gR O M2 v7 13 2).bind fun x6 =>
      (aJ O M2 x6 v11).bind fun x7 =>
      (gR O M2 v7 13 2).bind fun x8 =>
      (aJ O M2 x8 v9).bind fun x9 =>
      if yw x9 < yw x7 then (
        f_Law_areLaid_217 O f (f_Law_areLaid_147 O f K131 n) v0 v1 v4 v5 v6 v7 v8 v9 v11 v10 M2
      ) else
      (gR O M2 v7 13 2).bind fun x10 =>
      (aJ O M2 x10 v9).bind fun x11 =>
      (isO O M2 v7 13).bind fun _ =>
      xcl (f_LDates_end O f v7 v11 M2) fun x12 M3 =>
      if yw x12 ≤ yw x11 then (
        f_Law_areLaid_217 O f (f_Law_areLaid_147 O f K131 n) v0 v1 v4 v5 v6 v7 v8 v9 v11 v10 M3
      ) else
      f_Law_areLaid_218 O f (f_Law_areLaid_147 O f K131 n) v0 v1 v4 v5 v6 v7 v8 v9 v11 v10 1 M3
    ) else
    f_Law_areLaid_217 O f (f_Law_areLaid_147 O f K131 n) v0 v1 v4 v5 v6 v7 v8 v9 v11 v10 M2
set_option maxRecDepth 20000 in
theorem k_f_Law_areLaid_147 (O : Nat → Option va_E) (f d : Nat) (K131 : Nat → Nat → Nat → Int → Int → Nat → Int → Int → xM → Option (Int × xM)) (hK131 : ∀ (v0 : Nat) (v1 : Nat) (v4 : Nat) (v5 : Int) (v6 : Int) (v7 : Nat) (v8 : Int) (v9 : Int) M, xZ oJ O (d + 9) 186 131 [(0, .ref v0), (1, .ref v1), (4, .ref v4), (5, .int (yw v5)), (6, .int (yw v6)), (7, .ref v7), (8, .int (yw v8)), (9, .int (yw v9))] [] M (K131 v0 v1 v4 v5 v6 v7 v8 v9 M)) : ∀ (n : Nat) (v0 : Nat) (v1 : Nat) (v4 : Nat) (v5 : Int) (v6 : Int) (v7 : Nat) (v8 : Int) (v9 : Int) (v10 : Int) (v11 : Int) (M : xM), xZ oJ O (d + 9) 186 147 [(0, .ref v0), (1, .ref v1), (4, .ref v4), (5, .int (yw v5)), (6, .int (yw v6)), (7, .ref v7), (8, .int (yw v8)), (9, .int (yw v9)), (10, .int (yw v10)), (11, .int (yw v11))] [] M (f_Law_areLaid_147 O f K131 n v0 v1 v4 v5 v6 v7 v8 v9 v10 v11 M) := by
  intro n
  induction n with
  | zero =>
    intro v0 v1 v4 v5 v6 v7 v8 v9 v10 v11 M
    exact xZ.no
  | succ n ih =>
    intro v0 v1 v4 v5 v6 v7 v8 v9 v10 v11 M
    unfold f_Law_areLaid_147
    refine xZ.adv (me := xm186) hP_186 2 (pc' := 151) (lv' := [(0, .ref v0), (1, .ref v1), (4, .ref v4), (5, .int (yw v5)), (6, .int (yw v6)), (7, .ref v7), (8, .int (yw v8)), (9, .int (yw v9)), (10, .int (yw v10)), (11, .int (yw v11))]) (st' := [.ref v7, .int (yw v11)]) rfl ?_
    refine xZ.k_gJ (me := xm186) hP_186 rfl (fun x1 => ?_)
    refine xZ.jc_ge (me := xm186) hP_186 rfl (fun h1 => ?_) (fun h1 => ?_)
    · skip
      refine xZ.adv (me := xm186) hP_186 2 (pc' := 231) (lv' := [(0, .ref v0), (1, .ref v1), (4, .ref v4), (5, .int (yw v5)), (6, .int (yw v6)), (7, .ref v7), (8, .int (yw v8)), (9, .int (yw v9)), (10, .int (yw v10)), (11, .int (yw v11))]) (st' := [.int (yw v10), .int (yw v8)]) rfl ?_
      refine xZ.calls (κ := oJ) (av := [.int (yw v8), .int (yw v10)]) (rest := []) (st' := fun x2 => [.int (yw x2)]) (me := xm186) hP_186 rfl rfl rfl (Nat.le_of_ble_eq_true rfl) (by decide) hP_247 (Nat.le_of_ble_eq_true rfl) (fun _ => rfl) (k_f_Math_max O f (d + 8) v8 v10 M) (fun x2 M1 => ?_)
      refine xZ.adv (me := xm186) hP_186 3 (pc' := 131) (lv' := [(9, .int ((yw v9) + (1 : Int32))), (8, .int (yw x2)), (0, .ref v0), (1, .ref v1), (4, .ref v4), (5, .int (yw v5)), (6, .int (yw v6)), (7, .ref v7), (10, .int (yw v10)), (11, .int (yw v11))]) (st' := []) rfl ?_
      refine xZ.eqs (lv2 := [(9, .int (yw (v9 + 1))), (8, .int (yw x2)), (0, .ref v0), (1, .ref v1), (4, .ref v4), (5, .int (yw v5)), (6, .int (yw v6)), (7, .ref v7), (10, .int (yw v10)), (11, .int (yw v11))]) (st2 := []) (by simp only [yl_lit, yL_lit, yw_add, yw_sub, yw_mul, yw_neg, yl_add, yl_sub, yl_mul, cj_and, cj_or, cj_xor, cj_shl, cj_shr, cj_ushr, cj_div, cj_i2c, cj_i2b, cj_dc, ck_and, ck_or, ck_xor, ck_shl, ck_shr, ck_ushr, ck_i2l, ck_l2i, ck_cmp]) rfl ?_
      exact xZ.sub (xsc (.tail _ (.tail _ (.head _))) (xsc (.tail _ (.tail _ (.tail _ (.head _)))) (xsc (.tail _ (.tail _ (.tail _ (.tail _ (.head _))))) (xsc (.tail _ (.tail _ (.tail _ (.tail _ (.tail _ (.head _)))))) (xsc (.tail _ (.tail _ (.tail _ (.tail _ (.tail _ (.tail _ (.head _))))))) (xsc (.tail _ (.tail _ (.tail _ (.tail _ (.tail _ (.tail _ (.tail _ (.head _)))))))) (xsc (.tail _ (.head _)) (xsc (.head _) xsn)))))))) (show ([9, 8, 0, 1, 4, 5, 6, 7, 10, 11] : List Nat).Nodup from by decide) (hK131 v0 v1 v4 v5 v6 v7 x2 (v9 + 1) M1)
    · skip
      refine xZ.adv (me := xm186) hP_186 3 (pc' := 162) (lv' := [(0, .ref v0), (1, .ref v1), (4, .ref v4), (5, .int (yw v5)), (6, .int (yw v6)), (7, .ref v7), (8, .int (yw v8)), (9, .int (yw v9)), (10, .int (yw v10)), (11, .int (yw v11))]) (st' := [.ref v7, .ref v0, .int (yw v10)]) rfl ?_
      refine xZ.k_gR (me := xm186) hP_186 rfl (fun x3 => ?_)
      refine xZ.adv (me := xm186) hP_186 1 (pc' := 167) (lv' := [(0, .ref v0), (1, .ref v1), (4, .ref v4), (5, .int (yw v5)), (6, .int (yw v6)), (7, .ref v7), (8, .int (yw v8)), (9, .int (yw v9)), (10, .int (yw v10)), (11, .int (yw v11))]) (st' := [.int (yw v11), .ref x3, .ref v0, .int (yw v10)]) rfl ?_
      refine xZ.k_aJ (me := xm186) hP_186 rfl (fun x4 => ?_)
      refine xZ.adv (me := xm186) hP_186 1 (pc' := 169) (lv' := [(0, .ref v0), (1, .ref v1), (4, .ref v4), (5, .int (yw v5)), (6, .int (yw v6)), (7, .ref v7), (8, .int (yw v8)), (9, .int (yw v9)), (10, .int (yw v10)), (11, .int (yw v11))]) (st' := [.int (5 : Int32), .int (yw x4), .ref v0, .int (yw v10)]) rfl ?_
      refine xZ.eqs (lv2 := [(0, .ref v0), (1, .ref v1), (4, .ref v4), (5, .int (yw v5)), (6, .int (yw v6)), (7, .ref v7), (8, .int (yw v8)), (9, .int (yw v9)), (10, .int (yw v10)), (11, .int (yw v11))]) (st2 := [.int (yw 5), .int (yw x4), .ref v0, .int (yw v10)]) rfl (by simp only [yl_lit, yL_lit, yw_add, yw_sub, yw_mul, yw_neg, yl_add, yl_sub, yl_mul, cj_and, cj_or, cj_xor, cj_shl, cj_shr, cj_ushr, cj_div, cj_i2c, cj_i2b, cj_dc, ck_and, ck_or, ck_xor, ck_shl, ck_shr, ck_ushr, ck_i2l, ck_l2i, ck_cmp]) ?_
      refine xZ.callv (κ := oJ) (av := [.int (yw x4), .int (yw 5)]) (rest := [.int (yw v10)]) (st' := fun x5 => [.int (yw x5), .int (yw v10)]) (k0 := v0) (me := xm186) hP_186 rfl (Or.inl rfl) ⟨rfl, by decide⟩ rfl rfl (Nat.le_of_ble_eq_true rfl) (by decide) hP_126 (Nat.le_of_ble_eq_true rfl) (fun _ => rfl) (k_f_Calendarhall_seriesAt O f (d + 6) v0 x4 5 M) (fun x5 M2 => ?_)
      refine xZ.adv (me := xm186) hP_186 1 (pc' := 173) (lv' := [(0, .ref v0), (1, .ref v1), (4, .ref v4), (5, .int (yw v5)), (6, .int (yw v6)), (7, .ref v7), (8, .int (yw v8)), (9, .int (yw v9)), (10, .int (yw v10)), (11, .int (yw v11))]) (st' := [.int (1 : Int32), .int (yw x5), .int (yw v10)]) rfl ?_
      refine xZ.eqs (lv2 := [(0, .ref v0), (1, .ref v1), (4, .ref v4), (5, .int (yw v5)), (6, .int (yw v6)), (7, .ref v7), (8, .int (yw v8)), (9, .int (yw v9)), (10, .int (yw v10)), (11, .int (yw v11))]) (st2 := [.int (yw 1), .int (yw x5), .int (yw v10)]) rfl (by simp only [yl_lit, yL_lit, yw_add, yw_sub, yw_mul, yw_neg, yl_add, yl_sub, yl_mul, cj_and, cj_or, cj_xor, cj_shl, cj_shr, cj_ushr, cj_div, cj_i2c, cj_i2b, cj_dc, ck_and, ck_or, ck_xor, ck_shl, ck_shr, ck_ushr, ck_i2l, ck_l2i, ck_cmp]) ?_
      refine xZ.jc_ne (me := xm186) hP_186 rfl (fun h2 => ?_) (fun h2 => ?_)
      · skip
        refine xZ.adv (me := xm186) hP_186 1 (pc' := 178) (lv' := [(0, .ref v0), (1, .ref v1), (4, .ref v4), (5, .int (yw v5)), (6, .int (yw v6)), (7, .ref v7), (8, .int (yw v8)), (9, .int (yw v9)), (10, .int (yw v10)), (11, .int (yw v11))]) (st' := [.ref v7, .int (yw v10)]) rfl ?_
        refine xZ.k_gR (me := xm186) hP_186 rfl (fun x6 => ?_)
        refine xZ.adv (me := xm186) hP_186 1 (pc' := 183) (lv' := [(0, .ref v0), (1, .ref v1), (4, .ref v4), (5, .int (yw v5)), (6, .int (yw v6)), (7, .ref v7), (8, .int (yw v8)), (9, .int (yw v9)), (10, .int (yw v10)), (11, .int (yw v11))]) (st' := [.int (yw v11), .ref x6, .int (yw v10)]) rfl ?_
        refine xZ.k_aJ (me := xm186) hP_186 rfl (fun x7 => ?_)
        refine xZ.adv (me := xm186) hP_186 1 (pc' := 186) (lv' := [(0, .ref v0), (1, .ref v1), (4, .ref v4), (5, .int (yw v5)), (6, .int (yw v6)), (7, .ref v7), (8, .int (yw v8)), (9, .int (yw v9)), (10, .int (yw v10)), (11, .int (yw v11))]) (st' := [.ref v7, .int (yw x7), .int (yw v10)]) rfl ?_
        refine xZ.k_gR (me := xm186) hP_186 rfl (fun x8 => ?_)
        refine xZ.adv (me := xm186) hP_186 1 (pc' := 191) (lv' := [(0, .ref v0), (1, .ref v1), (4, .ref v4), (5, .int (yw v5)), (6, .int (yw v6)), (7, .ref v7), (8, .int (yw v8)), (9, .int (yw v9)), (10, .int (yw v10)), (11, .int (yw v11))]) (st' := [.int (yw v9), .ref x8, .int (yw x7), .int (yw v10)]) rfl ?_
        refine xZ.k_aJ (me := xm186) hP_186 rfl (fun x9 => ?_)
        refine xZ.jc_gt (me := xm186) hP_186 rfl (fun h3 => ?_) (fun h3 => ?_)
        · skip
          exact xZ.sub (xsc (.head _) (xsc (.tail _ (.head _)) (xsc (.tail _ (.tail _ (.head _))) (xsc (.tail _ (.tail _ (.tail _ (.head _)))) (xsc (.tail _ (.tail _ (.tail _ (.tail _ (.head _))))) (xsc (.tail _ (.tail _ (.tail _ (.tail _ (.tail _ (.head _)))))) (xsc (.tail _ (.tail _ (.tail _ (.tail _ (.tail _ (.tail _ (.head _))))))) (xsc (.tail _ (.tail _ (.tail _ (.tail _ (.tail _ (.tail _ (.tail _ (.head _)))))))) (xsc (.tail _ (.tail _ (.tail _ (.tail _ (.tail _ (.tail _ (.tail _ (.tail _ (.tail _ (.head _)))))))))) xsn))))))))) (show ([0, 1, 4, 5, 6, 7, 8, 9, 10, 11] : List Nat).Nodup from by decide) (k_f_Law_areLaid_217 O f d (f_Law_areLaid_147 O f K131 n) ih v0 v1 v4 v5 v6 v7 v8 v9 v11 v10 M2)
        · skip
          refine xZ.adv (me := xm186) hP_186 1 (pc' := 197) (lv' := [(0, .ref v0), (1, .ref v1), (4, .ref v4), (5, .int (yw v5)), (6, .int (yw v6)), (7, .ref v7), (8, .int (yw v8)), (9, .int (yw v9)), (10, .int (yw v10)), (11, .int (yw v11))]) (st' := [.ref v7, .int (yw v10)]) rfl ?_
          refine xZ.k_gR (me := xm186) hP_186 rfl (fun x10 => ?_)
          refine xZ.adv (me := xm186) hP_186 1 (pc' := 202) (lv' := [(0, .ref v0), (1, .ref v1), (4, .ref v4), (5, .int (yw v5)), (6, .int (yw v6)), (7, .ref v7), (8, .int (yw v8)), (9, .int (yw v9)), (10, .int (yw v10)), (11, .int (yw v11))]) (st' := [.int (yw v9), .ref x10, .int (yw v10)]) rfl ?_
          refine xZ.k_aJ (me := xm186) hP_186 rfl (fun x11 => ?_)
          refine xZ.adv (me := xm186) hP_186 2 (pc' := 207) (lv' := [(0, .ref v0), (1, .ref v1), (4, .ref v4), (5, .int (yw v5)), (6, .int (yw v6)), (7, .ref v7), (8, .int (yw v8)), (9, .int (yw v9)), (10, .int (yw v10)), (11, .int (yw v11))]) (st' := [.int (yw v11), .ref v7, .int (yw x11), .int (yw v10)]) rfl ?_
          refine xZ.callv (κ := oJ) (av := [.int (yw v11)]) (rest := [.int (yw x11), .int (yw v10)]) (st' := fun x12 => [.int (yw x12), .int (yw x11), .int (yw v10)]) (k0 := v7) (me := xm186) hP_186 rfl (Or.inl rfl) ⟨rfl, by decide⟩ rfl rfl (Nat.le_of_ble_eq_true rfl) (by decide) hP_154 (Nat.le_of_ble_eq_true rfl) (fun _ => rfl) (k_f_LDates_end O f (d + 8) v7 v11 M2) (fun x12 M3 => ?_)
          refine xZ.jc_ge (me := xm186) hP_186 rfl (fun h4 => ?_) (fun h4 => ?_)
          · skip
            exact xZ.sub (xsc (.head _) (xsc (.tail _ (.head _)) (xsc (.tail _ (.tail _ (.head _))) (xsc (.tail _ (.tail _ (.tail _ (.head _)))) (xsc (.tail _ (.tail _ (.tail _ (.tail _ (.head _))))) (xsc (.tail _ (.tail _ (.tail _ (.tail _ (.tail _ (.head _)))))) (xsc (.tail _ (.tail _ (.tail _ (.tail _ (.tail _ (.tail _ (.head _))))))) (xsc (.tail _ (.tail _ (.tail _ (.tail _ (.tail _ (.tail _ (.tail _ (.head _)))))))) (xsc (.tail _ (.tail _ (.tail _ (.tail _ (.tail _ (.tail _ (.tail _ (.tail _ (.tail _ (.head _)))))))))) xsn))))))))) (show ([0, 1, 4, 5, 6, 7, 8, 9, 10, 11] : List Nat).Nodup from by decide) (k_f_Law_areLaid_217 O f d (f_Law_areLaid_147 O f K131 n) ih v0 v1 v4 v5 v6 v7 v8 v9 v11 v10 M3)
          · skip
            refine xZ.adv (me := xm186) hP_186 2 (pc' := 218) (lv' := [(0, .ref v0), (1, .ref v1), (4, .ref v4), (5, .int (yw v5)), (6, .int (yw v6)), (7, .ref v7), (8, .int (yw v8)), (9, .int (yw v9)), (10, .int (yw v10)), (11, .int (yw v11))]) (st' := [.int (1 : Int32), .int (yw v10)]) rfl ?_
            refine xZ.eqs (lv2 := [(0, .ref v0), (1, .ref v1), (4, .ref v4), (5, .int (yw v5)), (6, .int (yw v6)), (7, .ref v7), (8, .int (yw v8)), (9, .int (yw v9)), (10, .int (yw v10)), (11, .int (yw v11))]) (st2 := [.int (yw 1), .int (yw v10)]) rfl (by simp only [yl_lit, yL_lit, yw_add, yw_sub, yw_mul, yw_neg, yl_add, yl_sub, yl_mul, cj_and, cj_or, cj_xor, cj_shl, cj_shr, cj_ushr, cj_div, cj_i2c, cj_i2b, cj_dc, ck_and, ck_or, ck_xor, ck_shl, ck_shr, ck_ushr, ck_i2l, ck_l2i, ck_cmp]) ?_
            exact xZ.sub (xsc (.head _) (xsc (.tail _ (.head _)) (xsc (.tail _ (.tail _ (.head _))) (xsc (.tail _ (.tail _ (.tail _ (.head _)))) (xsc (.tail _ (.tail _ (.tail _ (.tail _ (.head _))))) (xsc (.tail _ (.tail _ (.tail _ (.tail _ (.tail _ (.head _)))))) (xsc (.tail _ (.tail _ (.tail _ (.tail _ (.tail _ (.tail _ (.head _))))))) (xsc (.tail _ (.tail _ (.tail _ (.tail _ (.tail _ (.tail _ (.tail _ (.head _)))))))) (xsc (.tail _ (.tail _ (.tail _ (.tail _ (.tail _ (.tail _ (.tail _ (.tail _ (.tail _ (.head _)))))))))) xsn))))))))) (show ([0, 1, 4, 5, 6, 7, 8, 9, 10, 11] : List Nat).Nodup from by decide) (k_f_Law_areLaid_218 O f d (f_Law_areLaid_147 O f K131 n) ih v0 v1 v4 v5 v6 v7 v8 v9 v11 v10 1 M3)
      · skip
        exact xZ.sub (xsc (.head _) (xsc (.tail _ (.head _)) (xsc (.tail _ (.tail _ (.head _))) (xsc (.tail _ (.tail _ (.tail _ (.head _)))) (xsc (.tail _ (.tail _ (.tail _ (.tail _ (.head _))))) (xsc (.tail _ (.tail _ (.tail _ (.tail _ (.tail _ (.head _)))))) (xsc (.tail _ (.tail _ (.tail _ (.tail _ (.tail _ (.tail _ (.head _))))))) (xsc (.tail _ (.tail _ (.tail _ (.tail _ (.tail _ (.tail _ (.tail _ (.head _)))))))) (xsc (.tail _ (.tail _ (.tail _ (.tail _ (.tail _ (.tail _ (.tail _ (.tail _ (.tail _ (.head _)))))))))) xsn))))))))) (show ([0, 1, 4, 5, 6, 7, 8, 9, 10, 11] : List Nat).Nodup from by decide) (k_f_Law_areLaid_217 O f d (f_Law_areLaid_147 O f K131 n) ih v0 v1 v4 v5 v6 v7 v8 v9 v11 v10 M2)
def f_Law_areLaid_131 (O : Nat → Option va_E) (f : Nat) : Nat → Nat → Nat → Nat → Int → Int → Nat → Int → Int → xM → Option (Int × xM)
  | 0, _, _, _, _, _, _, _, _, _ => none
  | n + 1, v0, v1, v4, v5, v6, v7, v8, v9, M =>
    (gJ O M v7 13 4).bind fun x1 =>
    if yw x1 ≤ yw v9 then (
      (isO O M v0 12).bind fun _ =>
      xcl (f_Calendarhall_layRooms O f v0 v5 v6 M) fun x2 M1 =>
      (isO O M1 v0 12).bind fun _ =>
      xcl (f_Calendarhall_roomsNeeded O f v0 v5 v6 M1) fun x3 M2 =>
      if yw x3 = yw v8 then (
        if yw x2 = yw 0 then (
          f_Law_areLaid_275 O f v0 v1 v4 v5 v6 v7 v8 x2 1 M2
        ) else
        f_Law_areLaid_275 O f v0 v1 v4 v5 v6 v7 v8 x2 0 M2
      ) else
      some (0, M2)
    ) else
    f_Law_areLaid_147 O f (f_Law_areLaid_131 O f n) f v0 v1 v4 v5 v6 v7 v8 v9 0 0 M
set_option maxRecDepth 20000 in
theorem k_f_Law_areLaid_131 (O : Nat → Option va_E) (f d : Nat) : ∀ (n : Nat) (v0 : Nat) (v1 : Nat) (v4 : Nat) (v5 : Int) (v6 : Int) (v7 : Nat) (v8 : Int) (v9 : Int) (M : xM), xZ oJ O (d + 9) 186 131 [(0, .ref v0), (1, .ref v1), (4, .ref v4), (5, .int (yw v5)), (6, .int (yw v6)), (7, .ref v7), (8, .int (yw v8)), (9, .int (yw v9))] [] M (f_Law_areLaid_131 O f n v0 v1 v4 v5 v6 v7 v8 v9 M) := by
  intro n
  induction n with
  | zero =>
    intro v0 v1 v4 v5 v6 v7 v8 v9 M
    exact xZ.no
  | succ n ih =>
    intro v0 v1 v4 v5 v6 v7 v8 v9 M
    unfold f_Law_areLaid_131
    refine xZ.adv (me := xm186) hP_186 2 (pc' := 135) (lv' := [(0, .ref v0), (1, .ref v1), (4, .ref v4), (5, .int (yw v5)), (6, .int (yw v6)), (7, .ref v7), (8, .int (yw v8)), (9, .int (yw v9))]) (st' := [.ref v7, .int (yw v9)]) rfl ?_
    refine xZ.k_gJ (me := xm186) hP_186 rfl (fun x1 => ?_)
    refine xZ.jc_ge (me := xm186) hP_186 rfl (fun h1 => ?_) (fun h1 => ?_)
    · skip
      refine xZ.adv (me := xm186) hP_186 3 (pc' := 247) (lv' := [(0, .ref v0), (1, .ref v1), (4, .ref v4), (5, .int (yw v5)), (6, .int (yw v6)), (7, .ref v7), (8, .int (yw v8)), (9, .int (yw v9))]) (st' := [.int (yw v6), .int (yw v5), .ref v0]) rfl ?_
      refine xZ.callv (κ := oJ) (av := [.int (yw v5), .int (yw v6)]) (rest := []) (st' := fun x2 => [.int (yw x2)]) (k0 := v0) (me := xm186) hP_186 rfl (Or.inl rfl) ⟨rfl, by decide⟩ rfl rfl (Nat.le_of_ble_eq_true rfl) (by decide) hP_188 (Nat.le_of_ble_eq_true rfl) (fun _ => rfl) (k_f_Calendarhall_layRooms O f (d + 1) v0 v5 v6 M) (fun x2 M1 => ?_)
      refine xZ.adv (me := xm186) hP_186 4 (pc' := 257) (lv' := [(9, .int (yw x2)), (0, .ref v0), (1, .ref v1), (4, .ref v4), (5, .int (yw v5)), (6, .int (yw v6)), (7, .ref v7), (8, .int (yw v8))]) (st' := [.int (yw v6), .int (yw v5), .ref v0]) rfl ?_
      refine xZ.callv (κ := oJ) (av := [.int (yw v5), .int (yw v6)]) (rest := []) (st' := fun x3 => [.int (yw x3)]) (k0 := v0) (me := xm186) hP_186 rfl (Or.inl rfl) ⟨rfl, by decide⟩ rfl rfl (Nat.le_of_ble_eq_true rfl) (by decide) hP_193 (Nat.le_of_ble_eq_true rfl) (fun _ => rfl) (k_f_Calendarhall_roomsNeeded O f (d + 1) v0 v5 v6 M1) (fun x3 M2 => ?_)
      refine xZ.adv (me := xm186) hP_186 1 (pc' := 262) (lv' := [(9, .int (yw x2)), (0, .ref v0), (1, .ref v1), (4, .ref v4), (5, .int (yw v5)), (6, .int (yw v6)), (7, .ref v7), (8, .int (yw v8))]) (st' := [.int (yw v8), .int (yw x3)]) rfl ?_
      refine xZ.jc_ne (me := xm186) hP_186 rfl (fun h2 => ?_) (fun h2 => ?_)
      · skip
        refine xZ.adv (me := xm186) hP_186 1 (pc' := 267) (lv' := [(9, .int (yw x2)), (0, .ref v0), (1, .ref v1), (4, .ref v4), (5, .int (yw v5)), (6, .int (yw v6)), (7, .ref v7), (8, .int (yw v8))]) (st' := [.int (yw x2)]) rfl ?_
        refine xZ.jf_ne (me := xm186) hP_186 rfl (fun h3 => ?_) (fun h3 => ?_)
        · skip
          refine xZ.adv (me := xm186) hP_186 2 (pc' := 275) (lv' := [(9, .int (yw x2)), (0, .ref v0), (1, .ref v1), (4, .ref v4), (5, .int (yw v5)), (6, .int (yw v6)), (7, .ref v7), (8, .int (yw v8))]) (st' := [.int (1 : Int32)]) rfl ?_
          refine xZ.eqs (lv2 := [(9, .int (yw x2)), (0, .ref v0), (1, .ref v1), (4, .ref v4), (5, .int (yw v5)), (6, .int (yw v6)), (7, .ref v7), (8, .int (yw v8))]) (st2 := [.int (yw 1)]) rfl (by simp only [yl_lit, yL_lit, yw_add, yw_sub, yw_mul, yw_neg, yl_add, yl_sub, yl_mul, cj_and, cj_or, cj_xor, cj_shl, cj_shr, cj_ushr, cj_div, cj_i2c, cj_i2b, cj_dc, ck_and, ck_or, ck_xor, ck_shl, ck_shr, ck_ushr, ck_i2l, ck_l2i, ck_cmp]) ?_
          exact xZ.sub (xsc (.tail _ (.head _)) (xsc (.tail _ (.tail _ (.head _))) (xsc (.tail _ (.tail _ (.tail _ (.head _)))) (xsc (.tail _ (.tail _ (.tail _ (.tail _ (.head _))))) (xsc (.tail _ (.tail _ (.tail _ (.tail _ (.tail _ (.head _)))))) (xsc (.tail _ (.tail _ (.tail _ (.tail _ (.tail _ (.tail _ (.head _))))))) (xsc (.tail _ (.tail _ (.tail _ (.tail _ (.tail _ (.tail _ (.tail _ (.head _)))))))) (xsc (.head _) xsn)))))))) (show ([9, 0, 1, 4, 5, 6, 7, 8] : List Nat).Nodup from by decide) (k_f_Law_areLaid_275 O f d v0 v1 v4 v5 v6 v7 v8 x2 1 M2)
        · skip
          refine xZ.adv (me := xm186) hP_186 1 (pc' := 275) (lv' := [(9, .int (yw x2)), (0, .ref v0), (1, .ref v1), (4, .ref v4), (5, .int (yw v5)), (6, .int (yw v6)), (7, .ref v7), (8, .int (yw v8))]) (st' := [.int (0 : Int32)]) rfl ?_
          refine xZ.eqs (lv2 := [(9, .int (yw x2)), (0, .ref v0), (1, .ref v1), (4, .ref v4), (5, .int (yw v5)), (6, .int (yw v6)), (7, .ref v7), (8, .int (yw v8))]) (st2 := [.int (yw 0)]) rfl (by simp only [yl_lit, yL_lit, yw_add, yw_sub, yw_mul, yw_neg, yl_add, yl_sub, yl_mul, cj_and, cj_or, cj_xor, cj_shl, cj_shr, cj_ushr, cj_div, cj_i2c, cj_i2b, cj_dc, ck_and, ck_or, ck_xor, ck_shl, ck_shr, ck_ushr, ck_i2l, ck_l2i, ck_cmp]) ?_
          exact xZ.sub (xsc (.tail _ (.head _)) (xsc (.tail _ (.tail _ (.head _))) (xsc (.tail _ (.tail _ (.tail _ (.head _)))) (xsc (.tail _ (.tail _ (.tail _ (.tail _ (.head _))))) (xsc (.tail _ (.tail _ (.tail _ (.tail _ (.tail _ (.head _)))))) (xsc (.tail _ (.tail _ (.tail _ (.tail _ (.tail _ (.tail _ (.head _))))))) (xsc (.tail _ (.tail _ (.tail _ (.tail _ (.tail _ (.tail _ (.tail _ (.head _)))))))) (xsc (.head _) xsn)))))))) (show ([9, 0, 1, 4, 5, 6, 7, 8] : List Nat).Nodup from by decide) (k_f_Law_areLaid_275 O f d v0 v1 v4 v5 v6 v7 v8 x2 0 M2)
      · skip
        refine xZ.adv (me := xm186) hP_186 1 (pc' := 290) (lv' := [(9, .int (yw x2)), (0, .ref v0), (1, .ref v1), (4, .ref v4), (5, .int (yw v5)), (6, .int (yw v6)), (7, .ref v7), (8, .int (yw v8))]) (st' := [.int (0 : Int32)]) rfl ?_
        refine xZ.eqs (lv2 := [(9, .int (yw x2)), (0, .ref v0), (1, .ref v1), (4, .ref v4), (5, .int (yw v5)), (6, .int (yw v6)), (7, .ref v7), (8, .int (yw v8))]) (st2 := [.int (yw 0)]) rfl (by simp only [yl_lit, yL_lit, yw_add, yw_sub, yw_mul, yw_neg, yl_add, yl_sub, yl_mul, cj_and, cj_or, cj_xor, cj_shl, cj_shr, cj_ushr, cj_div, cj_i2c, cj_i2b, cj_dc, ck_and, ck_or, ck_xor, ck_shl, ck_shr, ck_ushr, ck_i2l, ck_l2i, ck_cmp]) ?_
        exact xZ.jrete (me := xm186) hP_186 rfl rfl rfl
    · skip
      refine xZ.adv (me := xm186) hP_186 4 (pc' := 147) (lv' := [(11, .int (0 : Int32)), (10, .int (0 : Int32)), (0, .ref v0), (1, .ref v1), (4, .ref v4), (5, .int (yw v5)), (6, .int (yw v6)), (7, .ref v7), (8, .int (yw v8)), (9, .int (yw v9))]) (st' := []) rfl ?_
      refine xZ.eqs (lv2 := [(11, .int (yw 0)), (10, .int (yw 0)), (0, .ref v0), (1, .ref v1), (4, .ref v4), (5, .int (yw v5)), (6, .int (yw v6)), (7, .ref v7), (8, .int (yw v8)), (9, .int (yw v9))]) (st2 := []) (by simp only [yl_lit, yL_lit, yw_add, yw_sub, yw_mul, yw_neg, yl_add, yl_sub, yl_mul, cj_and, cj_or, cj_xor, cj_shl, cj_shr, cj_ushr, cj_div, cj_i2c, cj_i2b, cj_dc, ck_and, ck_or, ck_xor, ck_shl, ck_shr, ck_ushr, ck_i2l, ck_l2i, ck_cmp]) rfl ?_
      exact xZ.sub (xsc (.tail _ (.tail _ (.head _))) (xsc (.tail _ (.tail _ (.tail _ (.head _)))) (xsc (.tail _ (.tail _ (.tail _ (.tail _ (.head _))))) (xsc (.tail _ (.tail _ (.tail _ (.tail _ (.tail _ (.head _)))))) (xsc (.tail _ (.tail _ (.tail _ (.tail _ (.tail _ (.tail _ (.head _))))))) (xsc (.tail _ (.tail _ (.tail _ (.tail _ (.tail _ (.tail _ (.tail _ (.head _)))))))) (xsc (.tail _ (.tail _ (.tail _ (.tail _ (.tail _ (.tail _ (.tail _ (.tail _ (.head _))))))))) (xsc (.tail _ (.tail _ (.tail _ (.tail _ (.tail _ (.tail _ (.tail _ (.tail _ (.tail _ (.head _)))))))))) (xsc (.tail _ (.head _)) (xsc (.head _) xsn)))))))))) (show ([11, 10, 0, 1, 4, 5, 6, 7, 8, 9] : List Nat).Nodup from by decide) (k_f_Law_areLaid_147 O f d (f_Law_areLaid_131 O f n) ih f v0 v1 v4 v5 v6 v7 v8 v9 0 0 M)
def f_Law_areLaid_65 (O : Nat → Option va_E) (f : Nat) : Nat → Nat → Nat → Int → Int → Nat → Int → xM → Option (Int × xM)
  | 0, _, _, _, _, _, _, _ => none
  | n + 1, v0, v1, v2, v3, v4, v5, M =>
    if yw 4 ≤ yw v5 then (
      (isO O M v1 15).bind fun _ =>
      xcl (f_LDraw_n O f v1 10080 M) fun x1 M1 =>
      xcl (nO M1 13) fun x2 M2 =>
      xcl (f_LDates_ctor O f x2 v0 v3 (1440 * v2) (((1440 * v2) + 1) + x1) M2) fun _ M3 =>
      f_Law_areLaid_131 O f f v0 v1 v4 (1440 * v2) (((1440 * v2) + 1) + x1) x2 0 0 M3
    ) else
    (aJ O M v4 v5).bind fun x4 =>
    (isO O M v0 12).bind fun _ =>
    xcl (f_Calendarhall_setRoom O f v0 v5 x4 M) fun x5 M4 =>
    f_Law_areLaid_65 O f n v0 v1 v2 v3 v4 (v5 + 1) M4
set_option maxRecDepth 20000 in
theorem k_f_Law_areLaid_65 (O : Nat → Option va_E) (f d : Nat) : ∀ (n : Nat) (v0 : Nat) (v1 : Nat) (v2 : Int) (v3 : Int) (v4 : Nat) (v5 : Int) (M : xM), xZ oJ O (d + 9) 186 65 [(0, .ref v0), (1, .ref v1), (2, .int (yw v2)), (3, .int (yw v3)), (4, .ref v4), (5, .int (yw v5))] [] M (f_Law_areLaid_65 O f n v0 v1 v2 v3 v4 v5 M) := by
  intro n
  induction n with
  | zero =>
    intro v0 v1 v2 v3 v4 v5 M
    exact xZ.no
  | succ n ih =>
    intro v0 v1 v2 v3 v4 v5 M
    unfold f_Law_areLaid_65
    refine xZ.adv (me := xm186) hP_186 2 (pc' := 68) (lv' := [(0, .ref v0), (1, .ref v1), (2, .int (yw v2)), (3, .int (yw v3)), (4, .ref v4), (5, .int (yw v5))]) (st' := [.int (4 : Int32), .int (yw v5)]) rfl ?_
    refine xZ.eqs (lv2 := [(0, .ref v0), (1, .ref v1), (2, .int (yw v2)), (3, .int (yw v3)), (4, .ref v4), (5, .int (yw v5))]) (st2 := [.int (yw 4), .int (yw v5)]) rfl (by simp only [yl_lit, yL_lit, yw_add, yw_sub, yw_mul, yw_neg, yl_add, yl_sub, yl_mul, cj_and, cj_or, cj_xor, cj_shl, cj_shr, cj_ushr, cj_div, cj_i2c, cj_i2b, cj_dc, ck_and, ck_or, ck_xor, ck_shl, ck_shr, ck_ushr, ck_i2l, ck_l2i, ck_cmp]) ?_
    refine xZ.jc_ge (me := xm186) hP_186 rfl (fun h1 => ?_) (fun h1 => ?_)
    · skip
      refine xZ.adv (me := xm186) hP_186 9 (pc' := 104) (lv' := [(5, .int ((1440 : Int32) * (yw v2))), (0, .ref v0), (1, .ref v1), (2, .int (yw v2)), (3, .int (yw v3)), (4, .ref v4)]) (st' := [.int (10080 : Int32), .ref v1, .int (((1440 : Int32) * (yw v2)) + (1 : Int32))]) rfl ?_
      refine xZ.eqs (lv2 := [(5, .int (yw (1440 * v2))), (0, .ref v0), (1, .ref v1), (2, .int (yw v2)), (3, .int (yw v3)), (4, .ref v4)]) (st2 := [.int (yw 10080), .ref v1, .int (yw ((1440 * v2) + 1))]) (by simp only [yl_lit, yL_lit, yw_add, yw_sub, yw_mul, yw_neg, yl_add, yl_sub, yl_mul, cj_and, cj_or, cj_xor, cj_shl, cj_shr, cj_ushr, cj_div, cj_i2c, cj_i2b, cj_dc, ck_and, ck_or, ck_xor, ck_shl, ck_shr, ck_ushr, ck_i2l, ck_l2i, ck_cmp]) (by simp only [yl_lit, yL_lit, yw_add, yw_sub, yw_mul, yw_neg, yl_add, yl_sub, yl_mul, cj_and, cj_or, cj_xor, cj_shl, cj_shr, cj_ushr, cj_div, cj_i2c, cj_i2b, cj_dc, ck_and, ck_or, ck_xor, ck_shl, ck_shr, ck_ushr, ck_i2l, ck_l2i, ck_cmp]) ?_
      refine xZ.callv (κ := oJ) (av := [.int (yw 10080)]) (rest := [.int (yw ((1440 * v2) + 1))]) (st' := fun x1 => [.int (yw x1), .int (yw ((1440 * v2) + 1))]) (k0 := v1) (me := xm186) hP_186 rfl (Or.inl rfl) ⟨rfl, by decide⟩ rfl rfl (Nat.le_of_ble_eq_true rfl) (by decide) hP_12 (Nat.le_of_ble_eq_true rfl) (fun _ => rfl) (k_f_LDraw_n O f (d + 8) v1 10080 M) (fun x1 M1 => ?_)
      refine xZ.adv (me := xm186) hP_186 2 (pc' := 110) (lv' := [(6, .int ((yw ((1440 * v2) + 1)) + (yw x1))), (5, .int (yw (1440 * v2))), (0, .ref v0), (1, .ref v1), (2, .int (yw v2)), (3, .int (yw v3)), (4, .ref v4)]) (st' := []) rfl ?_
      refine xZ.eqs (lv2 := [(6, .int (yw (((1440 * v2) + 1) + x1))), (5, .int (yw (1440 * v2))), (0, .ref v0), (1, .ref v1), (2, .int (yw v2)), (3, .int (yw v3)), (4, .ref v4)]) (st2 := []) (by simp only [yl_lit, yL_lit, yw_add, yw_sub, yw_mul, yw_neg, yl_add, yl_sub, yl_mul, cj_and, cj_or, cj_xor, cj_shl, cj_shr, cj_ushr, cj_div, cj_i2c, cj_i2b, cj_dc, ck_and, ck_or, ck_xor, ck_shl, ck_shr, ck_ushr, ck_i2l, ck_l2i, ck_cmp]) rfl ?_
      refine xZ.k_nO (me := xm186) hP_186 rfl rfl (fun x2 M2 => ?_)
      refine xZ.adv (me := xm186) hP_186 5 (pc' := 120) (lv' := [(6, .int (yw (((1440 * v2) + 1) + x1))), (5, .int (yw (1440 * v2))), (0, .ref v0), (1, .ref v1), (2, .int (yw v2)), (3, .int (yw v3)), (4, .ref v4)]) (st' := [.int (yw (((1440 * v2) + 1) + x1)), .int (yw (1440 * v2)), .int (yw v3), .ref v0, .ref x2, .ref x2]) rfl ?_
      refine xZ.calli (κ := oU) (av := [.ref v0, .int (yw v3), .int (yw (1440 * v2)), .int (yw (((1440 * v2) + 1) + x1))]) (rest := [.ref x2]) (st' := fun _ => [.ref x2]) (k0 := x2) (me := xm186) hP_186 rfl (Or.inl rfl) rfl rfl (Nat.le_of_ble_eq_true rfl) (by decide) hP_152 (Nat.le_of_ble_eq_true rfl) (fun _ => rfl) (k_f_LDates_ctor O f (d + 2) x2 v0 v3 (1440 * v2) (((1440 * v2) + 1) + x1) M2) (fun _ M3 => ?_)
      refine xZ.adv (me := xm186) hP_186 5 (pc' := 131) (lv' := [(9, .int (0 : Int32)), (8, .int (0 : Int32)), (7, .ref x2), (6, .int (yw (((1440 * v2) + 1) + x1))), (5, .int (yw (1440 * v2))), (0, .ref v0), (1, .ref v1), (2, .int (yw v2)), (3, .int (yw v3)), (4, .ref v4)]) (st' := []) rfl ?_
      refine xZ.eqs (lv2 := [(9, .int (yw 0)), (8, .int (yw 0)), (7, .ref x2), (6, .int (yw (((1440 * v2) + 1) + x1))), (5, .int (yw (1440 * v2))), (0, .ref v0), (1, .ref v1), (2, .int (yw v2)), (3, .int (yw v3)), (4, .ref v4)]) (st2 := []) (by simp only [yl_lit, yL_lit, yw_add, yw_sub, yw_mul, yw_neg, yl_add, yl_sub, yl_mul, cj_and, cj_or, cj_xor, cj_shl, cj_shr, cj_ushr, cj_div, cj_i2c, cj_i2b, cj_dc, ck_and, ck_or, ck_xor, ck_shl, ck_shr, ck_ushr, ck_i2l, ck_l2i, ck_cmp]) rfl ?_
      exact xZ.sub (xsc (.tail _ (.tail _ (.tail _ (.tail _ (.tail _ (.head _)))))) (xsc (.tail _ (.tail _ (.tail _ (.tail _ (.tail _ (.tail _ (.head _))))))) (xsc (.tail _ (.tail _ (.tail _ (.tail _ (.tail _ (.tail _ (.tail _ (.tail _ (.tail _ (.head _)))))))))) (xsc (.tail _ (.tail _ (.tail _ (.tail _ (.head _))))) (xsc (.tail _ (.tail _ (.tail _ (.head _)))) (xsc (.tail _ (.tail _ (.head _))) (xsc (.tail _ (.head _)) (xsc (.head _) xsn)))))))) (show ([9, 8, 7, 6, 5, 0, 1, 2, 3, 4] : List Nat).Nodup from by decide) (k_f_Law_areLaid_131 O f d f v0 v1 v4 (1440 * v2) (((1440 * v2) + 1) + x1) x2 0 0 M3)
    · skip
      refine xZ.adv (me := xm186) hP_186 4 (pc' := 78) (lv' := [(0, .ref v0), (1, .ref v1), (2, .int (yw v2)), (3, .int (yw v3)), (4, .ref v4), (5, .int (yw v5))]) (st' := [.int (yw v5), .ref v4, .int (yw v5), .ref v0]) rfl ?_
      refine xZ.k_aJ (me := xm186) hP_186 rfl (fun x4 => ?_)
      refine xZ.callv (κ := oJ) (av := [.int (yw v5), .int (yw x4)]) (rest := []) (st' := fun x5 => [.int (yw x5)]) (k0 := v0) (me := xm186) hP_186 rfl (Or.inl rfl) ⟨rfl, by decide⟩ rfl rfl (Nat.le_of_ble_eq_true rfl) (by decide) hP_187 (Nat.le_of_ble_eq_true rfl) (fun _ => rfl) (k_f_Calendarhall_setRoom O f (d + 3) v0 v5 x4 M) (fun x5 M4 => ?_)
      refine xZ.adv (me := xm186) hP_186 3 (pc' := 65) (lv' := [(5, .int ((yw v5) + (1 : Int32))), (0, .ref v0), (1, .ref v1), (2, .int (yw v2)), (3, .int (yw v3)), (4, .ref v4)]) (st' := []) rfl ?_
      refine xZ.eqs (lv2 := [(5, .int (yw (v5 + 1))), (0, .ref v0), (1, .ref v1), (2, .int (yw v2)), (3, .int (yw v3)), (4, .ref v4)]) (st2 := []) (by simp only [yl_lit, yL_lit, yw_add, yw_sub, yw_mul, yw_neg, yl_add, yl_sub, yl_mul, cj_and, cj_or, cj_xor, cj_shl, cj_shr, cj_ushr, cj_div, cj_i2c, cj_i2b, cj_dc, ck_and, ck_or, ck_xor, ck_shl, ck_shr, ck_ushr, ck_i2l, ck_l2i, ck_cmp]) rfl ?_
      exact xZ.sub (xsc (.tail _ (.head _)) (xsc (.tail _ (.tail _ (.head _))) (xsc (.tail _ (.tail _ (.tail _ (.head _)))) (xsc (.tail _ (.tail _ (.tail _ (.tail _ (.head _))))) (xsc (.tail _ (.tail _ (.tail _ (.tail _ (.tail _ (.head _)))))) (xsc (.head _) xsn)))))) (show ([5, 0, 1, 2, 3, 4] : List Nat).Nodup from by decide) (ih v0 v1 v2 v3 v4 (v5 + 1) M4)
def f_Law_areLaid (O : Nat → Option va_E) (f : Nat) (v0 : Nat) (v1 : Nat) (M : xM) : Option (Int × xM) :=
  (isO O M v1 15).bind fun _ =>
  xcl (f_LDraw_n O f v1 400 M) fun x1 M1 =>
  (isO O M1 v1 15).bind fun _ =>
  xcl (f_LDraw_n O f v1 12 M1) fun x2 M2 =>
  xcl (f_Law_series O f v0 v1 (1 + x2) 3 (100 + x1) M2) fun x3 M3 =>
  xcl (nAJ M3 0 4) fun x4 M4 =>
  (isO O M4 v1 15).bind fun _ =>
  xcl (f_LDraw_n O f v1 10 M4) fun x5 M5 =>
  (wJ M5 x4 0 x5).bind fun M6 =>
  (isO O M6 v1 15).bind fun _ =>
  xcl (f_LDraw_n O f v1 10 M6) fun x6 M7 =>
  (wJ M7 x4 1 x6).bind fun M8 =>
  (isO O M8 v1 15).bind fun _ =>
  xcl (f_LDraw_n O f v1 3 M8) fun x7 M9 =>
  (wJ M9 x4 2 x7).bind fun M10 =>
  (wJ M10 x4 3 3).bind fun M11 =>
  f_Law_areLaid_65 O f f v0 v1 (100 + x1) x3 x4 0 M11
set_option maxRecDepth 20000 in
theorem k_f_Law_areLaid (O : Nat → Option va_E) (f d : Nat) (v0 : Nat) (v1 : Nat) (M : xM) : xZ oJ O (d + 9) 186 0 [(0, .ref v0), (1, .ref v1)] [] M (f_Law_areLaid O f v0 v1 M) := by
  unfold f_Law_areLaid
  refine xZ.adv (me := xm186) hP_186 3 (pc' := 6) (lv' := [(0, .ref v0), (1, .ref v1)]) (st' := [.int (400 : Int32), .ref v1, .int (100 : Int32)]) rfl ?_
  refine xZ.eqs (lv2 := [(0, .ref v0), (1, .ref v1)]) (st2 := [.int (yw 400), .ref v1, .int (yw 100)]) rfl (by simp only [yl_lit, yL_lit, yw_add, yw_sub, yw_mul, yw_neg, yl_add, yl_sub, yl_mul, cj_and, cj_or, cj_xor, cj_shl, cj_shr, cj_ushr, cj_div, cj_i2c, cj_i2b, cj_dc, ck_and, ck_or, ck_xor, ck_shl, ck_shr, ck_ushr, ck_i2l, ck_l2i, ck_cmp]) ?_
  refine xZ.callv (κ := oJ) (av := [.int (yw 400)]) (rest := [.int (yw 100)]) (st' := fun x1 => [.int (yw x1), .int (yw 100)]) (k0 := v1) (me := xm186) hP_186 rfl (Or.inl rfl) ⟨rfl, by decide⟩ rfl rfl (Nat.le_of_ble_eq_true rfl) (by decide) hP_12 (Nat.le_of_ble_eq_true rfl) (fun _ => rfl) (k_f_LDraw_n O f (d + 8) v1 400 M) (fun x1 M1 => ?_)
  refine xZ.adv (me := xm186) hP_186 7 (pc' := 17) (lv' := [(2, .int ((yw 100) + (yw x1))), (0, .ref v0), (1, .ref v1)]) (st' := [.int (12 : Int32), .ref v1, .int (1 : Int32), .ref v1, .ref v0]) rfl ?_
  refine xZ.eqs (lv2 := [(2, .int (yw (100 + x1))), (0, .ref v0), (1, .ref v1)]) (st2 := [.int (yw 12), .ref v1, .int (yw 1), .ref v1, .ref v0]) (by simp only [yl_lit, yL_lit, yw_add, yw_sub, yw_mul, yw_neg, yl_add, yl_sub, yl_mul, cj_and, cj_or, cj_xor, cj_shl, cj_shr, cj_ushr, cj_div, cj_i2c, cj_i2b, cj_dc, ck_and, ck_or, ck_xor, ck_shl, ck_shr, ck_ushr, ck_i2l, ck_l2i, ck_cmp]) (by simp only [yl_lit, yL_lit, yw_add, yw_sub, yw_mul, yw_neg, yl_add, yl_sub, yl_mul, cj_and, cj_or, cj_xor, cj_shl, cj_shr, cj_ushr, cj_div, cj_i2c, cj_i2b, cj_dc, ck_and, ck_or, ck_xor, ck_shl, ck_shr, ck_ushr, ck_i2l, ck_l2i, ck_cmp]) ?_
  refine xZ.callv (κ := oJ) (av := [.int (yw 12)]) (rest := [.int (yw 1), .ref v1, .ref v0]) (st' := fun x2 => [.int (yw x2), .int (yw 1), .ref v1, .ref v0]) (k0 := v1) (me := xm186) hP_186 rfl (Or.inl rfl) ⟨rfl, by decide⟩ rfl rfl (Nat.le_of_ble_eq_true rfl) (by decide) hP_12 (Nat.le_of_ble_eq_true rfl) (fun _ => rfl) (k_f_LDraw_n O f (d + 8) v1 12 M1) (fun x2 M2 => ?_)
  refine xZ.adv (me := xm186) hP_186 3 (pc' := 23) (lv' := [(2, .int (yw (100 + x1))), (0, .ref v0), (1, .ref v1)]) (st' := [.int (yw (100 + x1)), .int (3 : Int32), .int ((yw 1) + (yw x2)), .ref v1, .ref v0]) rfl ?_
  refine xZ.eqs (lv2 := [(2, .int (yw (100 + x1))), (0, .ref v0), (1, .ref v1)]) (st2 := [.int (yw (100 + x1)), .int (yw 3), .int (yw (1 + x2)), .ref v1, .ref v0]) rfl (by simp only [yl_lit, yL_lit, yw_add, yw_sub, yw_mul, yw_neg, yl_add, yl_sub, yl_mul, cj_and, cj_or, cj_xor, cj_shl, cj_shr, cj_ushr, cj_div, cj_i2c, cj_i2b, cj_dc, ck_and, ck_or, ck_xor, ck_shl, ck_shr, ck_ushr, ck_i2l, ck_l2i, ck_cmp]) ?_
  refine xZ.calls (κ := oJ) (av := [.ref v0, .ref v1, .int (yw (1 + x2)), .int (yw 3), .int (yw (100 + x1))]) (rest := []) (st' := fun x3 => [.int (yw x3)]) (me := xm186) hP_186 rfl rfl rfl (Nat.le_of_ble_eq_true rfl) (by decide) hP_146 (Nat.le_of_ble_eq_true rfl) (fun _ => rfl) (k_f_Law_series O f (d + 0) v0 v1 (1 + x2) 3 (100 + x1) M2) (fun x3 M3 => ?_)
  refine xZ.adv (me := xm186) hP_186 2 (pc' := 28) (lv' := [(3, .int (yw x3)), (2, .int (yw (100 + x1))), (0, .ref v0), (1, .ref v1)]) (st' := [.int (4 : Int32)]) rfl ?_
  refine xZ.eqs (lv2 := [(3, .int (yw x3)), (2, .int (yw (100 + x1))), (0, .ref v0), (1, .ref v1)]) (st2 := [.int (yw 4)]) rfl (by simp only [yl_lit, yL_lit, yw_add, yw_sub, yw_mul, yw_neg, yl_add, yl_sub, yl_mul, cj_and, cj_or, cj_xor, cj_shl, cj_shr, cj_ushr, cj_div, cj_i2c, cj_i2b, cj_dc, ck_and, ck_or, ck_xor, ck_shl, ck_shr, ck_ushr, ck_i2l, ck_l2i, ck_cmp]) ?_
  refine xZ.k_nAJ (me := xm186) hP_186 rfl rfl (by decide) (fun x4 M4 => ?_)
  refine xZ.adv (me := xm186) hP_186 4 (pc' := 35) (lv' := [(3, .int (yw x3)), (2, .int (yw (100 + x1))), (0, .ref v0), (1, .ref v1)]) (st' := [.int (10 : Int32), .ref v1, .int (0 : Int32), .ref x4, .ref x4]) rfl ?_
  refine xZ.eqs (lv2 := [(3, .int (yw x3)), (2, .int (yw (100 + x1))), (0, .ref v0), (1, .ref v1)]) (st2 := [.int (yw 10), .ref v1, .int (yw 0), .ref x4, .ref x4]) rfl (by simp only [yl_lit, yL_lit, yw_add, yw_sub, yw_mul, yw_neg, yl_add, yl_sub, yl_mul, cj_and, cj_or, cj_xor, cj_shl, cj_shr, cj_ushr, cj_div, cj_i2c, cj_i2b, cj_dc, ck_and, ck_or, ck_xor, ck_shl, ck_shr, ck_ushr, ck_i2l, ck_l2i, ck_cmp]) ?_
  refine xZ.callv (κ := oJ) (av := [.int (yw 10)]) (rest := [.int (yw 0), .ref x4, .ref x4]) (st' := fun x5 => [.int (yw x5), .int (yw 0), .ref x4, .ref x4]) (k0 := v1) (me := xm186) hP_186 rfl (Or.inl rfl) ⟨rfl, by decide⟩ rfl rfl (Nat.le_of_ble_eq_true rfl) (by decide) hP_12 (Nat.le_of_ble_eq_true rfl) (fun _ => rfl) (k_f_LDraw_n O f (d + 8) v1 10 M4) (fun x5 M5 => ?_)
  refine xZ.k_wJ (me := xm186) hP_186 rfl (fun M6 => ?_)
  refine xZ.adv (me := xm186) hP_186 4 (pc' := 44) (lv' := [(3, .int (yw x3)), (2, .int (yw (100 + x1))), (0, .ref v0), (1, .ref v1)]) (st' := [.int (10 : Int32), .ref v1, .int (1 : Int32), .ref x4, .ref x4]) rfl ?_
  refine xZ.eqs (lv2 := [(3, .int (yw x3)), (2, .int (yw (100 + x1))), (0, .ref v0), (1, .ref v1)]) (st2 := [.int (yw 10), .ref v1, .int (yw 1), .ref x4, .ref x4]) rfl (by simp only [yl_lit, yL_lit, yw_add, yw_sub, yw_mul, yw_neg, yl_add, yl_sub, yl_mul, cj_and, cj_or, cj_xor, cj_shl, cj_shr, cj_ushr, cj_div, cj_i2c, cj_i2b, cj_dc, ck_and, ck_or, ck_xor, ck_shl, ck_shr, ck_ushr, ck_i2l, ck_l2i, ck_cmp]) ?_
  refine xZ.callv (κ := oJ) (av := [.int (yw 10)]) (rest := [.int (yw 1), .ref x4, .ref x4]) (st' := fun x6 => [.int (yw x6), .int (yw 1), .ref x4, .ref x4]) (k0 := v1) (me := xm186) hP_186 rfl (Or.inl rfl) ⟨rfl, by decide⟩ rfl rfl (Nat.le_of_ble_eq_true rfl) (by decide) hP_12 (Nat.le_of_ble_eq_true rfl) (fun _ => rfl) (k_f_LDraw_n O f (d + 8) v1 10 M6) (fun x6 M7 => ?_)
  refine xZ.k_wJ (me := xm186) hP_186 rfl (fun M8 => ?_)
  refine xZ.adv (me := xm186) hP_186 4 (pc' := 52) (lv' := [(3, .int (yw x3)), (2, .int (yw (100 + x1))), (0, .ref v0), (1, .ref v1)]) (st' := [.int (3 : Int32), .ref v1, .int (2 : Int32), .ref x4, .ref x4]) rfl ?_
  refine xZ.eqs (lv2 := [(3, .int (yw x3)), (2, .int (yw (100 + x1))), (0, .ref v0), (1, .ref v1)]) (st2 := [.int (yw 3), .ref v1, .int (yw 2), .ref x4, .ref x4]) rfl (by simp only [yl_lit, yL_lit, yw_add, yw_sub, yw_mul, yw_neg, yl_add, yl_sub, yl_mul, cj_and, cj_or, cj_xor, cj_shl, cj_shr, cj_ushr, cj_div, cj_i2c, cj_i2b, cj_dc, ck_and, ck_or, ck_xor, ck_shl, ck_shr, ck_ushr, ck_i2l, ck_l2i, ck_cmp]) ?_
  refine xZ.callv (κ := oJ) (av := [.int (yw 3)]) (rest := [.int (yw 2), .ref x4, .ref x4]) (st' := fun x7 => [.int (yw x7), .int (yw 2), .ref x4, .ref x4]) (k0 := v1) (me := xm186) hP_186 rfl (Or.inl rfl) ⟨rfl, by decide⟩ rfl rfl (Nat.le_of_ble_eq_true rfl) (by decide) hP_12 (Nat.le_of_ble_eq_true rfl) (fun _ => rfl) (k_f_LDraw_n O f (d + 8) v1 3 M8) (fun x7 M9 => ?_)
  refine xZ.k_wJ (me := xm186) hP_186 rfl (fun M10 => ?_)
  refine xZ.adv (me := xm186) hP_186 3 (pc' := 59) (lv' := [(3, .int (yw x3)), (2, .int (yw (100 + x1))), (0, .ref v0), (1, .ref v1)]) (st' := [.int (3 : Int32), .int (3 : Int32), .ref x4, .ref x4]) rfl ?_
  refine xZ.eqs (lv2 := [(3, .int (yw x3)), (2, .int (yw (100 + x1))), (0, .ref v0), (1, .ref v1)]) (st2 := [.int (yw 3), .int (yw 3), .ref x4, .ref x4]) rfl (by simp only [yl_lit, yL_lit, yw_add, yw_sub, yw_mul, yw_neg, yl_add, yl_sub, yl_mul, cj_and, cj_or, cj_xor, cj_shl, cj_shr, cj_ushr, cj_div, cj_i2c, cj_i2b, cj_dc, ck_and, ck_or, ck_xor, ck_shl, ck_shr, ck_ushr, ck_i2l, ck_l2i, ck_cmp]) ?_
  refine xZ.k_wJ (me := xm186) hP_186 rfl (fun M11 => ?_)
  refine xZ.adv (me := xm186) hP_186 3 (pc' := 65) (lv' := [(5, .int (0 : Int32)), (4, .ref x4), (3, .int (yw x3)), (2, .int (yw (100 + x1))), (0, .ref v0), (1, .ref v1)]) (st' := []) rfl ?_
  refine xZ.eqs (lv2 := [(5, .int (yw 0)), (4, .ref x4), (3, .int (yw x3)), (2, .int (yw (100 + x1))), (0, .ref v0), (1, .ref v1)]) (st2 := []) (by simp only [yl_lit, yL_lit, yw_add, yw_sub, yw_mul, yw_neg, yl_add, yl_sub, yl_mul, cj_and, cj_or, cj_xor, cj_shl, cj_shr, cj_ushr, cj_div, cj_i2c, cj_i2b, cj_dc, ck_and, ck_or, ck_xor, ck_shl, ck_shr, ck_ushr, ck_i2l, ck_l2i, ck_cmp]) rfl ?_
  exact xZ.sub (xsc (.tail _ (.tail _ (.tail _ (.tail _ (.head _))))) (xsc (.tail _ (.tail _ (.tail _ (.tail _ (.tail _ (.head _)))))) (xsc (.tail _ (.tail _ (.tail _ (.head _)))) (xsc (.tail _ (.tail _ (.head _))) (xsc (.tail _ (.head _)) (xsc (.head _) xsn)))))) (show ([5, 4, 3, 2, 0, 1] : List Nat).Nodup from by decide) (k_f_Law_areLaid_65 O f d f v0 v1 (100 + x1) x3 x4 0 M11)
