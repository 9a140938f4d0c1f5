/-! draft 617.isplanned -/
section
/-! ===== the law of plans holds ===== -/
theorem VP.cong {b ln ln' : Nat → Int} {tk tk' : Nat → Nat → Prop} {lo hi : Int} {n : Nat} {g : Nat → Int} (h : VP b ln tk lo hi n g) (hl : ∀ i, i < n → ln' i = ln i) (ht : ∀ i j, i < n → j < n → (tk' i j ↔ tk i j)) : VP b ln' tk' lo hi n g := fun i hi' => by
  obtain ⟨h1, h2, h3, h4⟩ := h i hi'
  refine ⟨h1, h2, h3, fun ⟨j, j1, j2, j3, j4⟩ => h4 ⟨j, j1, ?_, ?_, (ht j i (by omega) hi').mp j4⟩⟩
  · rw [← hl i hi']
    exact j2
  · rw [← hl j (by omega)]
    exact j3
section IPL
variable {O : Nat → Option va_E} {f m n : Nat} {M N : xM} {A : List Int} {lo hi fd v : Int}
/-- from the plan on -/
theorem ip_plan (h : PLd M m fd) (hm : m ≤ 4) (a : AL M m lo hi A) (ls : LTs n M) (lv : LTv n M A) (mv : MV O) (l0 : 14400 ≤ lo) (l1 : lo < hi) (l2 : hi ≤ 150000000) (l3 : hi - lo ≤ 10080) (hv : lst (CPl (fun i => rM (A.getD i 0)) (lnA M A) (shr M A) lo hi A.length 0 (fun _ => 0)) v) (hM : M.1 ≤ 1100) (hM2 : M.2.1 ≤ 100000) (hn : n + 5 ≤ M.1) (hf : 10000 ≤ f) : ∃ v' N, f_Calendarhall_plan O f 1 4095 lo hi M = some (v', N) ∧ v' = v ∧ (v = -1 → N.1 = M.1 ∧ N.2.1 = M.2.1) ∧ (v ≠ -1 → ∃ M', f_Law_isPlanned_218 O f f 1 n v 0 0 N = some (1, M') ∧ M'.1 ≤ 2000 ∧ M'.2.1 ≤ 200000) := by
  have h4 := pl_len h (by omega) a
  obtain ⟨v', N, e1, u1, l', pk⟩ := plan_ok (O := O) (f := f) h.1 (by omega) a (by omega) (fun k hk => (h.2.1 k hk).2.2.2.2.2.2) mv l0 l1 l2 l3 hf
  have ev : v' = v := lst_uniq (fun c hc => (CPl.pos _ _ _ _ hc).1) l' hv
  subst ev
  refine ⟨v', N, e1, rfl, fun _ => ⟨u1.1.1, u1.1.2.1⟩, fun hv' => ?_⟩
  obtain ⟨k0, k1, k2, k3⟩ := pk
  rw [if_neg hv'] at k0
  obtain ⟨vp, sv⟩ := k3 hv'
  have iv : ∀ b j, b < 116 → iV N b j = iV M b j := fun b j hb => u1.i (Or.inl hb)
  have bN : Bs N := h.1.1.un u1 (by unfold PG; omega) (fun j hj => by unfold PG; omega)
  have hN : PLd N m fd := h.un (by omega) u1 bN (fun a p q => by unfold PG; omega)
  have aN : AL N m lo hi A := a.of h.1 (by omega) (fun b j p q => iv b j q)
  have n1 := ls.1
  have hrn : ∀ y, y ∈ A → rN y < 12 := fun y hy => by
    have := a.b h.1 (by omega) hy
    omega
  have lsN : LTs n N := ls.sm u1.1
  have lvN : LTv n N A := lv.kp ls u1.kp (fun a p q => by unfold PG; omega) (fun a p q => by unfold PG; omega) hrn
  have vpN : VP (fun i => rM (A.getD i 0)) (lnA N A) (shr N A) lo hi A.length (iV N 131) := vp.cong (fun i hi' => by
    have b := a.b h.1 (by omega) (getD_mem hi')
    unfold lnA
    rw [iv _ _ (by omega)]) (fun i j hi' hj => by
    have bi := a.b h.1 (by omega) (getD_mem hi')
    have bj := a.b h.1 (by omega) (getD_mem hj)
    unfold shr tp
    rw [iv _ _ (by omega), iv (29 + 6 * (rN (A.getD j 0)).toNat) _ (by omega)]
    constructor
    · rintro ⟨p, p1, p2, p3⟩
      rw [iv _ _ (by omega)] at p2 p3
      exact ⟨p, p1, p2, p3⟩
    · rintro ⟨p, p1, p2, p3⟩
      refine ⟨p, p1, ?_, ?_⟩
      · rw [iv _ _ (by omega)]
        exact p2
      · rw [iv _ _ (by omega)]
        exact p3)
  have pq : PQ N m fd lo hi A := ⟨hN, aN, by omega, k1, k2, fun i hi' => ⟨(vpN i hi').2.1, (vpN i hi').2.2.1⟩⟩
  have lw : LWp N m n fd lo hi A v' := ⟨pq, k0, lsN, lvN, vpN, sv⟩
  have wN := bN.1
  obtain ⟨t1, e2⟩ := lv_218 (O := O) (f := f) lw (by omega) (by omega) l2 (by omega) A.length f 0 (by omega) (by omega)
  have sN : N.1 = M.1 ∧ N.2.1 = M.2.1 := ⟨u1.1.1, u1.1.2.1⟩
  have mM := wN.1
  obtain ⟨N1, e3, x3, ar3, z3, c3, s3⟩ := ar_new (x := (A.length : Int)) (M := N) (by omega) (by omega) (by omega)
  rw [show ((A.length : Int)).toNat = A.length by omega] at ar3 s3
  have kp3 : Kp (fun _ => True) N N1 := x3.kp
  have b3 : Bs N1 := bN.kp kp3 (by omega) trivial (fun _ _ => trivial)
  have i3 : ∀ b j, b < N.1 → iV N1 b j = iV N b j := fun b j hb => kp3.i hb trivial
  have l3v : ∀ b j, b < N.1 → lV N1 b j = lV N b j := fun b j hb => kp3.l hb trivial
  have h3 : PLd N1 m fd := hN.kp (by omega) kp3 b3 (fun _ _ _ => trivial)
  have a3 : AL N1 m lo hi A := aN.of hN.1 (by omega) (fun b j p q => i3 b j (by omega))
  have ls3 : LTs n N1 := lsN.kp kp3 (by omega)
  have lv3 : LTv n N1 A := lvN.kp lsN kp3 (fun _ _ _ => trivial) (fun _ _ _ => trivial) hrn
  have g3 : iV N1 131 = iV N 131 := funext (fun i => i3 131 i (by omega))
  have vp3 : VP (fun i => rM (A.getD i 0)) (lnA N1 A) (shr N1 A) lo hi A.length (iV N1 131) := by
    rw [g3]
    refine vpN.cong (fun i hi' => ?_) (fun i j hi' hj => ?_)
    · have b := a.b h.1 (by omega) (getD_mem hi')
      unfold lnA
      rw [i3 _ _ (by omega)]
    · have bi := a.b h.1 (by omega) (getD_mem hi')
      have bj := a.b h.1 (by omega) (getD_mem hj)
      unfold shr tp
      rw [i3 _ _ (by omega), i3 (29 + 6 * (rN (A.getD j 0)).toNat) _ (by omega)]
      constructor
      · rintro ⟨p, p1, p2, p3⟩
        rw [i3 _ _ (by omega)] at p2 p3
        exact ⟨p, p1, p2, p3⟩
      · rintro ⟨p, p1, p2, p3⟩
        refine ⟨p, p1, ?_, ?_⟩
        · rw [i3 _ _ (by omega)]
          exact p2
        · rw [i3 _ _ (by omega)]
          exact p3
  have pq3 : PQ N1 m fd lo hi A := ⟨h3, a3, by omega, by rw [i3 _ _ (by omega)]; exact k1, fun i hi' => by rw [l3v _ _ (by omega)]; exact k2 i hi', fun i hi' => ⟨(vp3 i hi').2.1, (vp3 i hi').2.2.1⟩⟩
  have lw3 : LWp N1 m n fd lo hi A v' := ⟨pq3, by rw [i3 _ _ (by omega)]; exact k0, ls3, lv3, vp3, by rw [g3]; exact sv⟩
  obtain ⟨t4, N4, e4, u4, f4⟩ := lv_451 (O := O) (f := f) lw3 (by omega) (by omega) l2 ar3 (by omega) (Or.inr (by omega)) A.length f 0 N1 (by omega) (by omega) Un.rf (fun i hi' => absurd hi' (Nat.not_lt_zero _))
  have b4 : Bs N4 := b3.un u4 (by (try dsimp only); omega) (fun j hj => by (try dsimp only); omega)
  have pq4 : PQ N4 m fd lo hi A := pq3.un (by omega) u4 b4 (fun a p q => by (try dsimp only); omega) (by (try dsimp only); omega)
  have m4 : mvB N4 A = mvB N1 A := funext (fun i => by unfold mvB; rw [u4.i (by (try dsimp only); omega)])
  obtain ⟨N5, e5, u5, f5⟩ := applyPlan_ok (O := O) (f := f) pq4 (by rw [u4.i (by (try dsimp only); omega)]; exact lw3.2.1) (by omega) l0 l2 (by omega)
  rw [m4] at e5
  have w4 := b4.1
  have w5 := u5.wd w4
  have ls4 : LTs n N4 := ls3.sm u4.1
  have ls5 : LTs n N5 := ls4.sm u5.1
  have i45 : ∀ b j, 1044 ≤ b → iV N5 b j = iV N4 b j := fun b j hb => u5.i (Or.inr hb)
  have i34 : ∀ b j, b ≠ N.1 → iV N4 b j = iV N1 b j := fun b j hb => u4.i hb
  have e6 := lv_519 (O := O) (f := f) (rc := N.1) (g := iV N4 131) w5 ls5 (by rw [i45 _ _ (by omega), i34 _ _ (by omega)]; exact lv3.1) (fun i hi' => by
    have g := lv3.2.2 i hi'
    rw [i45 _ _ (by omega), i34 _ _ (by omega), i45 _ _ (by omega), i34 _ _ (by omega)]
    exact ⟨g.1, g.2.1⟩) (by omega) ((ar3.un u4).un u5) (fun i hi' => by
    rw [i45 _ _ (by omega), f4 i hi', u4.i (show (131 : Nat) ≠ N.1 by omega)]) f5 A.length f 0 (by omega) (by omega)
  refine ⟨N5, ?_, ?_, ?_⟩
  · have e2' : f_Law_isPlanned_218 O f f 1 n v' 0 0 N = f_Law_isPlanned_218 O f (t1 + 1) 1 n v' v' (A.length : Int) N := e2
    have e4' : f_Law_isPlanned_451 O f f 1 n 0 N.1 0 N1 = f_Law_isPlanned_451 O f (t4 + 1) 1 n ((ctN (mvB N1 A) A.length : Nat) : Int) N.1 (A.length : Int) N4 := e4
    rw [e2']
    show (gJ O N n 13 4).bind _ = _
    rw [lsN.gJ, lvN.1, le_T (by omega) (by omega) (by omega), eq_T rfl, lsN.gJ, lvN.1, e3, xcl_e, e4']
    show (gJ O N4 n 13 4).bind _ = _
    rw [ls4.gJ, i34 _ _ (by omega), lv3.1, le_T (by omega) (by omega) (by omega), a_Cal_is w4, e5, xcl_e, eq_T rfl]
    exact e6
  · rw [u5.1.1, u4.1.1]
    omega
  · rw [u5.1.2.1, u4.1.2.1]
    omega
theorem isPlanned_ok (h : St0 M) (mv : MV O) (hf : 10000 ≤ f) : ∃ M', f_Law_isPlanned O f 1 0 M = some (1, M') ∧ M'.1 ≤ 2000 ∧ M'.2.1 ≤ 200000 := by
  have hsr0 : ∀ fd : Int, SR M 0 fd := fun fd => h.sr
  obtain ⟨hw, hM, hM2, -, -, -, hzo, -⟩ := h
  obtain ⟨x1, M1, e1, x10, x11, w1, u1, i1⟩ := dn_ok (O := O) (f := f) (m := 400) hw (by omega) (by omega)
  obtain ⟨x2, M2, e2, x20, x21, w2, u2, i2⟩ := dn_ok (O := O) (f := f) (m := 3) w1 (by omega) (by omega)
  have u12 := u1.tr u2
  obtain ⟨fd, efd⟩ : ∃ fd, fd = 100 + x1 := ⟨_, rfl⟩
  have b2 : Bs M2 := (hsr0 fd).1.un u12 (by (try dsimp only); omega) (fun j hj => by (try dsimp only); omega)
  have R2 : SR M2 0 fd := (hsr0 fd).un (by omega) u12 b2 (fun a h1 h2 => by (try dsimp only); omega)
  obtain ⟨m, em⟩ : ∃ m : Nat, (m : Int) = 2 + x2 := ⟨(2 + x2).toNat, by omega⟩
  have hm : m ≤ 4 := by omega
  have z0 := hzo 0 (by decide)
  have P2 : PLd M2 0 fd := ⟨R2, fun k hk => absurd hk (Nat.not_lt_zero _), by rw [u12.i (by (try dsimp only); omega)]; exact z0.1, by rw [u12.i (by (try dsimp only); omega)]; exact z0.2.1⟩
  obtain ⟨t3, M3, e3, P3', u3⟩ := pl_22 (O := O) (f := f) (m := m) (by omega) (by omega) hm (by omega) m f 0 M2 P2 (by omega) (by omega)
  have w3 := P3'.1.1.1
  have c3 : M3.1 = 1044 := by rw [u3.1.1, u12.1.1]; exact hM
  have s3 : M3.2.1 = M.2.1 := by rw [u3.1.2.1, u12.1.2.1]
  obtain ⟨x4, M4, e4, x40, x41, w4, u4, i4⟩ := dn_ok (O := O) (f := f) (m := 9) w3 (by omega) (by omega)
  obtain ⟨x5, M5, e5, x50, x51, w5, u5, i5⟩ := dn_ok (O := O) (f := f) (m := 10) w4 (by omega) (by omega)
  have u45 := u4.tr u5
  have b5 : Bs M5 := P3'.1.1.un u45 (by (try dsimp only); omega) (fun j hj => by (try dsimp only); omega)
  have P5 : PLd M5 m fd := P3'.un (by omega) u45 b5 (fun a h1 h2 => by (try dsimp only); omega)
  obtain ⟨lo, elo⟩ : ∃ lo, lo = 1440 * fd + 60 * x4 := ⟨_, rfl⟩
  obtain ⟨hi, ehi⟩ : ∃ hi, hi = 1440 * fd + 700 + 60 * x5 := ⟨_, rfl⟩
  have s5 : M5.1 = M3.1 ∧ M5.2.1 = M3.2.1 := ⟨u45.1.1, u45.1.2.1⟩
  obtain ⟨N6, M6, A, e6, e7, x6, k6, s6, ls, lv, hA⟩ := ldates_ok (O := O) (f := f) (m := m) (lo := lo) (hi := hi) P5.1.hs (by omega) (by omega) (fun j hj => (P5.1.2.2.1 j hj).1.1) (by omega) (by omega) (by omega) (by omega) (fun k hk d hd hbg p q => by
    have := hcov_ok P5.1 (by omega) hk hd hbg
    omega) hf
  have kp6 : Kp (fun _ => True) M5 M6 := x6.kp
  have b6 : Bs M6 := b5.kp kp6 (by omega) trivial (fun _ _ => trivial)
  have P6 : PLd M6 m fd := P5.kp (by omega) kp6 b6 (fun _ _ _ => trivial)
  have sA : srt A := lv.2.1
  have a5 : AL M5 m lo hi A := ⟨sA, hA⟩
  have a6 : AL M6 m lo hi A := a5.of P5.1 (by omega) (fun b j p q => kp6.i (by omega) trivial)
  have h4 := pl_len P6 (by omega) a6
  have hrn : ∀ y, y ∈ A → rN y < 12 := fun y hy => by
    have := a6.b P6.1 (by omega) hy
    omega
  rw [show M5.1 = 1044 by omega] at e6 e7 ls lv
  obtain ⟨M7, e8, x8, ar8, z8, k8, s8⟩ := ar_new (x := (A.length : Int)) (M := M6) (by omega) (by omega) (by omega)
  rw [show M6.1 = 1049 by omega] at e8 ar8 z8
  rw [show ((A.length : Int)).toNat = A.length by omega] at ar8 s8
  have kp8 : Kp (fun _ => True) M6 M7 := x8.kp
  have b8 : Bs M7 := b6.kp kp8 (by omega) trivial (fun _ _ => trivial)
  have P8' : PLd M7 m fd := P6.kp (by omega) kp8 b8 (fun _ _ _ => trivial)
  have a8 : AL M7 m lo hi A := a6.of P6.1 (by omega) (fun b j p q => kp8.i (by omega) trivial)
  have ls8 : LTs 1044 M7 := ls.kp kp8 (by omega)
  have lv8 : LTv 1044 M7 A := lv.kp ls kp8 (fun _ _ _ => trivial) (fun _ _ _ => trivial) hrn
  have lq : LQ M7 m 1044 1049 fd lo hi A := ⟨P8'.1, a8, ls8, lv8, ar8, by omega, by omega, Or.inr (by omega)⟩
  obtain ⟨v, M9, e9, u9, -, hl, v0, v1⟩ := least_ok (O := O) (f := f) lq (by omega) (by omega) (by omega) (a := lo) (b := hi) (by omega) (by omega) (by omega) (by omega) (by omega) A.length 64 0 M7 (by omega) (by omega) Un.rf (fun i hi' => absurd hi' (Nat.not_lt_zero _))
  have b9 : Bs M9 := b8.un u9 (by (try dsimp only); omega) (fun j hj => by (try dsimp only); omega)
  have P9 : PLd M9 m fd := P8'.un (by omega) u9 b9 (fun a h1 h2 => by (try dsimp only); omega)
  have a9 : AL M9 m lo hi A := a8.of P8'.1 (by omega) (fun b j p q => u9.i (by (try dsimp only); omega))
  have ls9 : LTs 1044 M9 := ls8.sm u9.1
  have lv9 : LTv 1044 M9 A := lv8.kp ls8 u9.kp (fun a p q => by (try dsimp only); omega) (fun a p q => by (try dsimp only); omega) hrn
  have le9 : lnA M9 A = lnA M7 A := funext (fun i => by
    have r1 : 0 ≤ rN (A.getD i 0) ∧ rN (A.getD i 0) < 16 := ⟨Int.emod_nonneg _ (by decide), Int.emod_lt_of_pos _ (by decide)⟩
    exact u9.i (by (try dsimp only); omega))
  have se9 : shr M9 A = shr M7 A := funext (fun i => funext (fun j => by
    have r1 : 0 ≤ rN (A.getD i 0) ∧ rN (A.getD i 0) < 16 := ⟨Int.emod_nonneg _ (by decide), Int.emod_lt_of_pos _ (by decide)⟩
    have r2 : 0 ≤ rN (A.getD j 0) ∧ rN (A.getD j 0) < 16 := ⟨Int.emod_nonneg _ (by decide), Int.emod_lt_of_pos _ (by decide)⟩
    have iv : ∀ b p, b < 1044 → iV M9 b p = iV M7 b p := fun b p hb => u9.i (by (try dsimp only); omega)
    unfold shr tp
    simp (disch := omega) only [iv]))
  have hl9 : lst (CPl (fun i => rM (A.getD i 0)) (lnA M9 A) (shr M9 A) lo hi A.length 0 (fun _ => 0)) v := by
    rw [le9, se9]
    rcases hl with ⟨q1, q2⟩ | ⟨q1, q2⟩
    · exact Or.inl ⟨q1, fun c hc => q2 c (CPl.ext _ _ _ _ _ (fun i hi' => absurd hi' (Nat.not_lt_zero _)) hc)⟩
    · exact Or.inr ⟨CPl.ext _ _ _ _ _ (fun i hi' => absurd hi' (Nat.not_lt_zero _)) q1, fun c hc => q2 c (CPl.ext _ _ _ _ _ (fun i hi' => absurd hi' (Nat.not_lt_zero _)) hc)⟩
  have w9 := b9.1
  have c9 : M9.1 = 1050 := by rw [u9.1.1]; omega
  have s9 : M9.2.1 ≤ 50000 := by rw [u9.1.2.1]; omega
  obtain ⟨v', M10, e10, ev, hm1, hm2⟩ := ip_plan (O := O) (f := f) (n := 1044) P9 hm a9 ls9 lv9 mv (by omega) (by omega) (by omega) (by omega) hl9 (by omega) (by omega) (by omega) hf
  subst ev
  have front : ∀ R : Option (Int × xM), (if yw v' = yw v' then (if yw v' = yw (-1) then some (1, M10) else f_Law_isPlanned_218 O f f 1 1044 v' 0 0 M10) else some (0, M10)) = R → f_Law_isPlanned O f 1 0 M = R := by
    intro R hR
    have e3' : f_Law_isPlanned_22 O f f 1 0 fd (m : Int) 0 M2 = f_Law_isPlanned_22 O f (t3 + 1) 1 0 fd (m : Int) (m : Int) M3 := e3
    unfold f_Law_isPlanned
    rw [hw.is (k := 0) (ci := 15) (by decide) (by decide), e1, xcl_e, w1.is (k := 0) (ci := 15) (by decide) (by decide), e2, xcl_e, ← em, ← efd, e3']
    show (if yw (m : Int) ≤ yw (m : Int) then _ else _) = _
    have e9' : f_Law_least O f 64 1 1044 1049 0 lo hi M7 = some (v', M9) := e9
    rw [le_T (by omega) (by omega) (by omega), w3.is (k := 0) (ci := 15) (by decide) (by decide), e4, xcl_e, w4.is (k := 0) (ci := 15) (by decide) (by decide), e5, xcl_e, xlet_e, ← elo, ← ehi, lt_T (by omega) (by omega) (by omega), e6, xcl_e, e7, xcl_e, ls.gJ, lv.1, e8, xcl_e, e9', xcl_e, a_Cal_is w9, e10, xcl_e]
    exact hR
  by_cases g : v' = -1
  · refine ⟨M10, front _ ?_, by have := hm1 g; omega, by have := hm1 g; omega⟩
    rw [eq_T rfl, eq_T g]
  · obtain ⟨M', e', z1, z2⟩ := hm2 g
    refine ⟨M', front _ ?_, z1, z2⟩
    rw [eq_T rfl, eq_F g (by omega) (by omega) (by omega) (by omega)]
    exact e'
end IPL
end
/-! draft 620.summer -/
section
/-! ===== summer by the switches that a new zone has, from day 90 to day 529 ===== -/
def m620 (n : Nat) : Bool := decide ((n + 90 ≤ 90 → cMonth (n + 90) = 2) ∧ (91 ≤ n + 90 ∧ n + 90 ≤ 243 → 3 ≤ cMonth (n + 90) ∧ cMonth (n + 90) ≤ 7) ∧ (244 ≤ n + 90 ∧ n + 90 ≤ 273 → cMonth (n + 90) = 8) ∧ (274 ≤ n + 90 ∧ n + 90 ≤ 304 → cMonth (n + 90) = 9) ∧ (305 ≤ n + 90 ∧ n + 90 ≤ 396 → 10 ≤ cMonth (n + 90) ∧ cMonth (n + 90) ≤ 12) ∧ (397 ≤ n + 90 ∧ n + 90 ≤ 424 → cMonth (n + 90) = 13) ∧ (425 ≤ n + 90 ∧ n + 90 ≤ 455 → cMonth (n + 90) = 14) ∧ (456 ≤ n + 90 → 15 ≤ cMonth (n + 90) ∧ cMonth (n + 90) ≤ 17))
theorem m620_ok : ∀ n : Nat, n < 440 → m620 n = true := by decide +kernel
theorem mon_at {d : Int} (h0 : 90 ≤ d) (h1 : d < 530) : (d ≤ 90 → cMonth d = 2) ∧ (91 ≤ d ∧ d ≤ 243 → 3 ≤ cMonth d ∧ cMonth d ≤ 7) ∧ (244 ≤ d ∧ d ≤ 273 → cMonth d = 8) ∧ (274 ≤ d ∧ d ≤ 304 → cMonth d = 9) ∧ (305 ≤ d ∧ d ≤ 396 → 10 ≤ cMonth d ∧ cMonth d ≤ 12) ∧ (397 ≤ d ∧ d ≤ 424 → cMonth d = 13) ∧ (425 ≤ d ∧ d ≤ 455 → cMonth d = 14) ∧ (456 ≤ d → 15 ≤ cMonth d ∧ cMonth d ≤ 17) := by
  obtain ⟨n, hn⟩ : ∃ n : Nat, d = (n : Int) + 90 := ⟨(d - 90).toNat, by omega⟩
  have q := of_decide_eq_true (m620_ok n (by omega))
  subst hn
  refine ⟨fun z => q.1 (by omega), fun z => q.2.1 (by omega), fun z => q.2.2.1 (by omega), fun z => q.2.2.2.1 (by omega), fun z => q.2.2.2.2.1 (by omega), fun z => q.2.2.2.2.2.1 (by omega), fun z => q.2.2.2.2.2.2.1 (by omega), fun z => q.2.2.2.2.2.2.2 (by omega)⟩
theorem sW_2 : sW 5 6 120 2 = 85 * 1440 + 120 := by decide
theorem sW_9 : sW 5 6 120 9 = 302 * 1440 + 120 := by decide
theorem sW_14 : sW 5 6 120 14 = 449 * 1440 + 120 := by decide
/-- a zone with the switches that it began with -/
def ZD (M : xM) (k : Nat) : Prop := Zv M k ∧ iV M (13 + 3 * k) 0 = 3 ∧ iV M (13 + 3 * k) 1 = 5 ∧ iV M (13 + 3 * k) 2 = 6 ∧ iV M (13 + 3 * k) 3 = 120 ∧ iV M (14 + 3 * k) 0 = 10 ∧ iV M (14 + 3 * k) 1 = 5 ∧ iV M (14 + 3 * k) 2 = 6 ∧ iV M (14 + 3 * k) 3 = 120
/-- summer's begin and end there -/
def su (s : Int) : Int := if s < 434880 + 120 ∨ 646560 + 120 ≤ s then 1 else 0
section SUM
variable {O : Nat → Option va_E} {f k : Nat} {M N : xM} {s x : Int}
theorem ZD.of (h : ZD M k) (e : ∀ a j, 12 + 3 * k ≤ a → a < 15 + 3 * k → iV N a j = iV M a j) : ZD N k := by
  obtain ⟨z, h⟩ := h
  refine ⟨z.of e, ?_⟩
  simp (disch := omega) only [e]
  exact h
theorem sm_su (h : ZD M k) (s0 : 129600 ≤ s) (s1 : s < 763200) : sm M k s = if iV M (12 + 3 * k) 1 = 0 then 0 else su s := by
  obtain ⟨-, a0, a1, a2, a3, b0, b1, b2, b3⟩ := h
  have q := mon_at (d := s / 1440) (by omega) (by omega)
  unfold sm sR
  rw [a0, a1, a2, a3, b0, b1, b2, b3]
  by_cases g : iV M (12 + 3 * k) 1 = 0
  · rw [if_pos g, if_pos g]
  · rw [if_neg g, if_neg g]
    generalize hm : cMonth (s / 1440) = m at q
    have w2 := sW_2
    have w9 := sW_9
    have w14 := sW_14
    unfold su
    by_cases c1 : m % 12 + 1 = 3
    · rw [if_pos c1]
      have : m = 2 ∨ m = 14 := by omega
      rcases this with rfl | rfl
      · rw [w2, if_neg (by omega), if_pos (by omega)]
      · rw [w14]
        by_cases c2 : s < 449 * 1440 + 120
        · rw [if_pos c2, if_neg (by omega)]
        · rw [if_neg c2, if_pos (by omega)]
    · rw [if_neg c1]
      by_cases c3 : m % 12 + 1 = 10
      · rw [if_pos c3]
        obtain rfl : m = 9 := by omega
        rw [w9]
        by_cases c2 : s < 302 * 1440 + 120
        · rw [if_pos c2, if_pos (by omega)]
        · rw [if_neg c2, if_neg (by omega)]
      · rw [if_neg c3]
        by_cases c4 : min 3 10 < m % 12 + 1 ∧ m % 12 + 1 < max 3 10
        · rw [if_pos c4, if_pos (by omega), if_pos (by omega)]
        · rw [if_neg c4, if_pos (by omega), if_neg (by omega)]
theorem loc_su (h : ZD M k) (s0 : 131000 ≤ x) (s1 : x < 762000) : loc M k x = x + iV M (12 + 3 * k) 0 + su (x + iV M (12 + 3 * k) 0) * iV M (12 + 3 * k) 1 := by
  have hz := h.1
  obtain ⟨o0, o1, h0, h1, -, -⟩ := hz
  unfold loc
  rw [sm_su h (by omega) (by omega)]
  by_cases g : iV M (12 + 3 * k) 1 = 0
  · rw [if_pos g, if_pos rfl, g]
    omega
  · rw [if_neg g]
    unfold su
    by_cases c : x + iV M (12 + 3 * k) 0 < 434880 + 120 ∨ 646560 + 120 ≤ x + iV M (12 + 3 * k) 0
    · rw [if_pos c, if_neg (by decide)]
      omega
    · rw [if_neg c, if_pos rfl]
      omega
theorem ns_103 {K : Nat → Int → Int → Int → xM → Option (Int × xM)} {a m j : Int} (w : Wd M) (hk : k < 3) (s0 : 0 ≤ s) (s1 : s ≤ 1000000000) (a0 : 0 ≤ a) (a1 : a ≤ 1000000000) : f_Zone_nextSwitch_103 O f K (12 + 3 * k) s m j a M = if s < a ∧ a < 1000000000 then some (a - iV M (12 + 3 * k) 0, M) else K (12 + 3 * k) s m (j + 1) M := by
  unfold f_Zone_nextSwitch_103
  by_cases g1 : a ≤ s
  · rw [le_T g1 (by omega) (by omega), if_neg (by omega)]
  · rw [le_F (by omega) (by omega) (by omega)]
    by_cases g2 : 1000000000 ≤ a
    · rw [le_T g2 (by omega) (by omega), if_neg (by omega)]
    · rw [le_F (by omega) (by omega) (by omega), if_pos (by omega), a_Zone_offset w hk]
theorem ns_31 {m j : Int} {t : Nat} (w : Wd M) (hk : k < 3) (h : ZD M k) (m0 : 0 ≤ m) (m1 : m ≤ 17) (j0 : 0 ≤ j) (j1 : j < 2) : f_Zone_nextSwitch_31 O f (t + 1) (12 + 3 * k) s m j M = f_Zone_nextSwitch_103 O f (f_Zone_nextSwitch_31 O f t) (12 + 3 * k) s m j (if (m + j) % 12 + 1 = 3 ∨ (m + j) % 12 + 1 = 10 then sW 5 6 120 (m + j) else 1000000000) M := by
  have hz := h.1
  obtain ⟨-, -, -, -, rF, rB⟩ := hz
  obtain ⟨-, a0, a1, a2, a3, b0, b1, b2, b3⟩ := h
  have bF : inM M (13 + 3 * k) := w.b (by omega)
  have bB : inM M (14 + 3 * k) := w.b (by omega)
  have sF : mS M (13 + 3 * k) = .inr (0, 4) := (w.s (by omega)).trans (shp_Zone_forth hk)
  have sB : mS M (14 + 3 * k) = .inr (0, 4) := (w.s (by omega)).trans (shp_Zone_back hk)
  have eF : sR M (13 + 3 * k) (m + j) = sW 5 6 120 (m + j) := by unfold sR; rw [a1, a2, a3]
  have eB : sR M (14 + 3 * k) (m + j) = sW 5 6 120 (m + j) := by unfold sR; rw [b1, b2, b3]
  show (if yw 2 ≤ yw j then _ else _) = _
  rw [le_F (by omega) (by omega) (by omega), xlet_e, jrem_e (by omega) (by omega) (by omega) (by omega), a_Zone_forth w hk, r_Zone_forth w hk (by omega) (by omega), show ((0 : Int)).toNat = 0 from rfl, a0]
  by_cases c1 : (m + j) % 12 + 1 = 3
  · rw [eq_T c1, a_Zone_forth w hk, xc_of (e_switchIn bF sF (by omega) (by omega) rF), eF, if_pos (Or.inl c1)]
  · rw [eq_F c1 (by omega) (by omega) (by omega) (by omega), a_Zone_back w hk, r_Zone_back w hk (by omega) (by omega), show ((0 : Int)).toNat = 0 from rfl, b0]
    by_cases c2 : (m + j) % 12 + 1 = 10
    · rw [eq_T c2, a_Zone_back w hk, xc_of (e_switchIn bB sB (by omega) (by omega) rB), eB, if_pos (Or.inr c2)]
    · rw [eq_F c2 (by omega) (by omega) (by omega) (by omega), if_neg (by omega)]
/-- no switch ahead of the next one that is told, within a day -/
theorem nextSwitch_ok (w : Wd M) (hk : k < 3) (h : ZD M k) (x0 : 131000 ≤ x) (x1 : x < 760000) (hf : 5 ≤ f) : ∃ r, f_Zone_nextSwitch O f (12 + 3 * k) x M = some (r, M) ∧ x < r ∧ r ≤ 1000000000 ∧ ∀ y, x ≤ y → y < r → y ≤ x + 1440 → loc M k y = loc M k x + (y - x) := by
  have hz := h.1
  obtain ⟨o0, o1, h0, h1, -, -⟩ := hz
  unfold f_Zone_nextSwitch
  rw [a_Zone_shift w hk]
  by_cases g : iV M (12 + 3 * k) 1 = 0
  · rw [eq_T g]
    refine ⟨1000000000, rfl, by omega, by omega, fun y y0 y1 y2 => ?_⟩
    rw [loc_su h (by omega) (by omega), loc_su h (by omega) (by omega), g]
    omega
  · obtain ⟨t, rfl⟩ : ∃ t, f = t + 1 + 1 + 1 := ⟨f - 3, by omega⟩
    rw [eq_F g (by omega) (by omega) (by omega) (by omega), a_Zone_offset w hk, xc_of (e_floorDiv (by omega) (by omega) (by omega) (by omega)), xc_of (e_monthOf (by omega) (by omega))]
    have q := mon_at (d := (x + iV M (12 + 3 * k) 0) / 1440) (by omega) (by omega)
    obtain ⟨s, hs⟩ : ∃ s, s = x + iV M (12 + 3 * k) 0 := ⟨_, rfl⟩
    rw [← hs] at q ⊢
    have w2 := sW_2
    have w9 := sW_9
    have w14 := sW_14
    generalize hm : cMonth (s / 1440) = m at q
    have far : ∀ N : xM, f_Zone_nextSwitch_31 O (t + 1 + 1 + 1) (t + 1) (12 + 3 * k) s m 2 N = some (1000000000, N) := fun N => by
      show (if yw 2 ≤ yw 2 then _ else _) = _
      rw [le_T (by omega) (by omega) (by omega)]
    have lo : ∀ y, x ≤ y → y ≤ x + 1440 → su (y + iV M (12 + 3 * k) 0) = su s → loc M k y = loc M k x + (y - x) := fun y y0 y1 e => by
      rw [loc_su h (by omega) (by omega), loc_su h (by omega) (by omega), ← hs, e]
      omega
    have swb : 0 ≤ (if (m + 0) % 12 + 1 = 3 ∨ (m + 0) % 12 + 1 = 10 then sW 5 6 120 (m + 0) else 1000000000) ∧ (if (m + 0) % 12 + 1 = 3 ∨ (m + 0) % 12 + 1 = 10 then sW 5 6 120 (m + 0) else 1000000000) ≤ 1000000000 := by
      by_cases c : (m + 0) % 12 + 1 = 3 ∨ (m + 0) % 12 + 1 = 10
      · rw [if_pos c]
        have : m + 0 = 2 ∨ m + 0 = 9 ∨ m + 0 = 14 := by omega
        rcases this with e | e | e <;> rw [e] <;> omega
      · rw [if_neg c]
        omega
    rw [ns_31 (t := t + 1 + 1) w hk h (by omega) (by omega) (by omega) (by omega), ns_103 w hk (by omega) (by omega) swb.1 swb.2]
    have n1 : f_Zone_nextSwitch_31 O (t + 1 + 1 + 1) (t + 1 + 1) (12 + 3 * k) s m (0 + 1) M = if m = 8 then some (302 * 1440 + 120 - iV M (12 + 3 * k) 0, M) else if m = 13 then some (449 * 1440 + 120 - iV M (12 + 3 * k) 0, M) else some (1000000000, M) := by
      rw [ns_31 (t := t + 1) w hk h (by omega) (by omega) (by omega) (by omega)]
      by_cases c : (m + (0 + 1)) % 12 + 1 = 3 ∨ (m + (0 + 1)) % 12 + 1 = 10
      · rw [if_pos c]
        have : m = 8 ∨ m = 13 := by omega
        rcases this with rfl | rfl
        · rw [show (8 : Int) + (0 + 1) = 9 from rfl, w9, ns_103 w hk (by omega) (by omega) (by omega) (by omega), if_pos (by omega), if_pos rfl]
        · rw [show (13 : Int) + (0 + 1) = 14 from rfl, w14, ns_103 w hk (by omega) (by omega) (by omega) (by omega), if_pos (by omega), if_neg (by omega), if_pos rfl]
      · rw [if_neg c, ns_103 w hk (by omega) (by omega) (by omega) (by omega), if_neg (by omega), if_neg (by omega), if_neg (by omega)]
        exact far M
    rw [n1]
    have fin : ∀ r : Int, x < r → r ≤ 1000000000 → (∀ y, x ≤ y → y < r → y ≤ x + 1440 → su (y + iV M (12 + 3 * k) 0) = su s) → ∃ r', (some (r, M) : Option (Int × xM)) = some (r', M) ∧ x < r' ∧ r' ≤ 1000000000 ∧ ∀ y, x ≤ y → y < r' → y ≤ x + 1440 → loc M k y = loc M k x + (y - x) := fun r r0 r1 hr => ⟨r, rfl, r0, r1, fun y y0 y1 y2 => lo y y0 y2 (hr y y0 y1 y2)⟩
    have same : ∀ y, ((y + iV M (12 + 3 * k) 0 < 434880 + 120 ∨ 646560 + 120 ≤ y + iV M (12 + 3 * k) 0) ↔ (s < 434880 + 120 ∨ 646560 + 120 ≤ s)) → su (y + iV M (12 + 3 * k) 0) = su s := fun y e => by
      unfold su
      by_cases c : s < 434880 + 120 ∨ 646560 + 120 ≤ s
      · rw [if_pos c, if_pos (e.mpr c)]
      · rw [if_neg c, if_neg (fun z => c (e.mp z))]
    by_cases c : (m + 0) % 12 + 1 = 3 ∨ (m + 0) % 12 + 1 = 10
    · rw [if_pos c]
      have : m = 2 ∨ m = 9 ∨ m = 14 := by omega
      rcases this with rfl | rfl | rfl
      · rw [show (2 : Int) + 0 = 2 from rfl, w2, if_neg (by omega), if_neg (by omega), if_neg (by omega)]
        exact fin _ (by omega) (by omega) (fun y y0 y1 y2 => same y (by omega))
      · rw [show (9 : Int) + 0 = 9 from rfl, w9]
        by_cases d : s < 302 * 1440 + 120
        · rw [if_pos (by omega)]
          exact fin _ (by omega) (by omega) (fun y y0 y1 y2 => same y (by omega))
        · rw [if_neg (by omega), if_neg (by omega), if_neg (by omega)]
          exact fin _ (by omega) (by omega) (fun y y0 y1 y2 => same y (by omega))
      · rw [show (14 : Int) + 0 = 14 from rfl, w14]
        by_cases d : s < 449 * 1440 + 120
        · rw [if_pos (by omega)]
          exact fin _ (by omega) (by omega) (fun y y0 y1 y2 => same y (by omega))
        · rw [if_neg (by omega), if_neg (by omega), if_neg (by omega)]
          exact fin _ (by omega) (by omega) (fun y y0 y1 y2 => same y (by omega))
    · rw [if_neg c, if_neg (by omega)]
      by_cases c8 : m = 8
      · rw [if_pos c8]
        exact fin _ (by omega) (by omega) (fun y y0 y1 y2 => same y (by omega))
      · rw [if_neg c8]
        by_cases c13 : m = 13
        · rw [if_pos c13]
          exact fin _ (by omega) (by omega) (fun y y0 y1 y2 => same y (by omega))
        · rw [if_neg c13]
          exact fin _ (by omega) (by omega) (fun y y0 y1 y2 => same y (by omega))
end SUM
end
/-! draft 621.work -/
section
/-! ===== work hours ===== -/
/-- somebody's work by a local minute -/
def wkL (d fr tt l : Int) : Prop := fr ≤ l % 1440 ∧ l % 1440 < tt ∧ bitz d ((l / 1440 + 5) % 7) = 1
/-- somebody works at a common minute -/
def wk (M : xM) (p : Nat) (x : Int) : Prop := wkL (iV M (21 + p) 1) (iV M (21 + p) 2) (iV M (21 + p) 3) (loc M (iV M (21 + p) 0).toNat x)
/-- a person whose hours are sound -/
def PV (M : xM) (p : Nat) : Prop := (0 ≤ iV M (21 + p) 0 ∧ iV M (21 + p) 0 < 3) ∧ (0 ≤ iV M (21 + p) 1 ∧ iV M (21 + p) 1 ≤ 127) ∧ 0 ≤ iV M (21 + p) 2 ∧ iV M (21 + p) 2 < iV M (21 + p) 3 ∧ iV M (21 + p) 3 ≤ 1440
section WRK
variable {O : Nat → Option va_E} {f p : Nat} {M N : xM} {x e : Int}
theorem isWorkDay_ok {d : Int} (w : Wd M) (hp : p < 8) (v : PV M p) (d0 : 0 ≤ d) (d1 : d ≤ 100000) : f_Person_isWorkDay O f (21 + p) d M = some ((if bitz (iV M (21 + p) 1) ((d + 5) % 7) = 1 then 1 else 0), M) := by
  obtain ⟨-, ⟨v0, v1⟩, -⟩ := v
  have bl := bitz_lt (x := iV M (21 + p) 1) (k := (d + 5) % 7)
  unfold f_Person_isWorkDay
  rw [a_Person_days w hp, xc_of (e_weekdayOf (by omega) (by omega)), bit_e v0 (by omega) (by omega) (by omega)]
  by_cases g : bitz (iV M (21 + p) 1) ((d + 5) % 7) = 1
  · rw [eq_T g, if_pos g]
  · rw [eq_F g (by omega) (by omega) (by omega) (by omega), if_neg g]
/-- one turn of workFrom -/
theorem wf_turn {t : Nat} {T : Int} (w : Wd M) (hp : p < 8) (v : PV M p) (zd : ∀ z, z < 3 → ZD M z) (x0 : 131000 ≤ x) (x1 : x < 755000) (xe : x < e) (e1 : e ≤ 1000000) (T0 : 0 ≤ T) (T1 : T ≤ 20160) (hf : 5 ≤ f) : (wk M p x ∧ f_Person_workFrom_6 O f (t + 1) (21 + p) (12 + 3 * (iV M (21 + p) 0).toNat) e x T M = some (x, M)) ∨ ∃ y, x < y ∧ (∀ u, x ≤ u → u < y → ¬ wk M p u) ∧ y ≤ x + 1440 ∧ f_Person_workFrom_6 O f (t + 1) (21 + p) (12 + 3 * (iV M (21 + p) 0).toNat) e x T M = f_Person_workFrom_6 O f t (21 + p) (12 + 3 * (iV M (21 + p) 0).toNat) e y (T + 1) M := by
  have vv := v
  obtain ⟨⟨z0, z1⟩, ⟨d0, d1⟩, f0, f1, f2⟩ := v
  obtain ⟨k, hk⟩ : ∃ k, k = (iV M (21 + p) 0).toNat := ⟨_, rfl⟩
  have hk3 : k < 3 := by omega
  rw [← hk]
  have Z := zd k hk3
  have hz := Z.1
  have lr := loc_r (M := M) (k := k) (c := x) hz
  obtain ⟨l, el⟩ : ∃ l, l = loc M k x := ⟨_, rfl⟩
  rw [← el] at lr
  have eloc := e_localOf (O := O) (f := f) (c := x) w hk3 hz (by omega) (by omega)
  rw [← el] at eloc
  obtain ⟨r, er, r0, r1, r2⟩ := nextSwitch_ok (O := O) (f := f) w hk3 Z (x := x) x0 (by omega) hf
  have start : f_Person_workFrom_6 O f (t + 1) (21 + p) (12 + 3 * k) e x T M = if l % 1440 < iV M (21 + p) 2 then f_Person_workFrom_74 O f (f_Person_workFrom_6 O f t) (21 + p) (12 + 3 * k) e x T (l % 1440) M else if iV M (21 + p) 3 ≤ l % 1440 then f_Person_workFrom_74 O f (f_Person_workFrom_6 O f t) (21 + p) (12 + 3 * k) e x T (l % 1440) M else if bitz (iV M (21 + p) 1) ((l / 1440 + 5) % 7) = 1 then some (x, M) else f_Person_workFrom_74 O f (f_Person_workFrom_6 O f t) (21 + p) (12 + 3 * k) e x T (l % 1440) M := by
    show (if yw 20160 < yw T then _ else _) = _
    rw [lt_F (by omega) (by omega) (by omega), le_F (by omega) (by omega) (by omega), a_Zone_is w hk3, xc_of eloc, xc_of (e_floorMod (by omega) (by omega) (by omega) (by omega)), a_Person_from w hp]
    by_cases g1 : l % 1440 < iV M (21 + p) 2
    · rw [lt_T g1 (by omega) (by omega), if_pos g1]
    · rw [lt_F (by omega) (by omega) (by omega), if_neg g1, a_Person_to w hp]
      by_cases g2 : iV M (21 + p) 3 ≤ l % 1440
      · rw [le_T g2 (by omega) (by omega), if_pos g2]
      · rw [le_F (by omega) (by omega) (by omega), if_neg g2, xc_of (e_floorDiv (by omega) (by omega) (by omega) (by omega)), a_Person_is w hp, xc_of (isWorkDay_ok w hp vv (by omega) (by omega))]
        by_cases g3 : bitz (iV M (21 + p) 1) ((l / 1440 + 5) % 7) = 1
        · rw [if_pos g3, if_pos g3, eq_F (by omega) (by omega) (by omega) (by omega) (by omega)]
        · rw [if_neg g3, if_neg g3, eq_T rfl]
  -- the jump
  have jump : (l % 1440 < iV M (21 + p) 2 ∨ iV M (21 + p) 3 ≤ l % 1440 ∨ bitz (iV M (21 + p) 1) ((l / 1440 + 5) % 7) ≠ 1) → ∃ y, x < y ∧ (∀ u, x ≤ u → u < y → ¬ wk M p u) ∧ y ≤ x + 1440 ∧ f_Person_workFrom_74 O f (f_Person_workFrom_6 O f t) (21 + p) (12 + 3 * k) e x T (l % 1440) M = f_Person_workFrom_6 O f t (21 + p) (12 + 3 * k) e y (T + 1) M := by
    intro hn
    have j93 : ∀ s : Int, l % 1440 < s → s ≤ 1440 → (∀ u : Int, l ≤ u → u < l + s - l % 1440 → ¬ wkL (iV M (21 + p) 1) (iV M (21 + p) 2) (iV M (21 + p) 3) u) → ∃ y, x < y ∧ (∀ u, x ≤ u → u < y → ¬ wk M p u) ∧ y ≤ x + 1440 ∧ f_Person_workFrom_93 O f (f_Person_workFrom_6 O f t) (21 + p) (12 + 3 * k) e x T (l % 1440) s M = f_Person_workFrom_6 O f t (21 + p) (12 + 3 * k) e y (T + 1) M := by
      intro s s0 s1 hs
      refine ⟨min (x + s - l % 1440) r, by omega, fun u u0 u1 hw => ?_, by omega, ?_⟩
      · unfold wk at hw
        rw [← hk, r2 u u0 (by omega) (by omega), ← el] at hw
        exact hs _ (by omega) (by omega) hw
      · unfold f_Person_workFrom_93
        rw [a_Zone_is w hk3, er, xcl_e, xc_of (e_min (by omega) (by omega) (by omega) (by omega))]
    unfold f_Person_workFrom_74
    rw [a_Person_from w hp]
    by_cases g1 : iV M (21 + p) 2 ≤ l % 1440
    · rw [le_T g1 (by omega) (by omega)]
      refine j93 1440 (by omega) (by omega) (fun u u0 u1 hu => ?_)
      obtain ⟨u2, u3, u4⟩ := hu
      have hd : u / 1440 = l / 1440 := by omega
      rw [hd] at u4
      rcases hn with q | q | q
      · omega
      · omega
      · exact q u4
    · rw [le_F (by omega) (by omega) (by omega), a_Person_from w hp]
      refine j93 _ (by omega) (by omega) (fun u u0 u1 hu => ?_)
      obtain ⟨u2, u3, u4⟩ := hu
      omega
  rw [start]
  by_cases g1 : l % 1440 < iV M (21 + p) 2
  · rw [if_pos g1]
    exact Or.inr (jump (Or.inl g1))
  · rw [if_neg g1]
    by_cases g2 : iV M (21 + p) 3 ≤ l % 1440
    · rw [if_pos g2]
      exact Or.inr (jump (Or.inr (Or.inl g2)))
    · rw [if_neg g2]
      by_cases g3 : bitz (iV M (21 + p) 1) ((l / 1440 + 5) % 7) = 1
      · rw [if_pos g3]
        refine Or.inl ⟨?_, rfl⟩
        unfold wk wkL
        rw [← hk, ← el]
        exact ⟨by omega, by omega, g3⟩
      · rw [if_neg g3]
        exact Or.inr (jump (Or.inr (Or.inr g3)))
theorem workFrom_ok (w : Wd M) (hp : p < 8) (v : PV M p) (zd : ∀ z, z < 3 → ZD M z) (x0 : 131000 ≤ x) (xe : x ≤ e) (e1 : e ≤ 750000) (h9 : e - x ≤ 9000) (hf : 10000 ≤ f) : ∃ r, f_Person_workFrom O f (21 + p) (12 + 3 * (iV M (21 + p) 0).toNat) x e M = some (r, M) ∧ x ≤ r ∧ r ≤ e ∧ (∀ u, x ≤ u → u < r → ¬ wk M p u) ∧ (r < e → wk M p r) := by
  have key : ∀ (n t : Nat) (T y : Int), e - y ≤ n → n < t → 0 ≤ T → T + n ≤ 20000 → x ≤ y → y ≤ 800000 → (∀ u, x ≤ u → u < y → u < e → ¬ wk M p u) → ∃ r, f_Person_workFrom_6 O f t (21 + p) (12 + 3 * (iV M (21 + p) 0).toNat) e y T M = some (r, M) ∧ x ≤ r ∧ r ≤ e ∧ (∀ u, x ≤ u → u < r → ¬ wk M p u) ∧ (r < e → wk M p r) := by
    intro n
    induction n with
    | zero =>
      intro t T y h1 h2 T0 T1 h3 hy8 h4
      obtain ⟨t, rfl⟩ : ∃ n', t = n' + 1 := ⟨t - 1, by omega⟩
      refine ⟨e, ?_, xe, by omega, fun u u0 u1 => h4 u u0 (by omega) u1, fun z => by omega⟩
      show (if yw 20160 < yw T then _ else _) = _
      rw [lt_F (by omega) (by omega) (by omega), le_T (by omega) (by omega) (by omega)]
    | succ n ih =>
      intro t T y h1 h2 T0 T1 h3 hy8 h4
      obtain ⟨t, rfl⟩ : ∃ n', t = n' + 1 := ⟨t - 1, by omega⟩
      by_cases g : e ≤ y
      · exact ih (t + 1) T y (by omega) (by omega) T0 (by omega) h3 hy8 h4
      · rcases wf_turn (O := O) (f := f) (t := t) (T := T) w hp v zd (x := y) (e := e) (by omega) (by omega) (by omega) (by omega) T0 (by omega) (by omega) with ⟨q1, q2⟩ | ⟨z, q1, q2, q3, q4⟩
        · exact ⟨y, q2, h3, by omega, fun u u0 u1 => h4 u u0 u1 (by omega), fun _ => q1⟩
        · obtain ⟨r, er, q⟩ := ih t (T + 1) z (by omega) (by omega) (by omega) (by omega) (by omega) (by omega) (fun u u0 u1 u2 => by
            by_cases c : u < y
            · exact h4 u u0 c u2
            · exact q2 u (by omega) u1)
          exact ⟨r, by rw [q4]; exact er, q⟩
  exact key (e - x).toNat f 0 x (by omega) (by omega) (by omega) (by omega) (by omega) (by omega) (fun u u0 u1 => by omega)
/-- one turn of idleFrom -/
theorem if_turn {t : Nat} {T : Int} (w : Wd M) (hp : p < 8) (v : PV M p) (zd : ∀ z, z < 3 → ZD M z) (x0 : 131000 ≤ x) (x1 : x < 755000) (xe : x < e) (e1 : e ≤ 1000000) (T0 : 0 ≤ T) (T1 : T ≤ 20160) (hf : 5 ≤ f) : (¬ wk M p x ∧ f_Person_idleFrom_6 O f (t + 1) (21 + p) (12 + 3 * (iV M (21 + p) 0).toNat) e x T M = some (x, M)) ∨ ∃ y, x < y ∧ (∀ u, x ≤ u → u < y → wk M p u) ∧ y ≤ x + 1440 ∧ f_Person_idleFrom_6 O f (t + 1) (21 + p) (12 + 3 * (iV M (21 + p) 0).toNat) e x T M = f_Person_idleFrom_6 O f t (21 + p) (12 + 3 * (iV M (21 + p) 0).toNat) e y (T + 1) M := by
  have vv := v
  obtain ⟨⟨z0, z1⟩, ⟨d0, d1⟩, f0, f1, f2⟩ := v
  obtain ⟨k, hk⟩ : ∃ k, k = (iV M (21 + p) 0).toNat := ⟨_, rfl⟩
  have hk3 : k < 3 := by omega
  rw [← hk]
  have Z := zd k hk3
  have hz := Z.1
  have lr := loc_r (M := M) (k := k) (c := x) hz
  obtain ⟨l, el⟩ : ∃ l, l = loc M k x := ⟨_, rfl⟩
  rw [← el] at lr
  have eloc := e_localOf (O := O) (f := f) (c := x) w hk3 hz (by omega) (by omega)
  rw [← el] at eloc
  obtain ⟨r, er, r0, r1, r2⟩ := nextSwitch_ok (O := O) (f := f) w hk3 Z (x := x) x0 (by omega) hf
  have nw : (l % 1440 < iV M (21 + p) 2 ∨ iV M (21 + p) 3 ≤ l % 1440 ∨ bitz (iV M (21 + p) 1) ((l / 1440 + 5) % 7) ≠ 1) → ¬ wk M p x := by
    intro hn hw
    unfold wk wkL at hw
    rw [← hk, ← el] at hw
    obtain ⟨q1, q2, q3⟩ := hw
    rcases hn with q | q | q
    · omega
    · omega
    · exact q q3
  show (_ ∧ (if yw 20160 < yw T then _ else _) = _) ∨ ∃ y, _ ∧ _ ∧ _ ∧ (if yw 20160 < yw T then _ else _) = _
  rw [lt_F (by omega) (by omega) (by omega), le_F (by omega) (by omega) (by omega), a_Zone_is w hk3, xc_of eloc, xc_of (e_floorMod (by omega) (by omega) (by omega) (by omega)), a_Person_from w hp]
  by_cases g1 : l % 1440 < iV M (21 + p) 2
  · rw [lt_T g1 (by omega) (by omega)]
    exact Or.inl ⟨nw (Or.inl g1), rfl⟩
  · rw [lt_F (by omega) (by omega) (by omega), a_Person_to w hp]
    by_cases g2 : iV M (21 + p) 3 ≤ l % 1440
    · rw [le_T g2 (by omega) (by omega)]
      exact Or.inl ⟨nw (Or.inr (Or.inl g2)), rfl⟩
    · rw [le_F (by omega) (by omega) (by omega), xc_of (e_floorDiv (by omega) (by omega) (by omega) (by omega)), a_Person_is w hp, xc_of (isWorkDay_ok w hp vv (by omega) (by omega))]
      by_cases g3 : bitz (iV M (21 + p) 1) ((l / 1440 + 5) % 7) = 1
      · rw [if_pos g3, eq_F (by omega) (by omega) (by omega) (by omega) (by omega), a_Person_to w hp, a_Zone_is w hk3, er, xcl_e, xc_of (e_min (by omega) (by omega) (by omega) (by omega))]
        refine Or.inr ⟨min (x + iV M (21 + p) 3 - l % 1440) r, by omega, fun u u0 u1 => ?_, by omega, rfl⟩
        unfold wk wkL
        rw [← hk, r2 u u0 (by omega) (by omega), ← el]
        have hd : (l + (u - x)) / 1440 = l / 1440 := by omega
        rw [hd]
        exact ⟨by omega, by omega, g3⟩
      · rw [if_neg g3, eq_T rfl]
        exact Or.inl ⟨nw (Or.inr (Or.inr g3)), rfl⟩
theorem idleFrom_ok (w : Wd M) (hp : p < 8) (v : PV M p) (zd : ∀ z, z < 3 → ZD M z) (x0 : 131000 ≤ x) (xe : x ≤ e) (e1 : e ≤ 750000) (h9 : e - x ≤ 9000) (hf : 10000 ≤ f) : ∃ r, f_Person_idleFrom O f (21 + p) (12 + 3 * (iV M (21 + p) 0).toNat) x e M = some (r, M) ∧ x ≤ r ∧ r ≤ e ∧ (∀ u, x ≤ u → u < r → wk M p u) ∧ (r < e → ¬ wk M p r) := by
  have key : ∀ (n t : Nat) (T y : Int), e - y ≤ n → n < t → 0 ≤ T → T + n ≤ 20000 → x ≤ y → y ≤ 800000 → (∀ u, x ≤ u → u < y → u < e → wk M p u) → ∃ r, f_Person_idleFrom_6 O f t (21 + p) (12 + 3 * (iV M (21 + p) 0).toNat) e y T M = some (r, M) ∧ x ≤ r ∧ r ≤ e ∧ (∀ u, x ≤ u → u < r → wk M p u) ∧ (r < e → ¬ wk M p r) := by
    intro n
    induction n with
    | zero =>
      intro t T y h1 h2 T0 T1 h3 hy8 h4
      obtain ⟨t, rfl⟩ : ∃ n', t = n' + 1 := ⟨t - 1, by omega⟩
      refine ⟨e, ?_, xe, by omega, fun u u0 u1 => h4 u u0 (by omega) u1, fun z => by omega⟩
      show (if yw 20160 < yw T then _ else _) = _
      rw [lt_F (by omega) (by omega) (by omega), le_T (by omega) (by omega) (by omega)]
    | succ n ih =>
      intro t T y h1 h2 T0 T1 h3 hy8 h4
      obtain ⟨t, rfl⟩ : ∃ n', t = n' + 1 := ⟨t - 1, by omega⟩
      by_cases g : e ≤ y
      · exact ih (t + 1) T y (by omega) (by omega) T0 (by omega) h3 hy8 h4
      · rcases if_turn (O := O) (f := f) (t := t) (T := T) w hp v zd (x := y) (e := e) (by omega) (by omega) (by omega) (by omega) T0 (by omega) (by omega) with ⟨q1, q2⟩ | ⟨z, q1, q2, q3, q4⟩
        · exact ⟨y, q2, h3, by omega, fun u u0 u1 => h4 u u0 u1 (by omega), fun _ => q1⟩
        · obtain ⟨r, er, q⟩ := ih t (T + 1) z (by omega) (by omega) (by omega) (by omega) (by omega) (by omega) (fun u u0 u1 u2 => by
            by_cases c : u < y
            · exact h4 u u0 c u2
            · exact q2 u (by omega) u1)
          exact ⟨r, by rw [q4]; exact er, q⟩
  exact key (e - x).toNat f 0 x (by omega) (by omega) (by omega) (by omega) (by omega) (by omega) (fun u u0 u1 => by omega)
end WRK
end
/-! draft 622.onoff -/
section
/-! ===== when dates are on ===== -/
def onD (M : xM) (L : List Int) (u : Int) : Prop := ∃ y, y ∈ L ∧ rM y ≤ u ∧ u < En M y
/-- collected rows of sound dates -/
def RLo (M : xM) (L : List Int) : Prop := ∀ y, y ∈ L → 0 ≤ rM y ∧ rM y ≤ 900000000 ∧ rM y < En M y ∧ En M y ≤ rM y + 600
section ONF
variable {O : Nat → Option va_E} {f : Nat} {M : xM} {L : List Int} {x : Int}
theorem rM_srt (h : srt L) {i j : Nat} (hij : i ≤ j) (hj : j < L.length) : rM (L.getD i 0) ≤ rM (L.getD j 0) := by
  rcases Nat.lt_or_ge i j with q | q
  · have := srt_lt h q hj
    unfold rM
    omega
  · obtain rfl : i = j := by omega
    exact Int.le_refl _
theorem onFrom_ok (d : DL M L) (w : Wd M) (hl : RLo M L) (x0 : 0 ≤ x) (x1 : x ≤ 900000000) (hf : 400 ≤ f) : ∃ r, f_Dates_onFrom O f 116 x M = some (r, M) ∧ x ≤ r ∧ r ≤ 1000000000 ∧ ((r = 1000000000 ∧ ∀ u, x ≤ u → ¬ onD M L u) ∨ (onD M L r ∧ ∀ u, x ≤ u → u < r → ¬ onD M L u)) := by
  have dl := d.2.1
  have key : ∀ (n t k : Nat), k + n = L.length → n < t → (∀ i, i < k → En M (L.getD i 0) ≤ x) → ∃ r, f_Dates_onFrom_2 O f t 116 x (k : Int) M = some (r, M) ∧ x ≤ r ∧ r ≤ 1000000000 ∧ ((r = 1000000000 ∧ ∀ u, x ≤ u → ¬ onD M L u) ∨ (onD M L r ∧ ∀ u, x ≤ u → u < r → ¬ onD M L u)) := by
    intro n
    induction n with
    | zero =>
      intro t k h1 h2 h3
      obtain ⟨t, rfl⟩ : ∃ n', t = n' + 1 := ⟨t - 1, by omega⟩
      refine ⟨1000000000, ?_, by omega, by omega, Or.inl ⟨rfl, fun u u0 ⟨y, y1, y2, y3⟩ => ?_⟩⟩
      · show (gJ O M 116 2 0).bind _ = _
        rw [a_Dates_count w, d.1, le_T (by omega) (by omega) (by omega)]
      · obtain ⟨i, i1, i2⟩ := mem_getD y1
        have := h3 i (by omega)
        rw [i2] at this
        omega
    | succ n ih =>
      intro t k h1 h2 h3
      obtain ⟨t, rfl⟩ : ∃ n', t = n' + 1 := ⟨t - 1, by omega⟩
      have kz : ((k : Int)).toNat = k := by omega
      have hk : k < L.length := by omega
      have b := hl _ (getD_mem hk)
      have ee := d.endA (O := O) (f := f) (ix := (k : Int)) w (by omega) (by omega)
      have eb := d.begin (O := O) (f := f) (ix := (k : Int)) w (by omega) (by omega)
      rw [kz] at ee eb
      have ee' : f_Dates_endAt O f 116 (k : Int) M = some (En M (L.getD k 0), M) := ee
      show ∃ r, (gJ O M 116 2 0).bind _ = _ ∧ _
      rw [a_Dates_count w, d.1, le_F (by omega) (by omega) (by omega), a_Dates_is w, ee', xcl_e]
      by_cases g : En M (L.getD k 0) ≤ x
      · rw [le_T g (by omega) (by omega)]
        have q := ih t (k + 1) (by omega) (by omega) (fun i hi => by
          by_cases z : i = k
          · rw [z]
            exact g
          · exact h3 i (by omega))
        rw [show ((k + 1 : Nat) : Int) = (k : Int) + 1 by omega] at q
        exact q
      · rw [le_F (by omega) (by omega) (by omega), a_Dates_is w, eb, xcl_e, xc_of (e_max (by omega) (by omega) (by omega) (by omega))]
        refine ⟨_, rfl, by omega, by omega, Or.inr ⟨⟨_, getD_mem hk, by omega, by omega⟩, fun u u0 u1 ⟨y, y1, y2, y3⟩ => ?_⟩⟩
        obtain ⟨i, i1, i2⟩ := mem_getD y1
        by_cases z : i < k
        · have := h3 i z
          rw [i2] at this
          omega
        · have := rM_srt d.2.2.2.1 (show k ≤ i by omega) i1
          rw [i2] at this
          omega
  unfold f_Dates_onFrom
  exact key L.length f 0 (by omega) (by omega) (fun i hi => absurd hi (Nat.not_lt_zero _))
theorem offFrom_ok (d : DL M L) (w : Wd M) (hl : RLo M L) (x0 : 0 ≤ x) (x1 : x ≤ 1000000000) (hf : 400 ≤ f) : ∃ r, f_Dates_offFrom O f 116 x M = some (r, M) ∧ x ≤ r ∧ r ≤ 1000000000 ∧ ¬ onD M L r ∧ ∀ u, x ≤ u → u < r → onD M L u := by
  have dl := d.2.1
  have key : ∀ (n t k : Nat) (a : Int), k + n = L.length → n < t → x ≤ a → a ≤ 1000000000 → (∀ i, i < k → En M (L.getD i 0) ≤ a) → (∀ u, x ≤ u → u < a → onD M L u) → ∃ r, f_Dates_offFrom_4 O f t 116 a (k : Int) M = some (r, M) ∧ x ≤ r ∧ r ≤ 1000000000 ∧ ¬ onD M L r ∧ ∀ u, x ≤ u → u < r → onD M L u := by
    intro n
    induction n with
    | zero =>
      intro t k a h1 h2 a0 a1 h3 h4
      obtain ⟨t, rfl⟩ : ∃ n', t = n' + 1 := ⟨t - 1, by omega⟩
      refine ⟨a, ?_, a0, a1, fun ⟨y, y1, y2, y3⟩ => ?_, h4⟩
      · show (gJ O M 116 2 0).bind _ = _
        rw [a_Dates_count w, d.1, le_T (by omega) (by omega) (by omega)]
      · obtain ⟨i, i1, i2⟩ := mem_getD y1
        have := h3 i (by omega)
        rw [i2] at this
        omega
    | succ n ih =>
      intro t k a h1 h2 a0 a1 h3 h4
      obtain ⟨t, rfl⟩ : ∃ n', t = n' + 1 := ⟨t - 1, by omega⟩
      have kz : ((k : Int)).toNat = k := by omega
      have hk : k < L.length := by omega
      have b := hl _ (getD_mem hk)
      have ee := d.endA (O := O) (f := f) (ix := (k : Int)) w (by omega) (by omega)
      have eb := d.begin (O := O) (f := f) (ix := (k : Int)) w (by omega) (by omega)
      rw [kz] at ee eb
      have ee' : f_Dates_endAt O f 116 (k : Int) M = some (En M (L.getD k 0), M) := ee
      show ∃ r, (gJ O M 116 2 0).bind _ = _ ∧ _
      rw [a_Dates_count w, d.1, le_F (by omega) (by omega) (by omega), a_Dates_is w, eb, xcl_e]
      by_cases g : a < rM (L.getD k 0)
      · rw [lt_T g (by omega) (by omega)]
        refine ⟨a, rfl, a0, a1, fun ⟨y, y1, y2, y3⟩ => ?_, h4⟩
        obtain ⟨i, i1, i2⟩ := mem_getD y1
        by_cases z : i < k
        · have := h3 i z
          rw [i2] at this
          omega
        · have := rM_srt d.2.2.2.1 (show k ≤ i by omega) i1
          rw [i2] at this
          omega
      · rw [lt_F (by omega) (by omega) (by omega), a_Dates_is w, ee', xcl_e, xc_of (e_max (by omega) (by omega) (by omega) (by omega))]
        have q := ih t (k + 1) (max a (En M (L.getD k 0))) (by omega) (by omega) (by omega) (by omega) (fun i hi => by
          by_cases z : i = k
          · rw [z]
            omega
          · have := h3 i (by omega)
            omega) (fun u u0 u1 => by
          by_cases z : u < a
          · exact h4 u u0 z
          · exact ⟨_, getD_mem hk, by omega, by omega⟩)
        rw [show ((k + 1 : Nat) : Int) = (k : Int) + 1 by omega] at q
        exact q
  unfold f_Dates_offFrom
  exact key L.length f 0 x (by omega) (by omega) (by omega) (by omega) (fun i hi => absurd hi (Nat.not_lt_zero _)) (fun u u0 u1 => by omega)
end ONF
end
/-! draft 623.busy -/
section
/-! ===== busy minutes ===== -/
def bsy (M : xM) (m : Nat) (S : Nat → Prop) (u : Int) : Prop := ∃ k, k < m ∧ S k ∧ ∃ d, D01 (iV M (30 + 6 * k)) d ∧ bg M k d ≠ -1 ∧ bg M k d ≤ u ∧ u < bg M k d + iV M (29 + 6 * k) 3
/-- somebody of a set of people takes part -/
def tpS (M : xM) (g : Nat) (k : Nat) : Prop := ∃ p, p < 8 ∧ g / 2 ^ p % 2 = 1 ∧ tp M k p
section BSY
variable {O : Nat → Option va_E} {f m : Nat} {M N : xM} {lo hi fd : Int} {S : Nat → Prop}
theorem colOn_ok {y : Int} (h : SR M m fd) (hm : m ≤ 12) (hy : Mk y 12 (fun k => k < m ∧ S k)) (l0 : 11000 ≤ lo) (l1 : lo < hi) (l2 : hi ≤ 150000000) (l3 : hi - lo ≤ 17000) (hf : 2000 ≤ f) : ∃ M' L, f_Hall_collectOn O f 2 116 y lo hi M = some ((), M') ∧ Un P3 M M' ∧ DL M' L ∧ RLo M' L ∧ ∀ u, lo ≤ u → u < hi → (onD M' L u ↔ bsy M m S u) := by
  obtain ⟨y0, y1, y2⟩ := hy
  have e12 : (2 : Int) ^ 12 = 4096 := by decide
  obtain ⟨M', L, e, u, d, hL, hlen⟩ := collectOn_ok (O := O) (f := f) (mask := y) (h.hs) (by omega) (by omega) l0 l1 l2 l3 hf
  -- a row of the list
  have row : ∀ {x : Int}, x ∈ L → ∃ k, k < m ∧ S k ∧ ∃ dd, D01 (iV M (30 + 6 * k)) dd ∧ bg M k dd ≠ -1 ∧ lo - iV M (29 + 6 * k) 3 + 1 ≤ bg M k dd ∧ bg M k dd < hi ∧ rM x = bg M k dd ∧ En M' x = bg M k dd + iV M (29 + 6 * k) 3 ∧ 1 ≤ iV M (29 + 6 * k) 3 ∧ iV M (29 + 6 * k) 3 ≤ 600 := fun {x} hx => by
    obtain ⟨k, k1, k2, k3, dd, k4, k5⟩ := (hL x).mp hx
    have z := (y2 k k1).mp k3
    have s := h.2.2.1 k z.1
    have d1 := (nx01 (O := fun _ => none) (f := 0) (k := k) (by omega) s.2.1).1 dd k4
    have nn := rwB_N (M := M) (k := k) (nb := k) (by omega) (by omega) (by omega) k5
    obtain ⟨q1, q2, q3, q4⟩ := k5
    have q2' : lo - iV M (29 + 6 * k) 3 + 1 ≤ bg M k dd - 0 := q2
    have le := hlen k k1 k2 k3
    have g := s.1.2.2.2.1
    refine ⟨k, z.1, z.2, dd, k4, q1, by omega, by omega, by omega, ?_, g.1, g.2⟩
    unfold En
    rw [nn.2.2, show (rN x).toNat = k by omega, le]
    omega
  refine ⟨M', L, e, u, d, fun x hx => ?_, fun v v0 v1 => ⟨?_, ?_⟩⟩
  · obtain ⟨k, k1, k2, dd, k3, k4, k5, k6, k7, k8, k9, k10⟩ := row hx
    omega
  · rintro ⟨x, x1, x2, x3⟩
    obtain ⟨k, k1, k2, dd, k3, k4, k5, k6, k7, k8, k9, k10⟩ := row x1
    exact ⟨k, k1, k2, dd, k3, k4, by omega, by omega⟩
  · rintro ⟨k, k1, k2, dd, k3, k4, k5, k6⟩
    have s := h.2.2.1 k k1
    have d1 := (nx01 (O := fun _ => none) (f := 0) (k := k) (by omega) s.2.1).1 dd k3
    have hx : rw' (bg M k dd - 0) (k : Int) dd ∈ L := (hL _).mpr ⟨k, by omega, s.1.1, (y2 k (by omega)).mpr ⟨k1, k2⟩, dd, k3, k4, (by show lo - iV M (29 + 6 * k) 3 + 1 ≤ _; omega), by omega, rfl⟩
    have nn := rwB_N (M := M) (k := k) (nb := k) (a := 0) (l := lo - iV M (29 + 6 * k) 3 + 1) (h := hi) (x := rw' (bg M k dd - 0) (k : Int) dd) (by omega) (by omega) (by omega) ⟨k4, by omega, by omega, rfl⟩
    refine ⟨_, hx, by omega, ?_⟩
    have le := hlen k (by omega) s.1.1 ((y2 k (by omega)).mpr ⟨k1, k2⟩)
    unfold En
    rw [nn.2.2, show (rN (rw' (bg M k dd - 0) (k : Int) dd)).toNat = k by omega, le]
    omega
theorem so_loop2 (h : SR M m fd) (hm : m ≤ 12) {g : Nat} (hg : g < 256) (hf : 20 ≤ f) : ∀ (r n j : Nat) (v : Int), j + r = 12 → Mk v j (fun k => k < m ∧ tpS M g k) → r < n → ∃ y, f_Hall_seriesOf_4 O f n 2 (g : Int) v (j : Int) M = some (y, M) ∧ Mk y 12 (fun k => k < m ∧ tpS M g k) := by
  have hw := h.1.1
  intro r
  induction r with
  | zero =>
    intro n j v hj hv h2
    obtain ⟨n, rfl⟩ : ∃ n', n = n' + 1 := ⟨n - 1, by omega⟩
    obtain rfl : j = 12 := by omega
    refine ⟨v, ?_, hv⟩
    show (gR O M 2 4 3).bind _ = _
    rw [a_Hall_series hw, n_Hall_series hw, le_T (by omega) (by omega) (by omega)]
  | succ r ih =>
    intro n j v hj hv h2
    obtain ⟨n, rfl⟩ : ∃ n', n = n' + 1 := ⟨n - 1, by omega⟩
    have jz : ((j : Int)).toNat = j := by omega
    show ∃ y, (gR O M 2 4 3).bind _ = some (y, M) ∧ _
    rw [a_Hall_series hw, n_Hall_series hw, le_F (by omega) (by omega) (by omega), a_Hall_series hw, r_Hall_series hw (by omega) (by omega), jz, a_Series_isThere hw (by omega)]
    by_cases q : j < m
    · have s := h.2.2.1 j q
      obtain ⟨y, ey, y1, y2⟩ := takers_ok (O := O) (f := f) (k := j) hw (by omega) s.1.2.2.2.2.1.1 s.1.2.2.2.2.1.2 hf
      have jr := jand_r (y : Int) (g : Int)
      have je : jand (y : Int) (g : Int) = ((y &&& g : Nat) : Int) := by
        rw [jand_e (by omega) (by omega) (by omega) (by omega), Int.toNat_natCast, Int.toNat_natCast]
      have tb := two_bits (x := y) (y := g) y1
      rw [s.1.1, eq_F (by omega) (by omega) (by omega) (by omega) (by omega), a_Hall_series hw, r_Hall_series hw (by omega) (by omega), jz, a_Series_is hw (by omega), ey, xcl_e]
      by_cases z : y &&& g = 0
      · rw [eq_T (by rw [je, z]; rfl)]
        have qq := ih n (j + 1) v (by omega) (hv.skip (fun ⟨_, p, p1, p2, p3⟩ => tb.mpr ⟨p, p1, (y2 p p1).mpr p3, p2⟩ z)) (by omega)
        rw [show ((j + 1 : Nat) : Int) = (j : Int) + 1 by omega] at qq
        exact qq
      · obtain ⟨p, p1, p2, p3⟩ := tb.mp z
        rw [eq_F (by rw [je]; omega) (by omega) (by omega) (by omega) (by omega), xlet_e, jor_put hv.1 hv.2.1 (by omega)]
        have qq := ih n (j + 1) (v + 2 ^ j) (by omega) (hv.add ⟨q, p, p1, p3, (y2 p p1).mp p2⟩) (by omega)
        rw [show ((j + 1 : Nat) : Int) = (j : Int) + 1 by omega] at qq
        exact qq
    · rw [h.2.2.2 j (by omega) (by omega), eq_T rfl]
      have qq := ih n (j + 1) v (by omega) (hv.skip (fun w => q w.1)) (by omega)
      rw [show ((j + 1 : Nat) : Int) = (j : Int) + 1 by omega] at qq
      exact qq
theorem seriesOf2_ok (h : SR M m fd) (hm : m ≤ 12) {g : Nat} (hg : g < 256) (hf : 20 ≤ f) : ∃ y, f_Hall_seriesOf O f 2 (g : Int) M = some (y, M) ∧ Mk y 12 (fun k => k < m ∧ tpS M g k) := so_loop2 h hm hg hf 12 f 0 0 (by omega) ⟨by omega, by decide, fun j hj => absurd hj (Nat.not_lt_zero _)⟩ (by omega)
theorem bsy_S {S' : Nat → Prop} {u : Int} (e : ∀ k, k < m → (S k ↔ S' k)) : bsy M m S u ↔ bsy M m S' u := ⟨fun ⟨k, a, b, c⟩ => ⟨k, a, (e k a).mp b, c⟩, fun ⟨k, a, b, c⟩ => ⟨k, a, (e k a).mpr b, c⟩⟩
/-- busy minutes are the same where series and zones are -/
theorem bsy_of {u : Int} (h : SR M m fd) (hm : m ≤ 12) (e : ∀ b j, 12 ≤ b → b < 116 → iV N b j = iV M b j) : bsy N m S u ↔ bsy M m S u := by
  have st : ∀ k, k < m → (iV N (30 + 6 * k) = iV M (30 + 6 * k)) ∧ (∀ d, bg N k d = bg M k d) ∧ iV N (29 + 6 * k) 3 = iV M (29 + 6 * k) 3 := fun k hk => by
    have s := h.2.2.1 k hk
    exact ⟨funext (fun j => e _ _ (by omega) (by omega)), fun d => bg_of (by omega) s.1.2.1.2 e, e _ _ (by omega) (by omega)⟩
  constructor
  · rintro ⟨k, k1, k2, d, k3, k4, k5, k6⟩
    obtain ⟨s1, s2, s3⟩ := st k k1
    rw [s1] at k3
    rw [s2] at k4 k5 k6
    rw [s3] at k6
    exact ⟨k, k1, k2, d, k3, k4, k5, k6⟩
  · rintro ⟨k, k1, k2, d, k3, k4, k5, k6⟩
    obtain ⟨s1, s2, s3⟩ := st k k1
    exact ⟨k, k1, k2, d, by rw [s1]; exact k3, by rw [s2]; exact k4, by rw [s2]; exact k5, by rw [s2, s3]; exact k6⟩
end BSY
end
