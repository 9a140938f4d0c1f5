/-! draft 639.arefree -/
section
/-! ===== the law of free times holds ===== -/
def HX (M : xM) (m p : Nat) (fd : Int) : Prop := SR M m fd ∧ ZZ M ∧ M.1 = 1046 + p ∧ mS M 1044 = .inr (5, 4) ∧ mS M (1045 + p) = .inr (0, 4) ∧ ∀ q, q < p → PV M q ∧ (iV M (21 + q) 2 % 60 = 0 ∧ iV M (21 + q) 3 % 60 = 0) ∧ mR M 1044 q = some (1045 + q) ∧ mS M (1045 + q) = .inr (0, 4) ∧ ∀ j, j < 4 → iV M (1045 + q) j = iV M (21 + q) j
section AFR
variable {O : Nat → Option va_E} {f m p k n : Nat} {M N : xM} {fd : Int}
theorem HX.un (h : HX M m p fd) (hm : m ≤ 12) (hp : p < 4) (u : Un (fun a => a ≠ 0 ∧ a ≠ 1045 + p) M N) : HX N m p fd := by
  obtain ⟨h1, h2, h3, h4, h5, h6⟩ := h
  have bN : Bs N := h1.1.un u (by (try dsimp only); omega) (fun j hj => by (try dsimp only); omega)
  refine ⟨h1.un hm u bN (fun a a0 a1 => by (try dsimp only); omega), h2.of (fun b j b0 b1 => u.i (by (try dsimp only); omega)), by rw [u.1.1]; exact h3, by rw [u.1.s]; exact h4, by rw [u.1.s]; exact h5, fun q hq => ?_⟩
  obtain ⟨o1, o2, o3, o4, o5⟩ := h6 q hq
  have e : ∀ j, iV N (21 + q) j = iV M (21 + q) j := fun j => u.i (by (try dsimp only); omega)
  refine ⟨?_, by rw [e, e]; exact o2, by rw [u.1.r]; exact o3, by rw [u.1.s]; exact o4, fun j hj => ?_⟩
  · unfold PV at o1 ⊢
    simp only [e]
    exact o1
  · rw [e, u.i (by (try dsimp only); omega)]
    exact o5 j hj
theorem fr_82 (hm : m ≤ 12) (hf : 100 ≤ f) {v2 v3 : Int} : ∀ (r t p : Nat) (M : xM), p + r = 4 → r < t → HA M m p fd → M.2.1 ≤ 50000 + 4 * p → ∃ t' N, f_Law_areFree_82 O f t 1 0 v2 v3 1044 (p : Int) M = f_Law_areFree_82 O f (t' + 1) 1 0 v2 v3 1044 4 N ∧ HA N m 4 fd ∧ N.2.1 = M.2.1 + 4 * r := by
  intro r
  induction r with
  | zero =>
    intro t p M hk ht h hs
    obtain ⟨t, rfl⟩ : ∃ n', t = n' + 1 := ⟨t - 1, by omega⟩
    obtain rfl : p = 4 := by omega
    exact ⟨t, M, rfl, h, rfl⟩
  | succ r ih =>
    intro t p M hk ht h hs
    obtain ⟨t, rfl⟩ : ∃ n', t = n' + 1 := ⟨t - 1, by omega⟩
    obtain ⟨h1, h2, h3, h4, h5⟩ := h
    have hw := h1.1.1
    obtain ⟨x1, M1, e1, hx1, w1, u1, i1⟩ := di_ok (O := O) (f := f) (m := 2) hw (by omega) (by omega)
    have s1 : M1.1 = M.1 ∧ M1.2.1 = M.2.1 := ⟨u1.1.1, u1.1.2.1⟩
    obtain ⟨M2, e2, x2, ar, z2, c2, n2⟩ := ar_new (x := 4) (M := M1) (by omega) (by omega) (by omega)
    rw [show M1.1 = 1045 + p by omega] at e2 ar z2
    have ar : Ar (1045 + p) 4 M2 := ar
    have n2 : M2.2.1 = M1.2.1 + 4 := n2
    have kp : Kp (fun a => a ≠ 0) M M2 := u1.kp.tr x2.kp
    have b2 : Bs M2 := h1.1.kp kp (by omega) (by (try dsimp only); omega) (fun j hj => by (try dsimp only); omega)
    have X2 : HX M2 m p fd := by
      refine ⟨h1.kp hm kp b2 (fun a a0 a1 => by (try dsimp only); omega), h2.of (fun b j b0 b1 => kp.i (by omega) (by (try dsimp only); omega)), by omega, by rw [(kp.2.1 1044 (by omega)).1]; exact h4, ar.2.2.1, fun q hq => ?_⟩
      obtain ⟨o1, o2, o3, o4, o5⟩ := h5 q hq
      have e : ∀ j, iV M2 (21 + q) j = iV M (21 + q) j := fun j => kp.i (by omega) (by (try dsimp only); omega)
      refine ⟨?_, by rw [e, e]; exact o2, by rw [(kp.2.1 1044 (by omega)).2]; exact o3, by rw [(kp.2.1 (1045 + q) (by omega)).1]; exact o4, fun j hj => ?_⟩
      · unfold PV at o1 ⊢
        simp only [e]
        exact o1
      · rw [e, kp.i (by omega) (by (try dsimp only); omega)]
        exact o5 j hj
    -- the rows' filling ends
    have fin : ∀ N : xM, Un (fun a => a ≠ 0 ∧ a ≠ 1045 + p) M2 N → (0 ≤ iV N (1045 + p) 0 ∧ iV N (1045 + p) 0 < 3) → (0 ≤ iV N (1045 + p) 1 ∧ iV N (1045 + p) 1 ≤ 127) → (0 ≤ iV N (1045 + p) 2 ∧ iV N (1045 + p) 2 < iV N (1045 + p) 3 ∧ iV N (1045 + p) 3 ≤ 1440) → (iV N (1045 + p) 2 % 60 = 0 ∧ iV N (1045 + p) 3 % 60 = 0) → ∃ t' N', f_Law_areFree_175 O f (f_Law_areFree_82 O f t) 1 0 v2 v3 1044 (p : Int) 1044 (p : Int) (1045 + p) N = f_Law_areFree_82 O f (t' + 1) 1 0 v2 v3 1044 4 N' ∧ HA N' m 4 fd ∧ N'.2.1 = M.2.1 + 4 * (r + 1) := fun N u a b c d => by
      obtain ⟨g1, g2, g3, g4, g5, g6⟩ := X2.un hm (by omega) u
      obtain ⟨N1, e', hA, sz⟩ := fr_175 (O := O) (f := f) (K := f_Law_areFree_82 O f t) (v2 := v2) (v3 := v3) hm (show p < 4 by omega) g1 g2 g3 g4 g6 g5 a b c d (by omega)
      have sN : N.2.1 = M2.2.1 := u.1.2.1
      obtain ⟨t', N', e'', q1, q2⟩ := ih t (p + 1) N1 (by omega) (by omega) hA (by omega)
      rw [show ((p + 1 : Nat) : Int) = (p : Int) + 1 by omega] at e''
      exact ⟨t', N', e'.trans e'', q1, by omega⟩
    have ne0 : ∀ {A B : xM}, Un (fun a => a ≠ 0) A B → Un (fun a => a ≠ 0 ∧ a ≠ 1045 + p) A B := fun u => u.le (fun a q => q.1)
    show ∃ t' N', (if yw 4 ≤ yw (p : Int) then _ else _) = _ ∧ _
    rw [le_F (by omega) (by omega) (by omega), hw.is (k := 0) (ci := 15) (by decide) (by decide), e1, xcl_e]
    rcases hx1 with rfl | rfl
    · -- drawn hours
      have w2 := b2.1
      obtain ⟨x3, M3, e3, x30, x31, w3, u3, i3⟩ := dn_ok (O := O) (f := f) (m := 3) w2 (by omega) (by omega)
      obtain ⟨M4, e4⟩ : ∃ M4, M4 = iS M3 (1045 + p) 0 x3 := ⟨_, rfl⟩
      have u4 : Un (fun a => a ≠ 0 ∧ a ≠ 1045 + p) M2 M4 := by rw [e4]; exact (ne0 u3).iS (fun q => q.2 rfl)
      obtain ⟨x5, M5, e5, x50, x51, w5, u5, i5⟩ := dn_ok (O := O) (f := f) (m := 128) (u4.wd w2) (by omega) (by omega)
      obtain ⟨M6, e6⟩ : ∃ M6, M6 = iS M5 (1045 + p) 1 x5 := ⟨_, rfl⟩
      have u6 : Un (fun a => a ≠ 0 ∧ a ≠ 1045 + p) M2 M6 := by rw [e6]; exact (u4.tr (ne0 u5)).iS (fun q => q.2 rfl)
      obtain ⟨x7, M7, e7, x70, x71, w7, u7, i7⟩ := dn_ok (O := O) (f := f) (m := 12) (u6.wd w2) (by omega) (by omega)
      obtain ⟨M8, e8⟩ : ∃ M8, M8 = iS M7 (1045 + p) 2 (60 * x7) := ⟨_, rfl⟩
      have u8 : Un (fun a => a ≠ 0 ∧ a ≠ 1045 + p) M2 M8 := by rw [e8]; exact (u6.tr (ne0 u7)).iS (fun q => q.2 rfl)
      obtain ⟨x9, M9, e9, x90, x91, w9, u9, i9⟩ := dn_ok (O := O) (f := f) (m := 13) (u8.wd w2) (by omega) (by omega)
      obtain ⟨M10, e10⟩ : ∃ M10, M10 = iS M9 (1045 + p) 3 (60 * (12 + x9)) := ⟨_, rfl⟩
      have u10 : Un (fun a => a ≠ 0 ∧ a ≠ 1045 + p) M2 M10 := by rw [e10]; exact (u8.tr (ne0 u9)).iS (fun q => q.2 rfl)
      have j4 : ∀ {X : xM → Option (Int × xM)}, (wJ M3 (1045 + p) 0 x3).bind X = X M4 := fun {X} => by rw [e4]; exact (ar.un u3).wJ (ix := 0) (by omega) (by omega)
      have j6 : ∀ {X : xM → Option (Int × xM)}, (wJ M5 (1045 + p) 1 x5).bind X = X M6 := fun {X} => by rw [e6]; exact ((ar.un u4).un u5).wJ (ix := 1) (by omega) (by omega)
      have j8 : ∀ {X : xM → Option (Int × xM)}, (wJ M7 (1045 + p) 2 (60 * x7)).bind X = X M8 := fun {X} => by rw [e8]; exact ((ar.un u6).un u7).wJ (ix := 2) (by omega) (by omega)
      have j10 : ∀ {X : xM → Option (Int × xM)}, (wJ M9 (1045 + p) 3 (60 * (12 + x9))).bind X = X M10 := fun {X} => by rw [e10]; exact ((ar.un u8).un u9).wJ (ix := 3) (by omega) (by omega)
      have v3' : iV M10 (1045 + p) 3 = 60 * (12 + x9) := by rw [e10, iV_s (by omega) (by omega)]
      have v2' : iV M10 (1045 + p) 2 = 60 * x7 := by rw [e10, iV_o (by omega), i9, e8, iV_s (by omega) (by omega)]
      have v1' : iV M10 (1045 + p) 1 = x5 := by rw [e10, iV_o (by omega), i9, e8, iV_o (by omega), i7, e6, iV_s (by omega) (by omega)]
      have v0' : iV M10 (1045 + p) 0 = x3 := by rw [e10, iV_o (by omega), i9, e8, iV_o (by omega), i7, e6, iV_o (by omega), i5, e4, iV_s (by omega) (by omega)]
      rw [eq_T rfl, e2, xcl_e, w2.is (k := 0) (ci := 15) (by decide) (by decide), e3, xcl_e, j4, (u4.wd w2).is (k := 0) (ci := 15) (by decide) (by decide), e5, xcl_e, j6, (u6.wd w2).is (k := 0) (ci := 15) (by decide) (by decide), e7, xcl_e, j8, (u8.wd w2).is (k := 0) (ci := 15) (by decide) (by decide), e9, xcl_e, j10]
      exact fin M10 u10 (by omega) (by omega) (by omega) (by omega)
    · obtain ⟨M4, e4⟩ : ∃ M4, M4 = iS M2 (1045 + p) 0 0 := ⟨_, rfl⟩
      have u4 : Un (fun a => a ≠ 0 ∧ a ≠ 1045 + p) M2 M4 := by rw [e4]; exact Un.rf.iS (fun q => q.2 rfl)
      obtain ⟨M6, e6⟩ : ∃ M6, M6 = iS M4 (1045 + p) 1 31 := ⟨_, rfl⟩
      have u6 : Un (fun a => a ≠ 0 ∧ a ≠ 1045 + p) M2 M6 := by rw [e6]; exact u4.iS (fun q => q.2 rfl)
      obtain ⟨M8, e8⟩ : ∃ M8, M8 = iS M6 (1045 + p) 2 540 := ⟨_, rfl⟩
      have u8 : Un (fun a => a ≠ 0 ∧ a ≠ 1045 + p) M2 M8 := by rw [e8]; exact u6.iS (fun q => q.2 rfl)
      obtain ⟨M10, e10⟩ : ∃ M10, M10 = iS M8 (1045 + p) 3 1020 := ⟨_, rfl⟩
      have u10 : Un (fun a => a ≠ 0 ∧ a ≠ 1045 + p) M2 M10 := by rw [e10]; exact u8.iS (fun q => q.2 rfl)
      have j4 : ∀ {X : xM → Option (Int × xM)}, (wJ M2 (1045 + p) 0 0).bind X = X M4 := fun {X} => by rw [e4]; exact ar.wJ (ix := 0) (by omega) (by omega)
      have j6 : ∀ {X : xM → Option (Int × xM)}, (wJ M4 (1045 + p) 1 31).bind X = X M6 := fun {X} => by rw [e6]; exact (ar.un u4).wJ (ix := 1) (by omega) (by omega)
      have j8 : ∀ {X : xM → Option (Int × xM)}, (wJ M6 (1045 + p) 2 540).bind X = X M8 := fun {X} => by rw [e8]; exact (ar.un u6).wJ (ix := 2) (by omega) (by omega)
      have j10 : ∀ {X : xM → Option (Int × xM)}, (wJ M8 (1045 + p) 3 1020).bind X = X M10 := fun {X} => by rw [e10]; exact (ar.un u8).wJ (ix := 3) (by omega) (by omega)
      have v3' : iV M10 (1045 + p) 3 = 1020 := by rw [e10, iV_s (by omega) (by omega)]
      have v2' : iV M10 (1045 + p) 2 = 540 := by rw [e10, iV_o (by omega), e8, iV_s (by omega) (by omega)]
      have v1' : iV M10 (1045 + p) 1 = 31 := by rw [e10, iV_o (by omega), e8, iV_o (by omega), e6, iV_s (by omega) (by omega)]
      have v0' : iV M10 (1045 + p) 0 = 0 := by rw [e10, iV_o (by omega), e8, iV_o (by omega), e6, iV_o (by omega), e4, iV_s (by omega) (by omega)]
      rw [eq_F (by omega) (by omega) (by omega) (by omega) (by omega), e2, xcl_e, j4, j6, j8, j10]
      exact fin M10 u10 (by omega) (by omega) (by omega) (by omega)
theorem areFree_ok (h : St0 M) (hf : 10000 ≤ f) : ∃ M', f_Law_areFree O f 1 0 M = some (1, M') ∧ M'.1 ≤ 2000 ∧ M'.2.1 ≤ 200000 := by
  have hsr0 : ∀ fd : Int, SR M 0 fd := fun fd => h.sr
  obtain ⟨hw, hM, hM2, -, -, -, hzo, -⟩ := h
  obtain ⟨x1, M1, e1, x10, x11, w1, u1, i1⟩ := dn_ok (O := O) (f := f) (m := 400) hw (by omega) (by omega)
  obtain ⟨fd, efd⟩ : ∃ fd, fd = 100 + x1 := ⟨_, rfl⟩
  have b1 : Bs M1 := (hsr0 fd).1.un u1 (by (try dsimp only); omega) (fun j hj => by (try dsimp only); omega)
  have R1 : SR M1 0 fd := (hsr0 fd).un (by omega) u1 b1 (fun a h1 h2 => by (try dsimp only); omega)
  have Z1 : ZZ M1 := by
    refine ⟨fun z hz => ⟨R1.2.1 z hz, ?_⟩, fun z hz => ?_⟩
    · obtain ⟨v1, v2, v3, v4, v5, v6, v7, v8, v9, v10⟩ := hzo z hz
      simp only [i1]
      exact ⟨v3, v4, v5, v6, v7, v8, v9, v10⟩
    · obtain ⟨v1, v2, -⟩ := hzo z hz
      rw [i1, i1, v1, v2]
      exact ⟨rfl, Or.inl rfl⟩
  obtain ⟨t2, M2, e2, R2, Z2, s2, n2⟩ := fr_13 (O := O) (f := f) (fd := fd) (by omega) 3 f 0 M1 (by omega) (by omega) R1 Z1
  have w2 := R2.1.1
  have s1 : M1.1 = M.1 ∧ M1.2.1 = M.2.1 := ⟨u1.1.1, u1.1.2.1⟩
  obtain ⟨x3, M3, e3, x30, x31, w3, u3, i3⟩ := dn_ok (O := O) (f := f) (m := 8) w2 (by omega) (by omega)
  have b3 : Bs M3 := R2.1.un u3 (by (try dsimp only); omega) (fun j hj => by (try dsimp only); omega)
  have R3 : SR M3 0 fd := R2.un (by omega) u3 b3 (fun a h1 h2 => by (try dsimp only); omega)
  have Z3 : ZZ M3 := Z2.of (fun b j _ _ => i3 b j)
  obtain ⟨m, em⟩ : ∃ m : Nat, (m : Int) = 1 + x3 := ⟨(1 + x3).toNat, by omega⟩
  have hm : m ≤ 12 := by omega
  obtain ⟨M4, e4, R4, u4⟩ := series_ok (O := O) (f := f) (m := m) (people := 4) R3 (by omega) (by omega) (by omega) (by omega) hm (by omega)
  have Z4 : ZZ M4 := Z3.of (fun b j b0 b1 => u4.i (by unfold Ps; omega))
  have s4 : M4.1 = 1044 ∧ M4.2.1 = M.2.1 := ⟨by rw [u4.1.1, u3.1.1]; omega, by rw [u4.1.2.1, u3.1.2.1]; omega⟩
  -- the rows of hours
  obtain ⟨M5, e5⟩ : ∃ M5, M5 = mnew M4 (.inr (5, 4)) 4 := ⟨_, rfl⟩
  have n5 : nAJ M4 5 4 = some (1044, M5) := by
    rw [x_nAJ (by omega) (by omega) (by omega), s4.1, e5]
    rfl
  have x5 : Ex M4 M5 := by rw [e5]; exact Ex.new
  have c5 : M5.1 = 1045 ∧ M5.2.1 = M4.2.1 + 4 := by
    rw [e5]
    exact ⟨by show M4.1 + 1 = _; omega, rfl⟩
  have kp5 : Kp (fun _ => True) M4 M5 := x5.kp
  have b5 : Bs M5 := R4.1.kp kp5 (by omega) trivial (fun _ _ => trivial)
  have A5 : HA M5 m 0 fd := ⟨R4.kp hm kp5 b5 (fun _ _ _ => trivial), Z4.of (fun b j b0 b1 => kp5.i (by omega) trivial), by omega, by
    rw [e5]
    show (if 1044 = M4.1 then _ else _) = _
    rw [if_pos s4.1.symm], fun q hq => absurd hq (Nat.not_lt_zero _)⟩
  obtain ⟨t6, M6, e6, A6, n6⟩ := fr_82 (O := O) (f := f) (v2 := fd) (v3 := (m : Int)) hm (by omega) 4 f 0 M5 (by omega) (by omega) A5 (by omega)
  obtain ⟨R6, Z6, c6, s644, H6⟩ := A6
  have w6 := R6.1.1
  obtain ⟨x7, M7, e7, x70, x71, w7, u7, i7⟩ := dn_ok (O := O) (f := f) (m := 24) w6 (by omega) (by omega)
  obtain ⟨x8, M8, e8, x80, x81, w8, u8, i8⟩ := dn_ok (O := O) (f := f) (m := 4320) w7 (by omega) (by omega)
  have u78 := u7.tr u8
  have b8 : Bs M8 := R6.1.un u78 (by (try dsimp only); omega) (fun j hj => by (try dsimp only); omega)
  have R8 : SR M8 m fd := R6.un hm u78 b8 (fun a h1 h2 => by (try dsimp only); omega)
  have s8 : M8.1 = 1049 ∧ M8.2.1 = M6.2.1 := ⟨by rw [u78.1.1]; omega, u78.1.2.1⟩
  obtain ⟨lo, elo⟩ : ∃ lo, lo = 1440 * fd + 60 * x7 := ⟨_, rfl⟩
  obtain ⟨len, elen⟩ : ∃ len : Nat, (len : Int) = 1 + x8 := ⟨(1 + x8).toNat, by omega⟩
  obtain ⟨N9, M9, A, e9, e10, x9, c9, n9, ls, lv, hA⟩ := ldates_ok (O := O) (f := f) (m := m) (lo := lo - 600) (hi := lo + len) R8.hs (by omega) hm (fun j hj => (R8.2.2.1 j hj).1.1) (by omega) (by omega) (by omega) (by omega) (fun k hk d hd hbg p q => by
    have := hcov_ok R8 hm hk hd hbg
    omega) hf
  rw [s8.1] at e9 e10 ls lv
  have a8 : AL M8 m (lo - 600) (lo + len) A := ⟨lv.2.1, hA⟩
  have hlen := (len_fil (q := fun _ => true) R8 hm a8 (by omega) (by omega)).1
  have kp9 : Kp (fun _ => True) M8 M9 := x9.kp
  have b9 : Bs M9 := b8.kp kp9 (by omega) trivial (fun _ _ => trivial)
  have w9 := b9.1
  obtain ⟨x11, M11, e11, x110, x111, w11, u11, i11⟩ := dn_ok (O := O) (f := f) (m := 15) w9 (by omega) (by omega)
  obtain ⟨x12, M12, e12, hx12, w12, u12, i12⟩ := di_ok (O := O) (f := f) (m := 2) w11 (by omega) (by omega)
  -- from the need on
  have rest : ∀ mx : Int, 1 ≤ mx → mx ≤ 600 → ∃ M', f_Law_areFree_295 O f 1 0 1044 lo (len : Int) 1049 (1 + x11) 1 0 mx M12 = some (1, M') ∧ M'.1 ≤ 2000 ∧ M'.2.1 ≤ 200000 := by
    intro mx mx0 mx1
    obtain ⟨x13, M13, e13, x130, x131, w13, u13, i13⟩ := dn_ok (O := O) (f := f) (m := mx) w12 (by omega) (by omega)
    obtain ⟨x14, M14, e14, hx14, w14, u14, i14⟩ := di_ok (O := O) (f := f) (m := 2) w13 (by omega) (by omega)
    have u9_14 : Un (fun a => a ≠ 0) M9 M14 := ((u11.tr u12).tr u13).tr u14
    have s14 : M14.1 = 1054 ∧ M14.2.1 = M9.2.1 := ⟨by rw [u9_14.1.1]; omega, u9_14.1.2.1⟩
    -- two more makings
    obtain ⟨M15, e15⟩ : ∃ M15, M15 = mnew M14 (.inr (2, len)) len := ⟨_, rfl⟩
    have n15 : nAJ M14 2 (len : Int) = some (1054, M15) := by
      rw [x_nAJ (by omega) (by omega) (by omega), s14.1, show ((len : Int)).toNat = len by omega, e15]
    have x15 : Ex M14 M15 := by rw [e15]; exact Ex.new
    have c15 : M15.1 = 1055 ∧ M15.2.1 = M14.2.1 + len := by
      rw [e15]
      exact ⟨by show M14.1 + 1 = _; omega, rfl⟩
    obtain ⟨M16, e16⟩ : ∃ M16, M16 = mmk M15 4 len := ⟨_, rfl⟩
    have n16 : nMJ M15 4 (len : Int) = some (1055, M16) := by
      rw [x_nMJ (by omega) (by omega) (by omega) (by omega) (by omega), c15.1, show ((len : Int)).toNat = len by omega, e16]
      rfl
    have x16 : Ex M15 M16 := by rw [e16]; exact Ex.mmk
    have c16 : M16.1 = 1060 ∧ M16.2.1 = M15.2.1 + (4 + 4 * len) := by
      rw [e16]
      exact ⟨by show M15.1 + (1 + 4) = _; omega, rfl⟩
    have kp : Kp (fun a => a ≠ 0) M8 M16 := (((x9.kp : Kp (fun a => a ≠ 0) M8 M9).tr u9_14.kp).tr x15.kp).tr x16.kp
    have kp6 : Kp (fun a => a ≠ 0) M6 M16 := u78.kp.tr kp
    have kp914 : Kp (fun a => a ≠ 0) M9 M16 := (u9_14.kp.tr x15.kp).tr x16.kp
    have b16 : Bs M16 := b8.kp kp (by omega) (by (try dsimp only); omega) (fun j hj => by (try dsimp only); omega)
    have R16 : SR M16 m fd := R8.kp hm kp b16 (fun a a0 a1 => by (try dsimp only); omega)
    have Z16 : ZZ M16 := Z6.of (fun b j b0 b1 => kp6.i (by omega) (by (try dsimp only); omega))
    have hours : ∀ q, q < 4 → PV M16 q ∧ (iV M16 (21 + q) 2 % 60 = 0 ∧ iV M16 (21 + q) 3 % 60 = 0) ∧ mR M16 1044 q = some (1045 + q) ∧ mS M16 (1045 + q) = .inr (0, 4) ∧ ∀ j, j < 4 → iV M16 (1045 + q) j = iV M16 (21 + q) j := fun q hq => by
      obtain ⟨o1, o2, o3, o4, o5⟩ := H6 q hq
      have e : ∀ j, iV M16 (21 + q) j = iV M6 (21 + q) j := fun j => kp6.i (by omega) (by (try dsimp only); omega)
      refine ⟨?_, by rw [e, e]; exact o2, by rw [(kp6.2.1 1044 (by omega)).2]; exact o3, by rw [(kp6.2.1 (1045 + q) (by omega)).1]; exact o4, fun j hj => ?_⟩
      · unfold PV at o1 ⊢
        simp only [e]
        exact o1
      · rw [e, kp6.i (by omega) (by (try dsimp only); omega)]
        exact o5 j hj
    have FR16 : FR M16 m fd := ⟨R16, Z16.1, fun p hp => (hours p hp).1⟩
    have a16 : AL M16 m (lo - 600) (lo + len) A := a8.of R8 hm (fun b j b0 b1 => kp.i (by omega) (by (try dsimp only); omega))
    have hrn : ∀ y, y ∈ A → rN y < 12 := fun y hy => by
      have := a8.b R8 hm hy
      omega
    have ls16 : LTs 1049 M16 := ls.kp kp914 (by omega)
    have lv16 : LTv 1049 M16 A := lv.kp ls kp914 (fun a a0 a1 => by (try dsimp only); omega) (fun a a0 a1 => by (try dsimp only); omega) hrn
    have s54 : mS M16 1054 = .inr (2, len) := by
      rw [(x16.2 1054 (by omega)).1, e15]
      show (if 1054 = M14.1 then _ else _) = _
      rw [if_pos s14.1.symm]
    have z54 : ∀ i, i < len → iV M16 1054 i = 0 := fun i _ => by
      rw [x16.i (by omega), e15]
      unfold iV
      show ((if 1054 = M14.1 then fun _ => 0 else mI M14 1054) i).toInt = 0
      rw [if_pos s14.1.symm]
      rfl
    have s55 : mS M16 1055 = .inr (5, 4) := by
      rw [e16]
      show (if 1055 = M15.1 then _ else _) = _
      rw [if_pos c15.1.symm]
    have rows : ∀ p, p < 4 → mR M16 1055 p = some (1056 + p) ∧ mS M16 (1056 + p) = .inr (0, len) := fun p hp => by
      rw [e16]
      constructor
      · show (if 1055 = M15.1 then (fun i => if i < 4 then some (M15.1 + 1 + i) else none) else mR M15 1055) p = _
        rw [if_pos c15.1.symm]
        show (if p < 4 then some (M15.1 + 1 + p) else none) = _
        rw [if_pos hp, c15.1]
      · show (if 1056 + p = M15.1 then _ else if M15.1 < 1056 + p ∧ 1056 + p < M15.1 + (1 + 4) then _ else _) = _
        rw [if_neg (by omega), if_pos (by omega)]
    have fb : FB M16 m len fd lo A := ⟨FR16, ⟨Z16.2, fun p hp => (hours p hp).2.1⟩, a16, ls16, lv16, c16.1, by rw [(kp6.2.1 1044 (by omega)).1]; exact s644, s54, s55, fun p hp => ⟨(hours p hp).2.2.1, (hours p hp).2.2.2.1, (hours p hp).2.2.2.2, (rows p hp).1, (rows p hp).2⟩⟩
    obtain ⟨g, eg⟩ : ∃ g : Nat, (g : Int) = 1 + x11 := ⟨(1 + x11).toNat, by omega⟩
    obtain ⟨M', e', q1, q2⟩ := fr_rows (O := O) (f := f) (g := g) (need := 1 + x13) (iw := x14) fb hm (by omega) (by omega) hx14 hlen (by omega) (by omega) (by omega) (by omega) (by omega) (by omega) (by omega) z54 hf
    rw [eg] at e'
    refine ⟨M', ?_, by omega, by omega⟩
    unfold f_Law_areFree_295
    rw [w12.is (k := 0) (ci := 15) (by decide) (by decide), e13, xcl_e, w13.is (k := 0) (ci := 15) (by decide) (by decide), e14, xcl_e, n15, xcl_e, n16, xcl_e]
    exact e'
  have e2' : f_Law_areFree_13 O f f 1 0 fd 0 M1 = f_Law_areFree_13 O f (t2 + 1) 1 0 fd 3 M2 := e2
  have e6' : f_Law_areFree_82 O f f 1 0 fd (m : Int) 1044 0 M5 = f_Law_areFree_82 O f (t6 + 1) 1 0 fd (m : Int) 1044 4 M6 := e6
  have front : ∀ R : Option (Int × xM), (if yw x12 = yw 0 then f_Law_areFree_295 O f 1 0 1044 lo (len : Int) 1049 (1 + x11) 1 0 90 M12 else f_Law_areFree_295 O f 1 0 1044 lo (len : Int) 1049 (1 + x11) 1 0 600 M12) = R → f_Law_areFree O f 1 0 M = R := by
    intro R hR
    unfold f_Law_areFree
    rw [hw.is (k := 0) (ci := 15) (by decide) (by decide), e1, xcl_e, ← efd, e2']
    show (if yw 3 ≤ yw 3 then _ else _) = _
    rw [le_T (by omega) (by omega) (by omega), w2.is (k := 0) (ci := 15) (by decide) (by decide), e3, xcl_e, ← em, e4, xcl_e, n5, xcl_e, e6']
    show (if yw 4 ≤ yw 4 then _ else _) = _
    rw [le_T (by omega) (by omega) (by omega), w6.is (k := 0) (ci := 15) (by decide) (by decide), e7, xcl_e, w7.is (k := 0) (ci := 15) (by decide) (by decide), e8, xcl_e, e9, xcl_e, ← elo, ← elen, e10, xcl_e, w9.is (k := 0) (ci := 15) (by decide) (by decide), e11, xcl_e, w11.is (k := 0) (ci := 15) (by decide) (by decide), e12, xcl_e]
    exact hR
  rcases hx12 with rfl | rfl
  · obtain ⟨M', e', z⟩ := rest 90 (by omega) (by omega)
    refine ⟨M', front _ ?_, z⟩
    rw [eq_T rfl]
    exact e'
  · obtain ⟨M', e', z⟩ := rest 600 (by omega) (by omega)
    refine ⟨M', front _ ?_, z⟩
    rw [eq_F (by omega) (by omega) (by omega) (by omega) (by omega)]
    exact e'
end AFR
end
/-! draft 650.sets -/
section
/-! ===== sets of weekdays counted ===== -/
def setB (S d : Int) : Bool := decide (bitz S ((d + 5) % 7) = 1)
/-- days of a set among so many from a day on -/
def kS (S a : Int) (n : Nat) : Nat := ctN (fun i => setB S (a + i)) n
def pcS (S : Int) : Nat := ctN (fun i => decide (bitz S (i : Int) = 1)) 7
theorem ctN_split {p : Nat → Bool} {m : Nat} : ∀ n, ctN p (m + n) = ctN p m + ctN (fun i => p (m + i)) n
  | 0 => rfl
  | n + 1 => by
    show ctN p (m + n) + (if p (m + n) = true then 1 else 0) = ctN p m + (ctN (fun i => p (m + i)) n + (if p (m + n) = true then 1 else 0))
    rw [ctN_split n]
    omega
theorem kS_add {S a : Int} {m n : Nat} : kS S a (m + n) = kS S a m + kS S (a + m) n := by
  unfold kS
  rw [ctN_split]
  congr 1
  exact ctN_of _ (fun i _ => by
    show setB S (a + ((m + i : Nat) : Int)) = setB S (a + m + i)
    rw [show a + ((m + i : Nat) : Int) = a + m + i by omega])
theorem kS_per {S a : Int} {n q : Nat} : kS S (a + 7 * q) n = kS S a n := ctN_of _ (fun i _ => by
  unfold setB
  rw [show (a + 7 * (q : Int) + i + 5) % 7 = (a + i + 5) % 7 by omega])
theorem ct_7 (g : Nat → Bool) : ∀ c : Nat, c < 7 → ctN (fun i => g ((c + i) % 7)) 7 = ctN g 7 := by
  intro c hc
  have h : c = 0 ∨ c = 1 ∨ c = 2 ∨ c = 3 ∨ c = 4 ∨ c = 5 ∨ c = 6 := by omega
  have e : ∀ p : Nat → Bool, ctN p 7 = 0 + (if p 0 = true then 1 else 0) + (if p 1 = true then 1 else 0) + (if p 2 = true then 1 else 0) + (if p 3 = true then 1 else 0) + (if p 4 = true then 1 else 0) + (if p 5 = true then 1 else 0) + (if p 6 = true then 1 else 0) := fun p => rfl
  rw [e, e]
  rcases h with rfl | rfl | rfl | rfl | rfl | rfl | rfl <;> simp only [Nat.reduceAdd, Nat.reduceMod] <;> omega
theorem kS_7 {S a : Int} : kS S a 7 = pcS S := by
  have h := ct_7 (fun i => decide (bitz S (i : Int) = 1)) ((a + 5) % 7).toNat (by omega)
  unfold pcS
  rw [← h]
  refine ctN_of _ (fun i hi => ?_)
  show decide (bitz S ((a + i + 5) % 7) = 1) = decide (bitz S (((((a + 5) % 7).toNat + i) % 7 : Nat) : Int) = 1)
  rw [show (a + i + 5) % 7 = (((((a + 5) % 7).toNat + i) % 7 : Nat) : Int) by omega]
theorem kS_7q {S : Int} : ∀ (q : Nat) (a : Int), kS S a (7 * q) = q * pcS S
  | 0, _ => by
    show (0 : Nat) = _
    omega
  | q + 1, a => by
    rw [show 7 * (q + 1) = 7 + 7 * q by omega, kS_add, kS_7, kS_7q q, Nat.succ_mul]
    omega
theorem kS_week {S a : Int} (n : Nat) : kS S a n = n / 7 * pcS S + kS S a (n % 7) := by
  have e : n = 7 * (n / 7) + n % 7 := by omega
  have h : kS S a (7 * (n / 7) + n % 7) = n / 7 * pcS S + kS S a (n % 7) := by
    rw [kS_add, kS_7q]
    congr 1
    rw [show a + ((7 * (n / 7) : Nat) : Int) = a + 7 * ((n / 7 : Nat) : Int) by omega]
    exact kS_per
  rw [← h, ← e]
/-- counted backwards -/
theorem kS_rev {S d : Int} : ∀ n : Nat, ctN (fun i => setB S (d - i)) n = kS S (d - n + 1) n
  | 0 => rfl
  | n + 1 => by
    show ctN (fun i => setB S (d - i)) n + (if setB S (d - (n : Int)) = true then 1 else 0) = _
    rw [kS_rev n, show n + 1 = 1 + n by omega, kS_add]
    have e1 : kS S (d - ((1 + n : Nat) : Int) + 1) 1 = (if setB S (d - (n : Int)) = true then 1 else 0) := by
      show 0 + (if setB S (d - ((1 + n : Nat) : Int) + 1 + ((0 : Nat) : Int)) = true then 1 else 0) = _
      rw [show d - ((1 + n : Nat) : Int) + 1 + ((0 : Nat) : Int) = d - n by omega]
      omega
    rw [e1, show d - ((1 + n : Nat) : Int) + 1 + ((1 : Nat) : Int) = d - n + 1 by omega]
    omega
theorem kS_le {S a : Int} {n : Nat} : kS S a n ≤ n := ctN_le n
def bcE (x : Int) : Int :=
  let x1 := x - jand (jushr x 1) 1431655765
  let x2 := jand x1 858993459 + jand (jushr x1 2) 858993459
  let x3 := jand (x2 + jushr x2 4) 252645135
  jand ((x3 + jushr x3 8) + jushr (x3 + jushr x3 8) 16) 63
theorem bc_all : ∀ n : Nat, n < 128 → bcE (n : Int) = ((pcS (n : Int) : Nat) : Int) := by decide +kernel
theorem pc_pos : ∀ n : Nat, n < 128 → 0 < n → 0 < pcS (n : Int) := by decide +kernel
theorem and127 : ∀ n : Nat, n < 128 → jand (n : Int) 127 = (n : Int) := by decide +kernel
section PSE
variable {O : Nat → Option va_E} {f k : Nat} {M : xM} {x S d : Int}
theorem bitCount_ok (h0 : 0 ≤ x) (h1 : x ≤ 127) : f_Integer_bitCount O f x M = some (((pcS x : Nat) : Int), M) := by
  obtain ⟨n, rfl⟩ := Int.eq_ofNat_of_zero_le h0
  have e := bc_all n (by omega)
  show some (bcE (n : Int), M) = _
  rw [e]
theorem pcS_le : pcS S ≤ 7 := ctN_le 7
theorem setB_iff : setB S d = true ↔ bitz S ((d + 5) % 7) = 1 := decide_eq_true_iff
theorem placeInSet_ok {o w : Int} (h : Wd M) (hk : k < 12) (s0 : 0 ≤ iV M (30 + 6 * k) 3) (s1 : iV M (30 + 6 * k) 3 ≤ 127) (hw : w = 1 ∨ w = -1) (o0 : 0 ≤ o) (o1 : o ≤ 40) (d0 : 50 ≤ d ∨ (w = 1 ∧ 0 ≤ d) ∨ o ≤ d) (d00 : 0 ≤ d) (d1 : d ≤ 200000) (hf : 20 ≤ f) : f_Rule_placeInSet O f (30 + 6 * k) d o w M = some (((kS (iV M (30 + 6 * k) 3) (if w = 1 then d else d - o) (o + 1).toNat : Nat) : Int), M) := by
  obtain ⟨S, eS⟩ : ∃ S, S = iV M (30 + 6 * k) 3 := ⟨_, rfl⟩
  rw [← eS] at s0 s1 ⊢
  have pl := pcS_le (S := S)
  have qp : (o / 7).toNat * pcS S ≤ 7 * 7 := Nat.mul_le_mul (by omega) pl
  have key : ∀ (r t j : Nat), (j : Int) + r = o % 7 + 1 → r < t → f_Rule_placeInSet_17 O f t (30 + 6 * k) d o w (((o / 7).toNat * pcS S + ctN (fun i => setB S (d + w * i)) j : Nat) : Int) (j : Int) M = some ((((o / 7).toNat * pcS S + ctN (fun i => setB S (d + w * i)) (o % 7 + 1).toNat : Nat) : Int), M) := by
    intro r
    induction r with
    | zero =>
      intro t j hj ht
      obtain ⟨t, rfl⟩ : ∃ n', t = n' + 1 := ⟨t - 1, by omega⟩
      show (if yw (o - (jdiv o 7) * 7) < yw (j : Int) then _ else _) = _
      rw [jrem_e o0 (by omega) (by omega) (by omega), lt_T (by omega) (by omega) (by omega), show (o % 7 + 1).toNat = j by omega]
    | succ r ih =>
      intro t j hj ht
      obtain ⟨t, rfl⟩ : ∃ n', t = n' + 1 := ⟨t - 1, by omega⟩
      have cj := ctN_le (p := fun i => setB S (d + w * i)) j
      have q := ih t (j + 1) (by omega) (by omega)
      have st : ctN (fun i => setB S (d + w * i)) (j + 1) = ctN (fun i => setB S (d + w * i)) j + (if setB S (d + w * (j : Int)) = true then 1 else 0) := rfl
      rw [st, show ((j + 1 : Nat) : Int) = (j : Int) + 1 by omega] at q
      have wj : -5 ≤ d + w * (j : Int) ∧ d + w * (j : Int) ≤ 1000000 := by
        rcases hw with rfl | rfl <;> omega
      show (if yw (o - (jdiv o 7) * 7) < yw (j : Int) then _ else _) = _
      rw [jrem_e o0 (by omega) (by omega) (by omega), lt_F (by omega) (by omega) (by omega), a_Rule_days h hk, xc_of (e_weekdayOf wj.1 wj.2), ← eS, bit_e s0 (by omega) (by omega) (by omega)]
      by_cases g : bitz S ((d + w * (j : Int) + 5) % 7) = 1
      · rw [eq_T g]
        rw [if_pos (setB_iff.mpr g)] at q
        rw [show (((o / 7).toNat * pcS S + ctN (fun i => setB S (d + w * i)) j : Nat) : Int) + 1 = (((o / 7).toNat * pcS S + (ctN (fun i => setB S (d + w * i)) j + 1) : Nat) : Int) by omega]
        exact q
      · have bl := bitz_lt (x := S) (k := (d + w * (j : Int) + 5) % 7)
        rw [eq_F g (by omega) (by omega) (by omega) (by omega)]
        rw [if_neg (fun z => g (setB_iff.mp z))] at q
        exact q
  have kk := key (o % 7 + 1).toNat f 0 (by omega) (by omega)
  have e0 : (((o / 7).toNat * pcS S + ctN (fun i => setB S (d + w * i)) 0 : Nat) : Int) = o / 7 * ((pcS S : Nat) : Int) := by
    show (((o / 7).toNat * pcS S + 0 : Nat) : Int) = _
    rw [Nat.add_zero, Int.natCast_mul, Int.toNat_of_nonneg (by omega)]
  rw [e0] at kk
  have fin : (o / 7).toNat * pcS S + ctN (fun i => setB S (d + w * i)) (o % 7 + 1).toNat = kS S (if w = 1 then d else d - o) (o + 1).toNat := by
    have n1 : (o + 1).toNat = 7 * (o / 7).toNat + (o % 7 + 1).toNat := by omega
    rw [n1, kS_add, kS_7q]
    congr 1
    rcases hw with rfl | rfl
    · rw [if_pos rfl, show d + ((7 * (o / 7).toNat : Nat) : Int) = d + 7 * (((o / 7).toNat : Nat) : Int) by omega, kS_per]
      exact ctN_of _ (fun i _ => by rw [show d + 1 * (i : Int) = d + i by omega])
    · rw [if_neg (by decide)]
      have e : ctN (fun i => setB S (d + -1 * (i : Int))) (o % 7 + 1).toNat = ctN (fun i => setB S (d - i)) (o % 7 + 1).toNat := ctN_of _ (fun i _ => by rw [show d + -1 * (i : Int) = d - i by omega])
      rw [e, kS_rev, show d - (((o % 7 + 1).toNat : Nat) : Int) + 1 = d - o + ((7 * (o / 7).toNat : Nat) : Int) by omega]
  rw [fin] at kk
  unfold f_Rule_placeInSet
  rw [a_Rule_days h hk, ← eS, bitCount_ok s0 s1, xcl_e, jdiv_e o0 (by omega) (by omega) (by omega)]
  exact kk
end PSE
end
/-! draft 651.holds -/
section
/-! ===== the rule's conditions ===== -/
def ahd (d : Int) : Int := d - cBegin (cMonth d)
def bhd (d : Int) : Int := cLen (cMonth d) - 1 - ahd d
def sdR (r : Nat → Int) : Int := if r 1 = 5 then 12 * r 2 else r 2
/-- what holds of a day in its month -/
def mcR (r : Nat → Int) (d : Int) : Prop := if r 1 = 5 then ahd d = ahd (r 0) else if r 1 = 3 then (if 0 < r 4 then ahd d + 1 = r 4 else bhd d + 1 = -r 4) else (bitz (r 3) ((d + 5) % 7) = 1 ∧ (if 0 < r 4 then ((kS (r 3) (d - ahd d) (ahd d + 1).toNat : Nat) : Int) = r 4 else ((kS (r 3) d (bhd d + 1).toNat : Nat) : Int) = -r 4))
def hol (r : Nat → Int) (d : Int) : Prop := if r 1 = 0 then d = r 0 else if r 1 = 1 then (d - r 0) % r 2 = 0 else if r 1 = 2 then (bitz (r 3) ((d + 5) % 7) = 1 ∧ ((d + 5) / 7 - (r 0 + 5) / 7) % r 2 = 0) else ((cMonth d - cMonth (r 0)) % sdR r = 0 ∧ mcR r d)
/-- a sound rule -/
def RVg (r : Nat → Int) : Prop := (10 ≤ r 0 ∧ r 0 ≤ 146000) ∧ (0 ≤ r 1 ∧ r 1 ≤ 5) ∧ (r 1 ≠ 0 → 1 ≤ r 2 ∧ r 2 ≤ 99) ∧ (0 ≤ r 3 ∧ r 3 ≤ 127) ∧ (r 1 = 2 ∨ r 1 = 4 → 1 ≤ r 3) ∧ (-31 ≤ r 4 ∧ r 4 ≤ 31) ∧ (r 1 = 3 → r 4 ≠ 0) ∧ (r 1 = 4 → r 4 ≠ 0 ∧ -5 ≤ r 4 ∧ r 4 ≤ 5) ∧ (-100 ≤ r 7 ∧ r 7 ≤ 146000) ∧ (r 1 = 0 → r 2 ≤ 0)
def Dg (r : Nat → Int) (d : Int) : Prop := r 0 ≤ d ∧ d ≤ r 7 ∧ hol r d
section HLD
variable {O : Nat → Option va_E} {f k : Nat} {M : xM} {d : Int}
theorem ahd_r (h0 : 0 ≤ d) (h1 : d < 146097) : 0 ≤ ahd d ∧ 0 ≤ bhd d ∧ ahd d + bhd d + 1 = cLen (cMonth d) ∧ 28 ≤ cLen (cMonth d) ∧ cLen (cMonth d) ≤ 31 ∧ ahd d ≤ d ∧ 0 ≤ cMonth d ∧ cMonth d < 4800 := by
  have c := c_in h0 h1
  have l := cLen_r (cMonth d)
  have b := c_begin_r c.1 c.2.1
  unfold bhd ahd
  omega
theorem monthStep_ok (h : Wd M) (hk : k < 12) (hr : RVg (iV M (30 + 6 * k))) (k3 : 3 ≤ iV M (30 + 6 * k) 1) : f_Rule_monthStep O f (30 + 6 * k) M = some (sdR (iV M (30 + 6 * k)), M) ∧ 1 ≤ sdR (iV M (30 + 6 * k)) ∧ sdR (iV M (30 + 6 * k)) ≤ 1200 := by
  obtain ⟨-, -, s, -⟩ := hr
  have st := s (by omega)
  unfold f_Rule_monthStep f_Rule_monthStep_23 sdR
  rw [a_Rule_kind h hk]
  by_cases g : iV M (30 + 6 * k) 1 = 5
  · rw [eq_T g, if_pos g, a_Rule_step h hk, xc_of (e_max (by omega) (by omega) (by omega) (by omega)), show max 1 (12 * iV M (30 + 6 * k) 2) = 12 * iV M (30 + 6 * k) 2 by omega]
    exact ⟨rfl, by omega, by omega⟩
  · have rk := iV_r M (30 + 6 * k) 1
    rw [eq_F g (by omega) (by omega) (by omega) (by omega), if_neg g, a_Rule_step h hk, xc_of (e_max (by omega) (by omega) (by omega) (by omega)), show max 1 (iV M (30 + 6 * k) 2) = iV M (30 + 6 * k) 2 by omega]
    exact ⟨rfl, by omega, by omega⟩
theorem holds_ok (h : Wd M) (hk : k < 12) (hr : RVg (iV M (30 + 6 * k))) (d0 : iV M (30 + 6 * k) 0 ≤ d) (d1 : d ≤ 146096) (hf : 20 ≤ f) : ∃ b, f_Rule_holds O f (30 + 6 * k) d M = some (b, M) ∧ ((b = 1 ∧ hol (iV M (30 + 6 * k)) d) ∨ (b = 0 ∧ ¬ hol (iV M (30 + 6 * k)) d)) := by
  have hr' := hr
  have ms := monthStep_ok (O := O) (f := f) h hk hr
  obtain ⟨⟨f0, f1⟩, ⟨k0, k5⟩, st, ⟨s0, s1⟩, -, ⟨p0, p1⟩, pm, ps, -⟩ := hr'
  -- an answer
  have ans : ∀ {c : Prop} {x y : Int} {N : xM}, (c ↔ x = y) → -2147483648 ≤ x → x ≤ 2147483647 → -2147483648 ≤ y → y ≤ 2147483647 → ∃ b, (if yw x = yw y then (some (1, N) : Option (Int × xM)) else some (0, N)) = some (b, N) ∧ ((b = 1 ∧ c) ∨ (b = 0 ∧ ¬ c)) := fun {c x y N} hc x0 x1 y0 y1 => by
    by_cases g : x = y
    · rw [eq_T g]
      exact ⟨1, rfl, Or.inl ⟨rfl, hc.mpr g⟩⟩
    · rw [eq_F g x0 x1 y0 y1]
      exact ⟨0, rfl, Or.inr ⟨rfl, fun z => g (hc.mp z)⟩⟩
  unfold f_Rule_holds
  rw [a_Rule_first h hk, lt_F d0 (by omega) (by omega), a_Rule_kind h hk]
  by_cases c0 : iV M (30 + 6 * k) 1 = 0
  · rw [eq_T c0]
    unfold f_Rule_holds_23
    rw [a_Rule_first h hk]
    refine ans ?_ (by omega) (by omega) (by omega) (by omega)
    unfold hol
    rw [if_pos c0]
  have st' := st c0
  rw [eq_F c0 (by omega) (by omega) (by omega) (by omega), a_Rule_step h hk, le_T (by omega) (by omega) (by omega), a_Rule_kind h hk]
  by_cases c1 : iV M (30 + 6 * k) 1 = 1
  · have e0 := Int.emod_nonneg (d - iV M (30 + 6 * k) 0) (show iV M (30 + 6 * k) 2 ≠ 0 by omega)
    have e1 := Int.emod_lt_of_pos (d - iV M (30 + 6 * k) 0) (show 0 < iV M (30 + 6 * k) 2 by omega)
    rw [eq_T c1, a_Rule_first h hk, a_Rule_step h hk, eq_F (by omega) (by omega) (by omega) (by omega) (by omega), xlet_e, jrem_e (by omega) (by omega) (by omega) (by omega)]
    refine ans ?_ (by omega) (by omega) (by omega) (by omega)
    unfold hol
    rw [if_neg c0, if_pos c1]
  rw [eq_F c1 (by omega) (by omega) (by omega) (by omega), a_Rule_days h hk, xc_of (e_weekdayOf (by omega) (by omega)), bit_e s0 (by omega) (by omega) (by omega)]
  have bl := bitz_lt (x := iV M (30 + 6 * k) 3) (k := (d + 5) % 7)
  -- the set's bit
  have two : ∀ s : Int, (s = 0 ∨ s = 1) → (s = 1 ↔ bitz (iV M (30 + 6 * k) 3) ((d + 5) % 7) = 1) → ∃ b, f_Rule_holds_85 O f (30 + 6 * k) d s M = some (b, M) ∧ ((b = 1 ∧ hol (iV M (30 + 6 * k)) d) ∨ (b = 0 ∧ ¬ hol (iV M (30 + 6 * k)) d)) := by
    intro s hs hsb
    unfold f_Rule_holds_85
    rw [a_Rule_kind h hk]
    by_cases c2 : iV M (30 + 6 * k) 1 = 2
    · rw [eq_T c2]
      have hh : hol (iV M (30 + 6 * k)) d ↔ bitz (iV M (30 + 6 * k) 3) ((d + 5) % 7) = 1 ∧ ((d + 5) / 7 - (iV M (30 + 6 * k) 0 + 5) / 7) % iV M (30 + 6 * k) 2 = 0 := by
        unfold hol
        rw [if_neg c0, if_neg c1, if_pos c2]
      rw [hh]
      rcases hs with rfl | rfl
      · rw [eq_T rfl]
        exact ⟨0, rfl, Or.inr ⟨rfl, fun z => by have := hsb.mpr z.1; omega⟩⟩
      · have e0 := Int.emod_nonneg ((d + 5) / 7 - (iV M (30 + 6 * k) 0 + 5) / 7) (show iV M (30 + 6 * k) 2 ≠ 0 by omega)
        have e1 := Int.emod_lt_of_pos ((d + 5) / 7 - (iV M (30 + 6 * k) 0 + 5) / 7) (show 0 < iV M (30 + 6 * k) 2 by omega)
        rw [eq_F (by omega) (by omega) (by omega) (by omega) (by omega), xc_of (e_weekOf (by omega) (by omega)), a_Rule_first h hk, xc_of (e_weekOf (by omega) (by omega)), a_Rule_step h hk, eq_F (by omega) (by omega) (by omega) (by omega) (by omega), xlet_e, jrem_e (by omega) (by omega) (by omega) (by omega)]
        exact ans ⟨fun z => z.2, fun z => ⟨hsb.mp rfl, z⟩⟩ (by omega) (by omega) (by omega) (by omega)
    · have k3 : 3 ≤ iV M (30 + 6 * k) 1 := by omega
      obtain ⟨em, m0, m1⟩ := ms k3
      have ad := ahd_r (d := d) (by omega) (by omega)
      have af := ahd_r (d := iV M (30 + 6 * k) 0) (by omega) (by omega)
      have mm := c_month_mono (d := iV M (30 + 6 * k) 0) (e := d) (by omega) d0 (by omega)
      have cd := c_in (d := d) (by omega) (by omega)
      have bd := c_begin_r cd.1 cd.2.1
      have cf := c_in (d := iV M (30 + 6 * k) 0) (by omega) (by omega)
      have bf := c_begin_r cf.1 cf.2.1
      have hh : hol (iV M (30 + 6 * k)) d ↔ (cMonth d - cMonth (iV M (30 + 6 * k) 0)) % sdR (iV M (30 + 6 * k)) = 0 ∧ mcR (iV M (30 + 6 * k)) d := by
        unfold hol
        rw [if_neg c0, if_neg c1, if_neg c2]
      rw [hh]
      have e0 := Int.emod_nonneg (cMonth d - cMonth (iV M (30 + 6 * k) 0)) (show sdR (iV M (30 + 6 * k)) ≠ 0 by omega)
      have e1 := Int.emod_lt_of_pos (cMonth d - cMonth (iV M (30 + 6 * k) 0)) (show 0 < sdR (iV M (30 + 6 * k)) by omega)
      rw [eq_F c2 (by omega) (by omega) (by omega) (by omega), xc_of (e_monthOf (by omega) (by omega)), a_Rule_first h hk, xc_of (e_monthOf (by omega) (by omega)), a_Rule_is h hk, em, xcl_e, lt_F m0 (by omega) (by omega), eq_F (by omega) (by omega) (by omega) (by omega) (by omega), xlet_e, jrem_e (by omega) (by omega) (by omega) (by omega)]
      by_cases g : (cMonth d - cMonth (iV M (30 + 6 * k) 0)) % sdR (iV M (30 + 6 * k)) = 0
      · rw [eq_T g, xc_of (e_monthBegin (by omega) (by omega)), xc_of (e_monthLength (by omega) (by omega)), a_Rule_kind h hk]
        have h2 : ((cMonth d - cMonth (iV M (30 + 6 * k) 0)) % sdR (iV M (30 + 6 * k)) = 0 ∧ mcR (iV M (30 + 6 * k)) d) ↔ mcR (iV M (30 + 6 * k)) d := ⟨fun z => z.2, fun z => ⟨g, z⟩⟩
        rw [h2]
        unfold mcR
        by_cases c5 : iV M (30 + 6 * k) 1 = 5
        · rw [eq_T c5, if_pos c5, a_Rule_first h hk, xc_of (e_monthBegin (by omega) (by omega))]
          exact ans (by unfold ahd; exact Iff.rfl) (by omega) (by omega) (by omega) (by omega)
        · rw [eq_F c5 (by omega) (by omega) (by omega) (by omega), if_neg c5, a_Rule_kind h hk]
          by_cases c3 : iV M (30 + 6 * k) 1 = 3
          · rw [eq_T c3, if_pos c3, a_Rule_place h hk]
            by_cases gp : iV M (30 + 6 * k) 4 ≤ 0
            · rw [le_T gp (by omega) (by omega), if_neg (by omega), a_Rule_place h hk]
              exact ans (by unfold bhd ahd; exact Iff.rfl) (by omega) (by omega) (by omega) (by omega)
            · rw [le_F (by omega) (by omega) (by omega), if_pos (by omega), a_Rule_place h hk]
              exact ans (by unfold ahd; exact Iff.rfl) (by omega) (by omega) (by omega) (by omega)
          · rw [eq_F c3 (by omega) (by omega) (by omega) (by omega), if_neg c3]
            rcases hs with rfl | rfl
            · rw [eq_T rfl]
              exact ⟨0, rfl, Or.inr ⟨rfl, fun z => by have := hsb.mpr z.1; omega⟩⟩
            · rw [eq_F (by omega) (by omega) (by omega) (by omega) (by omega), a_Rule_place h hk]
              have sb := hsb.mp rfl
              have eb : cLen (cMonth d) - 1 - (d - cBegin (cMonth d)) = bhd d := rfl
              have ea : d - cBegin (cMonth d) = ahd d := rfl
              by_cases gp : iV M (30 + 6 * k) 4 ≤ 0
              · have kl := kS_le (S := iV M (30 + 6 * k) 3) (a := d) (n := (bhd d + 1).toNat)
                rw [le_T gp (by omega) (by omega), if_neg (by omega), a_Rule_is h hk, eb, placeInSet_ok h hk s0 s1 (Or.inl rfl) (by omega) (by omega) (Or.inr (Or.inl ⟨rfl, by omega⟩)) (by omega) (by omega) hf, xcl_e, a_Rule_place h hk, if_pos rfl]
                exact ans ⟨fun z => z.2, fun z => ⟨sb, z⟩⟩ (by omega) (by omega) (by omega) (by omega)
              · have kl := kS_le (S := iV M (30 + 6 * k) 3) (a := d - ahd d) (n := (ahd d + 1).toNat)
                rw [le_F (by omega) (by omega) (by omega), if_pos (by omega), a_Rule_is h hk, ea, placeInSet_ok h hk s0 s1 (Or.inr rfl) (by omega) (by omega) (Or.inr (Or.inr (by omega))) (by omega) (by omega) hf, xcl_e, a_Rule_place h hk, show (if (-1 : Int) = 1 then d else d - ahd d) = d - ahd d from if_neg (by decide)]
                exact ans ⟨fun z => z.2, fun z => ⟨sb, z⟩⟩ (by omega) (by omega) (by omega) (by omega)
      · rw [eq_F g (by omega) (by omega) (by omega) (by omega)]
        exact ⟨0, rfl, Or.inr ⟨rfl, fun z => g z.1⟩⟩
  by_cases gb : bitz (iV M (30 + 6 * k) 3) ((d + 5) % 7) = 1
  · rw [eq_T gb]
    exact two 1 (Or.inr rfl) ⟨fun _ => gb, fun _ => rfl⟩
  · rw [eq_F gb (by omega) (by omega) (by omega) (by omega)]
    exact two 0 (Or.inl rfl) ⟨fun z => by omega, fun z => (gb z).elim⟩
theorem isDayG_ok (h : Wd M) (hk : k < 12) (hr : RVg (iV M (30 + 6 * k))) (d0 : -1000000 ≤ d) (d1 : d ≤ 1000000) (hf : 20 ≤ f) : ∃ b, f_Rule_isDay O f (30 + 6 * k) d M = some (b, M) ∧ ((b = 0 ∧ ¬ Dg (iV M (30 + 6 * k)) d) ∨ (b = 1 ∧ Dg (iV M (30 + 6 * k)) d)) := by
  have hr' := hr
  obtain ⟨⟨f0, f1⟩, -, -, -, -, -, -, -, ⟨l0, l1⟩, -⟩ := hr'
  unfold f_Rule_isDay Dg
  rw [a_Rule_first h hk]
  by_cases g1 : d < iV M (30 + 6 * k) 0
  · rw [lt_T g1 (by omega) (by omega)]
    exact ⟨0, rfl, Or.inl ⟨rfl, fun z => by omega⟩⟩
  · rw [lt_F (by omega) (by omega) (by omega), a_Rule_last h hk]
    by_cases g2 : iV M (30 + 6 * k) 7 < d
    · rw [lt_T g2 (by omega) (by omega)]
      exact ⟨0, rfl, Or.inl ⟨rfl, fun z => by omega⟩⟩
    · obtain ⟨b, eb, ob⟩ := holds_ok (O := O) (f := f) h hk hr (d := d) (by omega) (by omega) hf
      rw [lt_F (by omega) (by omega) (by omega), a_Rule_is h hk, eb, xcl_e]
      rcases ob with ⟨rfl, q⟩ | ⟨rfl, q⟩
      · rw [eq_F (by omega) (by omega) (by omega) (by omega) (by omega)]
        exact ⟨1, rfl, Or.inr ⟨rfl, by omega, by omega, q⟩⟩
      · rw [eq_T rfl]
        exact ⟨0, rfl, Or.inl ⟨rfl, fun z => q z.2.2⟩⟩
end HLD
end
/-! draft 652.dayinmonth -/
section
/-! ===== the day of a rule in a month ===== -/
theorem ctN_set {p : Nat → Bool} {i j : Nat} (hij : i < j) (hp : p j = true) : ctN p (i + 1) < ctN p (j + 1) := by
  have h1 : ctN p (j + 1) = ctN p j + 1 := by
    show ctN p j + (if p j = true then 1 else 0) = _
    rw [if_pos hp]
  have h2 := ctN_mono (p := p) (a := i + 1) (j - (i + 1))
  rw [show i + 1 + (j - (i + 1)) = j by omega] at h2
  omega
section DIM
variable {O : Nat → Option va_E} {f k : Nat} {M : xM} {d m w : Int}
theorem dos_62 {e len : Int} (h : Wd M) (hk : k < 12) (s0 : 0 ≤ iV M (30 + 6 * k) 3) (s1 : iV M (30 + 6 * k) 3 ≤ 127) (hw : (w = 1 ∧ 0 < iV M (30 + 6 * k) 4 ∧ 0 ≤ e) ∨ (w = -1 ∧ iV M (30 + 6 * k) 4 ≤ 0 ∧ len - 1 ≤ e)) (hp : -31 ≤ iV M (30 + 6 * k) 4 ∧ iV M (30 + 6 * k) 4 ≤ 31) (l0 : 0 ≤ len) (l1 : len ≤ 31) (e1 : e ≤ 200000) {p : Nat} : ∀ (r t j : Nat) (mo : Int), len - j ≤ r → r < t → (j : Int) ≤ 1000 → 0 ≤ mo → mo ≤ 1000 → ((ctN (fun i : Nat => setB (iV M (30 + 6 * k) 3) (e + w * (i : Int))) j : Nat) : Int) + mo = p → ∃ x, f_Rule_dayOfSet_62 O f t (30 + 6 * k) len mo e (j : Int) M = some (x, M) ∧ ((x = -1 ∧ ∀ i : Nat, (i : Int) < len → ¬ (setB (iV M (30 + 6 * k) 3) (e + w * i) = true ∧ ctN (fun i : Nat => setB (iV M (30 + 6 * k) 3) (e + w * (i : Int))) (i + 1) = p + 1)) ∨ ∃ i : Nat, (i : Int) < len ∧ x = e + w * i ∧ setB (iV M (30 + 6 * k) 3) (e + w * i) = true ∧ ctN (fun i : Nat => setB (iV M (30 + 6 * k) 3) (e + w * (i : Int))) (i + 1) = p + 1) := by
  obtain ⟨g, eg⟩ : ∃ g : Nat → Bool, g = fun (i : Nat) => setB (iV M (30 + 6 * k) 3) (e + w * (i : Int)) := ⟨_, rfl⟩
  rw [← eg]
  have gi : ∀ i : Nat, setB (iV M (30 + 6 * k) 3) (e + w * (i : Int)) = g i := fun i => by rw [eg]
  intro r
  induction r with
  | zero =>
    intro t j mo h1 h2 j1 m0 m1 hc
    obtain ⟨t, rfl⟩ : ∃ n', t = n' + 1 := ⟨t - 1, by omega⟩
    refine ⟨-1, ?_, Or.inl ⟨rfl, fun i hi ⟨q1, q2⟩ => ?_⟩⟩
    · show (if yw len ≤ yw (j : Int) then _ else _) = _
      rw [le_T (by omega) (by omega) (by omega)]
    · have := ctN_mono (p := g) (a := i + 1) (j - (i + 1))
      rw [show i + 1 + (j - (i + 1)) = j by omega] at this
      omega
  | succ r ih =>
    intro t j mo h1 h2 j1 m0 m1 hc
    obtain ⟨t, rfl⟩ : ∃ n', t = n' + 1 := ⟨t - 1, by omega⟩
    by_cases c : len ≤ j
    · refine ⟨-1, ?_, Or.inl ⟨rfl, fun i hi ⟨q1, q2⟩ => ?_⟩⟩
      · show (if yw len ≤ yw (j : Int) then _ else _) = _
        rw [le_T c (by omega) (by omega)]
      · have := ctN_mono (p := g) (a := i + 1) (j - (i + 1))
        rw [show i + 1 + (j - (i + 1)) = j by omega] at this
        omega
    · have day : f_Rule_dayOfSet_62 O f (t + 1) (30 + 6 * k) len mo e (j : Int) M = f_Rule_dayOfSet_88 O f (f_Rule_dayOfSet_62 O f t) (30 + 6 * k) len mo e (j : Int) (e + w * j) M := by
        show (if yw len ≤ yw (j : Int) then _ else _) = _
        rw [le_F (by omega) (by omega) (by omega), a_Rule_place h hk]
        rcases hw with ⟨w1, w2, w3⟩ | ⟨w1, w2, w3⟩
        · rw [le_F (by omega) (by omega) (by omega), w1, show e + 1 * (j : Int) = e + j by omega]
        · rw [le_T (by omega) (by omega) (by omega), w1, show e + -1 * (j : Int) = e - j by omega]
      have wj : -5 ≤ e + w * (j : Int) ∧ e + w * (j : Int) ≤ 1000000 := by
        rcases hw with ⟨rfl, w2, w3⟩ | ⟨rfl, w2, w3⟩ <;> omega
      rw [day]
      unfold f_Rule_dayOfSet_88
      rw [a_Rule_days h hk, xc_of (e_weekdayOf wj.1 wj.2), bit_e s0 (by omega) (by omega) (by omega)]
      have bl := bitz_lt (x := iV M (30 + 6 * k) 3) (k := (e + w * (j : Int) + 5) % 7)
      have st : ctN g (j + 1) = ctN g j + (if g j = true then 1 else 0) := rfl
      by_cases b : bitz (iV M (30 + 6 * k) 3) ((e + w * (j : Int) + 5) % 7) = 1
      · have gj : g j = true := by rw [← gi]; exact setB_iff.mpr b
        rw [if_pos gj] at st
        rw [eq_T b]
        by_cases z : mo = 0
        · rw [eq_T z]
          exact ⟨_, rfl, Or.inr ⟨j, by omega, rfl, by rw [gi]; exact gj, by omega⟩⟩
        · rw [eq_F z (by omega) (by omega) (by omega) (by omega)]
          have q := ih t (j + 1) (mo + -1) (by omega) (by omega) (by omega) (by omega) (by omega) (by rw [st]; omega)
          rw [show ((j + 1 : Nat) : Int) = (j : Int) + 1 by omega] at q
          exact q
      · have gj : ¬ g j = true := by rw [← gi]; exact fun z => b (setB_iff.mp z)
        rw [if_neg gj] at st
        rw [eq_F b (by omega) (by omega) (by omega) (by omega)]
        have q := ih t (j + 1) mo (by omega) (by omega) (by omega) (by omega) (by omega) (by rw [st]; omega)
        rw [show ((j + 1 : Nat) : Int) = (j : Int) + 1 by omega] at q
        exact q
/-- one day of a month at most -/
theorem dayInMonth_ok (h : Wd M) (hk : k < 12) (hr : RVg (iV M (30 + 6 * k))) (k3 : 3 ≤ iV M (30 + 6 * k) 1) (m0 : 0 ≤ m) (m1 : m < 4800) (hf : 100 ≤ f) : ∃ x, f_Rule_dayInMonth O f (30 + 6 * k) m M = some (x, M) ∧ ((x = -1 ∧ ∀ d, cBegin m ≤ d → d < cBegin m + cLen m → ¬ mcR (iV M (30 + 6 * k)) d) ∨ (cBegin m ≤ x ∧ x < cBegin m + cLen m ∧ mcR (iV M (30 + 6 * k)) x ∧ ∀ d, cBegin m ≤ d → d < cBegin m + cLen m → mcR (iV M (30 + 6 * k)) d → d = x)) := by
  obtain ⟨⟨f0, f1⟩, ⟨k0, k5⟩, st, ⟨s0, s1⟩, sn, ⟨p0, p1⟩, pm, ps, -⟩ := hr
  have b0 := c_begin_r m0 m1
  have l0 := cLen_r m
  have ce := c_end m0 m1
  have cm : ∀ d, cBegin m ≤ d → d < cBegin m + cLen m → cMonth d = m := fun d q1 q2 => c_uniq m0 m1 q1 q2 (by omega)
  have ad : ∀ d, cBegin m ≤ d → d < cBegin m + cLen m → ahd d = d - cBegin m ∧ bhd d = cLen m - 1 - (d - cBegin m) := fun d q1 q2 => by
    unfold bhd ahd
    rw [cm d q1 q2]
    exact ⟨rfl, rfl⟩
  have af := ahd_r (d := iV M (30 + 6 * k) 0) (by omega) (by omega)
  unfold f_Rule_dayInMonth
  rw [xc_of (e_monthBegin m0 (by omega)), xc_of (e_monthLength m0 (by omega)), a_Rule_kind h hk]
  -- a day told by its place
  have by76 : ∀ a : Int, -100 ≤ a → a ≤ 100 → (∀ d, cBegin m ≤ d → d < cBegin m + cLen m → (mcR (iV M (30 + 6 * k)) d ↔ d - cBegin m = a)) → ∃ x, f_Rule_dayInMonth_76 O f (cBegin m) (cLen m) a M = some (x, M) ∧ ((x = -1 ∧ ∀ d, cBegin m ≤ d → d < cBegin m + cLen m → ¬ mcR (iV M (30 + 6 * k)) d) ∨ (cBegin m ≤ x ∧ x < cBegin m + cLen m ∧ mcR (iV M (30 + 6 * k)) x ∧ ∀ d, cBegin m ≤ d → d < cBegin m + cLen m → mcR (iV M (30 + 6 * k)) d → d = x)) := by
    intro a a0 a1 hm
    unfold f_Rule_dayInMonth_76
    by_cases g1 : a < 0
    · rw [lt_T g1 (by omega) (by omega)]
      exact ⟨-1, rfl, Or.inl ⟨rfl, fun d q1 q2 z => by have := (hm d q1 q2).mp z; omega⟩⟩
    · rw [lt_F (by omega) (by omega) (by omega)]
      by_cases g2 : cLen m ≤ a
      · rw [le_T g2 (by omega) (by omega)]
        exact ⟨-1, rfl, Or.inl ⟨rfl, fun d q1 q2 z => by have := (hm d q1 q2).mp z; omega⟩⟩
      · rw [le_F (by omega) (by omega) (by omega)]
        exact ⟨cBegin m + a, rfl, Or.inr ⟨by omega, by omega, (hm _ (by omega) (by omega)).mpr (by omega), fun d q1 q2 z => by have := (hm d q1 q2).mp z; omega⟩⟩
  by_cases c4 : iV M (30 + 6 * k) 1 = 4
  · -- a day of a set
    have pz := ps c4
    obtain ⟨each, eE⟩ : ∃ each, each = pcS (iV M (30 + 6 * k) 3) := ⟨_, rfl⟩
    have e127 : jand (iV M (30 + 6 * k) 3) 127 = iV M (30 + 6 * k) 3 := by
      have q := and127 (iV M (30 + 6 * k) 3).toNat (by omega)
      rw [Int.toNat_of_nonneg s0] at q
      exact q
    have ep : 0 < each := by
      have q := pc_pos (iV M (30 + 6 * k) 3).toNat (by omega) (by have := sn (Or.inr c4); omega)
      rw [Int.toNat_of_nonneg s0] at q
      rw [eE]
      exact q
    have ep7 : each ≤ 7 := by rw [eE]; exact pcS_le
    obtain ⟨others, eo⟩ : ∃ others : Nat, (others : Int) = ((iV M (30 + 6 * k) 4).natAbs : Int) - 1 := ⟨(iV M (30 + 6 * k) 4).natAbs - 1, by omega⟩
    have ol : others ≤ 4 := by omega
    have dv : jdiv (others : Int) (each : Int) = ((others / each : Nat) : Int) := by
      rw [jdiv_e (by omega) (by omega) (by omega) (by omega)]
      omega
    have rm : (others : Int) - jdiv (others : Int) (each : Int) * (each : Int) = ((others % each : Nat) : Int) := by
      rw [jrem_e (by omega) (by omega) (by omega) (by omega)]
      omega
    have mdl : others % each < each := Nat.mod_lt _ ep
    have dvl : others / each ≤ 4 := Nat.le_trans (Nat.div_le_self _ _) ol
    have dm : others / each * each + others % each = others := by rw [Nat.mul_comm]; exact Nat.div_add_mod _ _
    -- for both ways
    have way : ∀ (w e : Int), ((w = 1 ∧ 0 < iV M (30 + 6 * k) 4 ∧ e = cBegin m) ∨ (w = -1 ∧ iV M (30 + 6 * k) 4 ≤ 0 ∧ e = cBegin m + cLen m - 1)) → ∃ x, f_Rule_dayOfSet_51 O f (30 + 6 * k) (cLen m) (each : Int) (others : Int) ((others % each : Nat) : Int) e M = some (x, M) ∧ ((x = -1 ∧ ∀ d, cBegin m ≤ d → d < cBegin m + cLen m → ¬ mcR (iV M (30 + 6 * k)) d) ∨ (cBegin m ≤ x ∧ x < cBegin m + cLen m ∧ mcR (iV M (30 + 6 * k)) x ∧ ∀ d, cBegin m ≤ d → d < cBegin m + cLen m → mcR (iV M (30 + 6 * k)) d → d = x)) := by
      intro w e hw
      -- what holds of a day, by its index
      have tr : ∀ i : Nat, (i : Int) < cLen m → (mcR (iV M (30 + 6 * k)) (e + w * i) ↔ setB (iV M (30 + 6 * k) 3) (e + w * i) = true ∧ ctN (fun i : Nat => setB (iV M (30 + 6 * k) 3) (e + w * (i : Int))) (i + 1) = others + 1) := fun i hi => by
        unfold mcR
        rw [if_neg (by omega), if_neg (by omega), setB_iff]
        rcases hw with ⟨rfl, a2, a3⟩ | ⟨rfl, a2, a3⟩
        · have ade := ad (e + 1 * i) (by omega) (by omega)
          have q : ctN (fun i => setB (iV M (30 + 6 * k) 3) (e + 1 * (i : Int))) (i + 1) = kS (iV M (30 + 6 * k) 3) e (i + 1) := ctN_of _ (fun i _ => by rw [show e + 1 * (i : Int) = e + i by omega])
          rw [if_pos a2, q, ade.1, show e + 1 * (i : Int) - (e + 1 * (i : Int) - cBegin m) = e by omega, show (e + 1 * (i : Int) - cBegin m + 1).toNat = i + 1 by omega]
          constructor
          · rintro ⟨z1, z2⟩
            exact ⟨z1, by omega⟩
          · rintro ⟨z1, z2⟩
            exact ⟨z1, by omega⟩
        · have ade := ad (e + -1 * i) (by omega) (by omega)
          have q : ctN (fun i => setB (iV M (30 + 6 * k) 3) (e + -1 * (i : Int))) (i + 1) = ctN (fun i => setB (iV M (30 + 6 * k) 3) (e - i)) (i + 1) := ctN_of _ (fun i _ => by rw [show e + -1 * (i : Int) = e - i by omega])
          rw [if_neg (by omega), q, kS_rev, ade.2, show (cLen m - 1 - (e + -1 * (i : Int) - cBegin m) + 1).toNat = i + 1 by omega, show e - ((i + 1 : Nat) : Int) + 1 = e + -1 * (i : Int) by omega]
          constructor
          · rintro ⟨z1, z2⟩
            exact ⟨z1, by omega⟩
          · rintro ⟨z1, z2⟩
            exact ⟨z1, by omega⟩
      have ix : ∀ d, cBegin m ≤ d → d < cBegin m + cLen m → ∃ i : Nat, (i : Int) < cLen m ∧ d = e + w * i := fun d q1 q2 => by
        rcases hw with ⟨rfl, a2, a3⟩ | ⟨rfl, a2, a3⟩
        · exact ⟨(d - cBegin m).toNat, by omega, by omega⟩
        · exact ⟨(cBegin m + cLen m - 1 - d).toNat, by omega, by omega⟩
      have start : ctN (fun i : Nat => setB (iV M (30 + 6 * k) 3) (e + w * (i : Int))) (7 * (others / each)) = others / each * each := by
        rcases hw with ⟨rfl, -, -⟩ | ⟨rfl, -, -⟩
        · have q : ctN (fun i => setB (iV M (30 + 6 * k) 3) (e + 1 * (i : Int))) (7 * (others / each)) = kS (iV M (30 + 6 * k) 3) e (7 * (others / each)) := ctN_of _ (fun i _ => by rw [show e + 1 * (i : Int) = e + i by omega])
          rw [q, kS_7q, ← eE]
        · have q : ctN (fun i => setB (iV M (30 + 6 * k) 3) (e + -1 * (i : Int))) (7 * (others / each)) = ctN (fun i => setB (iV M (30 + 6 * k) 3) (e - i)) (7 * (others / each)) := ctN_of _ (fun i _ => by rw [show e + -1 * (i : Int) = e - i by omega])
          rw [q, kS_rev, kS_7q, ← eE]
      obtain ⟨x, ex, ox⟩ := dos_62 (O := O) (f := f) (w := w) (e := e) (len := cLen m) (p := others) h hk s0 s1 (by
        rcases hw with ⟨a1, a2, a3⟩ | ⟨a1, a2, a3⟩
        · exact Or.inl ⟨a1, a2, by omega⟩
        · exact Or.inr ⟨a1, a2, by omega⟩) ⟨by omega, by omega⟩ (by omega) (by omega) (by omega) (cLen m).toNat f (7 * (others / each)) ((others % each : Nat) : Int) (by omega) (by omega) (by omega) (by omega) (by omega) (by rw [start]; omega)
      refine ⟨x, ?_, ?_⟩
      · unfold f_Rule_dayOfSet_51
        rw [eq_F (by omega) (by omega) (by omega) (by omega) (by omega), dv, xlet_e, show ((others / each : Nat) : Int) * 7 = ((7 * (others / each) : Nat) : Int) by omega]
        exact ex
      · rcases ox with ⟨z1, z2⟩ | ⟨i, i1, i2, i3, i4⟩
        · refine Or.inl ⟨z1, fun d q1 q2 hm => ?_⟩
          obtain ⟨i, i1, i2⟩ := ix d q1 q2
          rw [i2] at hm
          exact z2 i i1 ((tr i i1).mp hm)
        · refine Or.inr ⟨?_, ?_, by rw [i2]; exact (tr i i1).mpr ⟨i3, i4⟩, fun d q1 q2 hm => ?_⟩
          · rcases hw with ⟨rfl, a2, a3⟩ | ⟨rfl, a2, a3⟩ <;> omega
          · rcases hw with ⟨rfl, a2, a3⟩ | ⟨rfl, a2, a3⟩ <;> omega
          · obtain ⟨j, j1, j2⟩ := ix d q1 q2
            rw [j2] at hm
            obtain ⟨j3, j4⟩ := (tr j j1).mp hm
            have : i = j := by
              rcases Nat.lt_trichotomy i j with q | q | q
              · have := ctN_set (p := fun i : Nat => setB (iV M (30 + 6 * k) 3) (e + w * (i : Int))) q j3
                omega
              · exact q
              · have := ctN_set (p := fun i : Nat => setB (iV M (30 + 6 * k) 3) (e + w * (i : Int))) q i3
                omega
            rw [j2, i2, this]
    have body : ∃ x, f_Rule_dayOfSet O f (30 + 6 * k) (cBegin m) (cLen m) M = some (x, M) ∧ ((x = -1 ∧ ∀ d, cBegin m ≤ d → d < cBegin m + cLen m → ¬ mcR (iV M (30 + 6 * k)) d) ∨ (cBegin m ≤ x ∧ x < cBegin m + cLen m ∧ mcR (iV M (30 + 6 * k)) x ∧ ∀ d, cBegin m ≤ d → d < cBegin m + cLen m → mcR (iV M (30 + 6 * k)) d → d = x)) := by
      unfold f_Rule_dayOfSet
      rw [a_Rule_days h hk, e127, bitCount_ok s0 s1, xcl_e, ← eE, le_T (by omega) (by omega) (by omega), a_Rule_place h hk, xc_of (e_abs (by omega) (by omega)), ← eo, eq_F (by omega) (by omega) (by omega) (by omega) (by omega), rm, xlet_e, a_Rule_place h hk]
      by_cases g : iV M (30 + 6 * k) 4 ≤ 0
      · rw [le_T g (by omega) (by omega)]
        exact way (-1) _ (Or.inr ⟨rfl, g, rfl⟩)
      · rw [le_F (by omega) (by omega) (by omega)]
        exact way 1 _ (Or.inl ⟨rfl, by omega, rfl⟩)
    obtain ⟨x, ex, ox⟩ := body
    rw [eq_T c4, a_Rule_is h hk, ex, xcl_e]
    exact ⟨x, rfl, ox⟩
  · rw [eq_F c4 (by omega) (by omega) (by omega) (by omega), a_Rule_place h hk, a_Rule_kind h hk]
    by_cases c5 : iV M (30 + 6 * k) 1 = 5
    · have cf := c_in (d := iV M (30 + 6 * k) 0) (by omega) (by omega)
      rw [eq_T c5, a_Rule_first h hk, a_Rule_first h hk, xc_of (e_monthOf (by omega) (by omega)), xc_of (e_monthBegin (by omega) (by omega))]
      refine by76 (ahd (iV M (30 + 6 * k) 0)) (by omega) (by omega) (fun d q1 q2 => ?_)
      unfold mcR
      rw [if_pos c5, (ad d q1 q2).1]
    · have c3 : iV M (30 + 6 * k) 1 = 3 := by omega
      have pz := pm c3
      rw [eq_F c5 (by omega) (by omega) (by omega) (by omega), a_Rule_place h hk]
      by_cases g : 0 ≤ iV M (30 + 6 * k) 4
      · rw [le_T g (by omega) (by omega)]
        refine by76 (iV M (30 + 6 * k) 4 - 1) (by omega) (by omega) (fun d q1 q2 => ?_)
        unfold mcR
        rw [if_neg c5, if_pos c3, if_pos (by omega), (ad d q1 q2).1]
        omega
      · rw [le_F (by omega) (by omega) (by omega), a_Rule_place h hk]
        refine by76 (cLen m + iV M (30 + 6 * k) 4) (by omega) (by omega) (fun d q1 q2 => ?_)
        unfold mcR
        rw [if_neg c5, if_pos c3, if_neg (by omega), (ad d q1 q2).2]
        omega
end DIM
end
