/-! draft 545.zonesall -/
section
/-! ===== the law of zones holds ===== -/
section AZA
variable {O : Nat → Option va_E} {f : Nat} {M N : xM} {y : Int}
theorem az_yr (y0 : 2001 ≤ y) (y1 : y ≤ 2010) : 366 ≤ cBegin (mIx y 1) ∧ cBegin (mIx y 1) + 28 ≤ cBegin (mIx (y + 1) 1) ∧ cBegin (mIx (y + 1) 1) ≤ 4018 ∧ (∀ v : Int, 0 ≤ v → v < cBegin (mIx y 1) → 2000 + cMonth v / 12 < y) ∧ (∀ v : Int, cBegin (mIx y 1) ≤ v → v < cBegin (mIx (y + 1) 1) → 2000 + cMonth v / 12 = y) ∧ 2000 + cMonth (cBegin (mIx (y + 1) 1)) / 12 = y + 1 := by
  have hx : mIx y 1 = 12 * (y - 2000) ∧ mIx (y + 1) 1 = 12 * (y - 2000) + 12 := by unfold mIx; omega
  rw [hx.1, hx.2]
  obtain ⟨i, ei⟩ : ∃ i, i = 12 * (y - 2000) := ⟨_, rfl⟩
  rw [← ei]
  have e12 : cBegin 12 = 366 := by decide
  have a1 : 366 ≤ cBegin i := by
    by_cases q : i = 12
    · rw [q]
      exact Int.le_of_eq e12.symm
    · have a1 := c_mono (m := 12) (k := i) (by omega) (by omega) (by omega)
      have a2 := cLen_r 12
      omega
  have a2 : cBegin i + 28 ≤ cBegin (i + 12) := by
    have a1 := c_mono (m := i) (k := i + 12) (by omega) (by omega) (by omega)
    have a2 := cLen_r i
    omega
  have a3 : cBegin (i + 12) ≤ 4018 := by
    by_cases q : i + 12 = 132
    · rw [q]
      exact Int.le_of_eq cB132
    · have a1 := c_mono (m := i + 12) (k := 132) (by omega) (by omega) (by omega)
      have a2 := cLen_r (i + 12)
      rw [cB132] at a1
      omega
  refine ⟨a1, a2, a3, fun v v0 v1 => ?_, fun v v0 v1 => ?_, ?_⟩
  · obtain ⟨c0, c1, c2, c3⟩ := c_in v0 (by omega)
    have : cMonth v < i := by
      rcases Int.lt_or_le (cMonth v) i with q | q
      · exact q
      · exfalso
        by_cases e : i = cMonth v
        · rw [← e] at c2
          omega
        · have b1 := c_mono (m := i) (k := cMonth v) (by omega) (by omega) c1
          have b2 := cLen_r i
          omega
    omega
  · obtain ⟨c0, c1, c2, c3⟩ := c_in (d := v) (by omega) (by omega)
    have h1 : i ≤ cMonth v := by
      rcases Int.lt_or_le (cMonth v) i with q | q
      · have := c_mono c0 q (by omega)
        omega
      · exact q
    have h2 : cMonth v < i + 12 := by
      rcases Int.lt_or_le (cMonth v) (i + 12) with q | q
      · exact q
      · exfalso
        by_cases e : i + 12 = cMonth v
        · rw [← e] at c2
          omega
        · have b1 := c_mono (m := i + 12) (k := cMonth v) (by omega) (by omega) c1
          have b2 := cLen_r (i + 12)
          omega
    omega
  · have b2 := cLen_r (i + 12)
    rw [c_uniq (m := i + 12) (d := cBegin (i + 12)) (by omega) (by omega) (by omega) (by omega) (by omega)]
    omega
theorem az_349 {o s : Int} (hl : LD 1044 M) (y0 : 2001 ≤ y) (y1 : y ≤ 2010) : ∀ (r n : Nat) (v : Int), cBegin (mIx y 1) ≤ v → v + r = cBegin (mIx (y + 1) 1) → r < n → f_Law_areZones_349 O f n 1 0 1044 o s 1049 1053 y (cBegin (mIx y 1)) v M = f_Law_areZones_370 O f f 1 0 o s 1049 1053 (cBegin (mIx y 1)) (cBegin (mIx (y + 1) 1)) 0 M := by
  obtain ⟨g1, g2, g3, g4, g5, g6⟩ := az_yr y0 y1
  intro r
  induction r with
  | zero =>
    intro n v h0 h1 h2
    obtain ⟨n, rfl⟩ : ∃ n', n = n' + 1 := ⟨n - 1, by omega⟩
    have ev : v = cBegin (mIx (y + 1) 1) := by omega
    have e0 : ldV 0 v = 2000 + cMonth v / 12 := rfl
    show (gR O M 1044 14 0).bind _ = _
    rw [hl.1.gR (j := 0) (by decide), hl.at (j := 0) (by decide) (by omega) (by omega), e0, ev, g6, eq_F (by omega) (by omega) (by omega) (by omega) (by omega)]
  | succ r ih =>
    intro n v h0 h1 h2
    obtain ⟨n, rfl⟩ : ∃ n', n = n' + 1 := ⟨n - 1, by omega⟩
    have e0 : ldV 0 v = 2000 + cMonth v / 12 := rfl
    show (gR O M 1044 14 0).bind _ = _
    rw [hl.1.gR (j := 0) (by decide), hl.at (j := 0) (by decide) (by omega) (by omega), e0, g5 v h0 (by omega), eq_T rfl]
    exact ih n (v + 1) (by omega) (by omega) (by omega)
theorem az_327 {o s : Int} (hl : LD 1044 M) (y0 : 2001 ≤ y) (y1 : y ≤ 2010) (hf : 5000 ≤ f) : ∀ (r n : Nat) (v : Int), 0 ≤ v → v + r = cBegin (mIx y 1) → r < n → f_Law_areZones_327 O f n 1 0 1044 o s 1049 1053 y v M = f_Law_areZones_370 O f f 1 0 o s 1049 1053 (cBegin (mIx y 1)) (cBegin (mIx (y + 1) 1)) 0 M := by
  obtain ⟨g1, g2, g3, g4, g5, g6⟩ := az_yr y0 y1
  intro r
  induction r with
  | zero =>
    intro n v h0 h1 h2
    obtain ⟨n, rfl⟩ : ∃ n', n = n' + 1 := ⟨n - 1, by omega⟩
    have ev : v = cBegin (mIx y 1) := by omega
    have e0 : ldV 0 v = 2000 + cMonth v / 12 := rfl
    show (gR O M 1044 14 0).bind _ = _
    rw [hl.1.gR (j := 0) (by decide), hl.at (j := 0) (by decide) (by omega) (by omega), e0, g5 v (by omega) (by omega), eq_T rfl, ev]
    exact az_349 hl y0 y1 (cBegin (mIx (y + 1) 1) - cBegin (mIx y 1)).toNat f _ (by omega) (by omega) (by omega)
  | succ r ih =>
    intro n v h0 h1 h2
    obtain ⟨n, rfl⟩ : ∃ n', n = n' + 1 := ⟨n - 1, by omega⟩
    have e0 : ldV 0 v = 2000 + cMonth v / 12 := rfl
    have hlt := g4 v h0 (by omega)
    obtain ⟨c0, -, -, -⟩ := c_in (d := v) h0 (by omega)
    show (gR O M 1044 14 0).bind _ = _
    rw [hl.1.gR (j := 0) (by decide), hl.at (j := 0) (by decide) (by omega) (by omega), e0, eq_F (by omega) (by omega) (by omega) (by omega) (by omega)]
    exact ih n (v + 1) (by omega) (by omega) (by omega)
/-- the common minutes of a local one are looked for -/
theorem az_623 {l : Int} (h : Zc0 M) (l0 : 100000 ≤ l) (l1 : l ≤ 100000000) (hf : 1000 ≤ f) : ∀ (r n : Nat) (v one two : Int), l - iV M 15 0 - 130 ≤ v → v + r = l - iV M 15 0 + 11 → one = (if sm M 1 (l - iV M 15 1) = 1 ∧ l - iV M 15 1 - iV M 15 0 < v then l - iV M 15 1 - iV M 15 0 else if sm M 1 l = 0 ∧ l - iV M 15 0 < v then l - iV M 15 0 else -1) → two = (if sm M 1 (l - iV M 15 1) = 1 ∧ sm M 1 l = 0 ∧ l - iV M 15 0 < v then l - iV M 15 0 else -1) → r < n → f_Law_areZones_623 O f n 1 (iV M 15 0) l one two v M = some (1, M) := by
  have hw := h.1.1
  have hz := h.2.1 1 (by omega)
  obtain ⟨o0, o1, s0, s1, -, -⟩ := hz
  have o0 : -720 ≤ iV M 15 0 := o0
  have o1 : iV M 15 0 ≤ 840 := o1
  have s0 : 0 ≤ iV M 15 1 := s0
  have s1 : iV M 15 1 ≤ 120 := s1
  have hz := h.2.1 1 (by omega)
  have er := e_errors (O := O) (f := f) hw h.2.1 (fun k hk => Or.inl (h.2.2.1 k hk)) hf
  have eloc : ∀ v, loc M 1 v = if sm M 1 (v + iV M 15 0) = 0 then v + iV M 15 0 else v + iV M 15 0 + iV M 15 1 := fun v => rfl
  have efst : fst M 1 l = if sm M 1 (l - iV M 15 1) = 0 then (if sm M 1 l = 0 then l - iV M 15 0 else -1) else l - iV M 15 1 - iV M 15 0 := rfl
  have esnd : snd M 1 l = if sm M 1 (l - iV M 15 1) = 0 then -1 else if sm M 1 l = 0 then l - iV M 15 0 else -1 := rfl
  have spos : sm M 1 (l - iV M 15 1) = 1 → 0 < iV M 15 1 := by
    intro q
    rcases Int.lt_or_le 0 (iV M 15 1) with z | z
    · exact z
    · rw [sm_zero (by omega)] at q
      omega
  have m1 := sm_01 (M := M) (k := 1) (s := l - iV M 15 1)
  have m2 := sm_01 (M := M) (k := 1) (s := l)
  -- whether a common minute tells it
  have tells : ∀ v, loc M 1 v = l ↔ ((v = l - iV M 15 0 ∧ sm M 1 l = 0) ∨ (v = l - iV M 15 1 - iV M 15 0 ∧ sm M 1 (l - iV M 15 1) = 1)) := by
    intro v
    rw [eloc v]
    rcases sm_01 (M := M) (k := 1) (s := v + iV M 15 0) with e | e
    · rw [if_pos e]
      constructor
      · intro q
        rw [q] at e
        exact Or.inl ⟨by omega, e⟩
      · rintro (⟨q, -⟩ | ⟨q, q2⟩)
        · omega
        · exfalso
          rw [show v + iV M 15 0 = l - iV M 15 1 by omega, q2] at e
          omega
    · rw [if_neg (by omega)]
      constructor
      · intro q
        rw [show v + iV M 15 0 = l - iV M 15 1 by omega] at e
        exact Or.inr ⟨by omega, e⟩
      · rintro (⟨q, q2⟩ | ⟨q, -⟩)
        · exfalso
          rw [show v + iV M 15 0 = l by omega, q2] at e
          omega
        · omega
  generalize sm M 1 (l - iV M 15 1) = t1 at *
  generalize sm M 1 l = t2 at *
  intro r
  induction r with
  | zero =>
    intro n v one two h0 h1 g1 g2 h2
    obtain ⟨n, rfl⟩ : ∃ n', n = n' + 1 := ⟨n - 1, by omega⟩
    have x2 := toCom0 (O := O) (f := f) (c := l) hw hz (by omega) (by omega)
    have x3 := toCom1 (O := O) (f := f) (c := l) hw hz (by omega) (by omega)
    have y1 : fst M 1 l = one := by
      rw [efst, g1]
      rcases m1 with q | q
      · rw [if_pos q, if_neg (show ¬ (t1 = 1 ∧ l - iV M 15 1 - iV M 15 0 < v) by omega)]
        rcases m2 with q2 | q2
        · rw [if_pos q2, if_pos ⟨q2, by omega⟩]
        · rw [if_neg (show ¬ t2 = 0 by omega), if_neg (show ¬ (t2 = 0 ∧ l - iV M 15 0 < v) by omega)]
      · rw [if_neg (show ¬ t1 = 0 by omega), if_pos ⟨q, by omega⟩]
    have y2 : snd M 1 l = two := by
      rw [esnd, g2]
      rcases m1 with q | q
      · rw [if_pos q, if_neg (show ¬ (t1 = 1 ∧ t2 = 0 ∧ l - iV M 15 0 < v) by omega)]
      · rw [if_neg (show ¬ t1 = 0 by omega)]
        rcases m2 with q2 | q2
        · rw [if_pos q2, if_pos ⟨q, q2, by omega⟩]
        · rw [if_neg (show ¬ t2 = 0 by omega), if_neg (show ¬ (t1 = 1 ∧ t2 = 0 ∧ l - iV M 15 0 < v) by omega)]
    show (if yw ((l - iV M 15 0) + 10) < yw v then _ else _) = _
    rw [lt_T (by omega) (by omega) (by omega), a_Cal_is hw, x2, xcl_e, eq_T y1, a_Cal_is hw, x3, xcl_e, eq_T y2, a_Cal_is hw, er, xcl_e, eq_T rfl]
  | succ r ih =>
    intro n v one two h0 h1 g1 g2 h2
    obtain ⟨n, rfl⟩ : ∃ n', n = n' + 1 := ⟨n - 1, by omega⟩
    have x1 := toLoc1 (O := O) (f := f) (c := v) hw hz (by omega) (by omega)
    have lr := loc_r (M := M) (k := 1) (c := v) hz
    show (if yw ((l - iV M 15 0) + 10) < yw v then _ else _) = _
    rw [lt_F (by omega) (by omega) (by omega), a_Cal_is hw, x1, xcl_e]
    have step : ∀ one' two' : Int, one' = (if t1 = 1 ∧ l - iV M 15 1 - iV M 15 0 < v + 1 then l - iV M 15 1 - iV M 15 0 else if t2 = 0 ∧ l - iV M 15 0 < v + 1 then l - iV M 15 0 else -1) → two' = (if t1 = 1 ∧ t2 = 0 ∧ l - iV M 15 0 < v + 1 then l - iV M 15 0 else -1) → f_Law_areZones_623 O f n 1 (iV M 15 0) l one' two' (v + 1) M = some (1, M) := fun a b q1 q2 => ih n (v + 1) a b (by omega) (by omega) q1 q2 (by omega)
    have ht := tells v
    by_cases q : loc M 1 v = l
    · rw [eq_T q]
      unfold f_Law_areZones_662 f_Law_areZones_677
      rcases ht.mp q with ⟨q1, q2⟩ | ⟨q1, q2⟩
      · rcases m1 with q3 | q3
        · rw [if_neg (show ¬ (t1 = 1 ∧ l - iV M 15 1 - iV M 15 0 < v) by omega), if_neg (show ¬ (t2 = 0 ∧ l - iV M 15 0 < v) by omega)] at g1
          rw [eq_T g1, eq_T g1]
          refine step _ _ ?_ ?_
          · rw [if_neg (show ¬ (t1 = 1 ∧ l - iV M 15 1 - iV M 15 0 < v + 1) by omega), if_pos ⟨q2, by omega⟩]
            exact q1
          · rw [if_neg (show ¬ (t1 = 1 ∧ t2 = 0 ∧ l - iV M 15 0 < v + 1) by omega)]
        · have sp := spos q3
          rw [if_pos ⟨q3, by omega⟩] at g1
          rw [eq_F (a := one) (b := -1) (by omega) (by omega) (by omega) (by omega) (by omega), eq_F (a := one) (b := -1) (by omega) (by omega) (by omega) (by omega) (by omega)]
          refine step _ _ ?_ ?_
          · rw [if_pos ⟨q3, by omega⟩]
            exact g1
          · rw [if_pos ⟨q3, q2, by omega⟩]
            exact q1
      · have sp := spos q2
        rw [if_neg (show ¬ (t1 = 1 ∧ l - iV M 15 1 - iV M 15 0 < v) by omega), if_neg (show ¬ (t2 = 0 ∧ l - iV M 15 0 < v) by omega)] at g1
        rw [eq_T g1, eq_T g1]
        refine step _ _ ?_ ?_
        · rw [if_pos ⟨q2, by omega⟩]
          exact q1
        · rw [if_neg (show ¬ (t1 = 1 ∧ t2 = 0 ∧ l - iV M 15 0 < v + 1) by omega)]
    · rw [eq_F q (by omega) (by omega) (by omega) (by omega)]
      have n1 : ¬ (v = l - iV M 15 0 ∧ t2 = 0) := fun z => q (ht.mpr (Or.inl z))
      have n2 : ¬ (v = l - iV M 15 1 - iV M 15 0 ∧ t1 = 1) := fun z => q (ht.mpr (Or.inr z))
      refine step _ _ ?_ ?_
      · rw [g1]
        by_cases z1 : t1 = 1 ∧ l - iV M 15 1 - iV M 15 0 < v
        · rw [if_pos z1, if_pos ⟨z1.1, by omega⟩]
        · rw [if_neg z1, if_neg (show ¬ (t1 = 1 ∧ l - iV M 15 1 - iV M 15 0 < v + 1) by omega)]
          by_cases z2 : t2 = 0 ∧ l - iV M 15 0 < v
          · rw [if_pos z2, if_pos ⟨z2.1, by omega⟩]
          · rw [if_neg z2, if_neg (show ¬ (t2 = 0 ∧ l - iV M 15 0 < v + 1) by omega)]
      · rw [g2]
        by_cases z1 : t1 = 1 ∧ t2 = 0 ∧ l - iV M 15 0 < v
        · rw [if_pos z1, if_pos ⟨z1.1, z1.2.1, by omega⟩]
        · rw [if_neg z1, if_neg (show ¬ (t1 = 1 ∧ t2 = 0 ∧ l - iV M 15 0 < v + 1) by omega)]
/-- forty minutes, and the last look -/
theorem az_370 {o s : Int} (y0 : 2001 ≤ y) (y1 : y ≤ 2010) (hf : 1000 ≤ f) : ∀ (r n : Nat) (v : Int) (M : xM), Zc M y → iV M 15 0 = o → iV M 15 1 = s → 0 ≤ v → v + r = 40 → r < n → ∃ M', f_Law_areZones_370 O f n 1 0 o s 1049 1053 (cBegin (mIx y 1)) (cBegin (mIx (y + 1) 1)) v M = some (1, M') ∧ Sm M M' := by
  obtain ⟨g1, g2, g3, -⟩ := az_yr y0 y1
  have atr : ∀ M : xM, Zc M y → ∀ k : Nat, k < 2 → 500000 ≤ iV M 1053 k ∧ iV M 1053 k ≤ 6000000 := by
    intro M h k hk
    obtain ⟨m0, m1, p0, p1, w0, w1, t0, t1⟩ := h.1.2.2.2.1.2.2.2.2.2 k hk
    obtain ⟨b0, b1, b2, b3⟩ := mIx_b (y := y) (m := iV M 1049 k) (by omega) y1 m0 m1
    have hq := sW_in (pl := iV M 1050 k) (wd := iV M 1051 k) (mi := iV M 1052 k) (m := mIx y (iV M 1049 k)) p0 p1 t0 t1
    have hm : cBegin (mIx y 1) ≤ cBegin (mIx y (iV M 1049 k)) := by
      by_cases e : iV M 1049 k = 1
      · rw [e]
        exact Int.le_refl _
      · have b1 := c_mono (m := mIx y 1) (k := mIx y (iV M 1049 k)) (by unfold mIx; omega) (by unfold mIx; omega) (by omega)
        have b2 := cLen_r (mIx y 1)
        omega
    rw [h.2 k hk]
    unfold atL
    omega
  intro r
  induction r with
  | zero =>
    intro n v M h ho hs h0 h1 h2
    obtain ⟨n, rfl⟩ : ∃ n', n = n' + 1 := ⟨n - 1, by omega⟩
    have hw := h.1.1.1
    obtain ⟨x1, M1, e1, x10, x11, w1, u1, v1⟩ := dn_ok (O := O) (f := f) (m := 2) hw (by omega) (by omega)
    have Z1 := h.un u1 (fun a ha => by (try dsimp only); omega)
    obtain ⟨x3, M2, e2, x30, x31, w2, u2, v2⟩ := dn_ok (O := O) (f := f) (m := 300) w1 (by omega) (by omega)
    have Z2 := Z1.un u2 (fun a ha => by (try dsimp only); omega)
    have ra := atr M1 Z1 x1.toNat (by omega)
    have hz := h.1.2.1 1 (by omega)
    have o0 : -720 ≤ iV M 15 0 := hz.1
    have o1 : iV M 15 0 ≤ 840 := hz.2.1
    have eo : iV M2 15 0 = o := by rw [v2, v1]; exact ho
    have z := az_623 (O := O) (f := f) (l := iV M1 1053 x1.toNat + x3 - 100) Z2.1 (by omega) (by omega) hf 141 f (iV M1 1053 x1.toNat + x3 - 100 - o - 130) (-1) (-1) (by omega) (by omega) (by
      rw [if_neg (by
        have hz2 := Z2.1.2.1 1 (by omega)
        have s1 : iV M2 15 1 ≤ 120 := hz2.2.2.2.1
        omega), if_neg (by omega)]) (by rw [if_neg (by omega)]) (by omega)
    rw [eo] at z
    refine ⟨M2, ?_, u1.1.tr u2.1⟩
    show (if yw 40 ≤ yw v then _ else _) = _
    rw [le_T (by omega) (by omega) (by omega), hw.is (k := 0) (ci := 15) (by decide) (by decide), e1, xcl_e, Z1.1.2.2.2.1.2.2.2.2.1.aJ x10 (by omega), w1.is (k := 0) (ci := 15) (by decide) (by decide), e2, xcl_e, xlet_e]
    exact z
  | succ r ih =>
    intro n v M h ho hs h0 h1 h2
    obtain ⟨n, rfl⟩ : ∃ n', n = n' + 1 := ⟨n - 1, by omega⟩
    have hw := h.1.1.1
    show ∃ M', (if yw 40 ≤ yw v then _ else _) = some (1, M') ∧ _
    rw [le_F (by omega) (by omega) (by omega)]
    have go : ∀ (N : xM) (st : Int), Un (fun a => a ≠ 0) M N → -1000000 ≤ st → st ≤ 100000000 → ∃ M', f_Law_areZones_426 O f (f_Law_areZones_370 O f n) 1 0 o s 1049 1053 (cBegin (mIx y 1)) (cBegin (mIx (y + 1) 1)) v st N = some (1, M') ∧ Sm M M' := by
      intro N st u q0 q1
      have ZN := h.un u (fun a ha => by (try dsimp only); omega)
      have eo : iV N 15 0 = o := by rw [u.i (by (try dsimp only); omega)]; exact ho
      have es : iV N 15 1 = s := by rw [u.i (by (try dsimp only); omega)]; exact hs
      obtain ⟨M', e', sm'⟩ := ih n (v + 1) N ZN eo es (by omega) (by omega) (by omega)
      have t := az_426 (O := O) (f := f) (K := f_Law_areZones_370 O f n) (c := v) ZN y0 y1 q0 q1
      rw [eo, es] at t
      exact ⟨M', t.trans e', u.1.tr sm'⟩
    by_cases q : 20 ≤ v
    · obtain ⟨x, M1, e1, x0, x1, w1, u1, v1⟩ := dn_ok (O := O) (f := f) (m := 1440 * (cBegin (mIx (y + 1) 1) - cBegin (mIx y 1))) hw (by omega) (by omega)
      rw [le_T q (by omega) (by omega), hw.is (k := 0) (ci := 15) (by decide) (by decide), e1, xcl_e]
      exact go M1 _ u1 (by omega) (by omega)
    · obtain ⟨x, M1, e1, x0, x1, w1, u1, v1⟩ := dn_ok (O := O) (f := f) (m := 400) hw (by omega) (by omega)
      have ra := atr M h (v % 2).toNat (by omega)
      rw [le_F (by omega) (by omega) (by omega), jrem_e (by omega) (by omega) (by omega) (by omega), h.1.2.2.2.1.2.2.2.2.1.aJ (by omega) (by omega), hw.is (k := 0) (ci := 15) (by decide) (by decide), e1, xcl_e]
      exact go M1 _ u1 (by omega) (by omega)
end AZA
end
/-! draft 546.arezones -/
section
/-! ===== the law of zones, from its beginning ===== -/
section AZB
variable {O : Nat → Option va_E} {f : Nat} {M N : xM} {y : Int}
/-- what stays while the rows are drawn -/
def Zi (M : xM) : Prop := Bs M ∧ LD 1044 M ∧ (∀ k, k < 3 → Zv M k) ∧ (∀ k : Nat, k < 12 → iV M (29 + 6 * k) 0 = 0) ∧ iV M 16 0 = 3 ∧ iV M 17 0 = 10
theorem Zi.kp (h : Zi M) (u : Kp (fun a => a ≠ 0) M N) (hb : N.1 ≤ 500000000) : Zi N := by
  obtain ⟨a, b, c, d, e, g⟩ := h
  have hM := b.1.2.1
  have hv : ∀ x j, 1 ≤ x → x < 1049 → iV N x j = iV M x j := fun x j h1 h2 => u.i (by omega) (by (try dsimp only); omega)
  exact ⟨a.kp u hb (by (try dsimp only); omega) (fun k hk => by (try dsimp only); omega), b.kp u hb (fun j hj => by (try dsimp only); omega), fun k hk => (c k hk).of (fun x j h1 h2 => hv x j (by omega) (by omega)), fun k hk => by rw [hv _ _ (by omega) (by omega)]; exact d k hk, by rw [hv _ _ (by omega) (by omega)]; exact e, by rw [hv _ _ (by omega) (by omega)]; exact g⟩
/-- a row of two drawn numbers -/
theorem az_pair {b : Int} {g : Int → Int} (h : Wd M) (hM : M.1 ≤ 499999990) (b0 : 0 < b) (b1 : b ≤ 2147483647) (hg : ∀ x, 0 ≤ x → x < b → -2147483648 ≤ g x ∧ g x ≤ 2147483647) : ∃ r1 r2 M', (∀ A : Nat → xM → Option (Int × xM), (xcl (nAJ M 0 2) fun x M1 => (isO O M1 0 15).bind fun _ => xcl (f_LDraw_n O f 0 b M1) fun y1 M2 => (wJ M2 x 0 (g y1)).bind fun M3 => (isO O M3 0 15).bind fun _ => xcl (f_LDraw_n O f 0 b M3) fun y2 M4 => (wJ M4 x 1 (g y2)).bind fun M5 => A x M5) = A M.1 M') ∧ 0 ≤ r1 ∧ r1 < b ∧ 0 ≤ r2 ∧ r2 < b ∧ Kp (fun a => a ≠ 0) M M' ∧ Ar M.1 2 M' ∧ iV M' M.1 0 = g r1 ∧ iV M' M.1 1 = g r2 ∧ M'.1 = M.1 + 1 ∧ M'.2.1 = M.2.1 + 2 ∧ Wd M' := by
  have hM0 := h.1
  obtain ⟨N, eN, xN, aN, zN, kN, sN⟩ := ar_new (x := 2) (M := M) (by omega) (by omega) (by omega)
  have wN := xN.wd h (by omega)
  obtain ⟨r1, M2, e2, r10, r11, w2, u2, v2⟩ := dn_ok (O := O) (f := f) (m := b) wN b0 b1
  have a2 := aN.un u2
  obtain ⟨M3, e3⟩ : ∃ M3, M3 = iS M2 M.1 0 (g r1) := ⟨_, rfl⟩
  have u3 : Un (fun a => a ≠ M.1) M2 M3 := by
    rw [e3]
    exact Un.rf.iS (fun q => q rfl)
  have w3 := u3.wd w2
  have a3 := a2.un u3
  obtain ⟨r2, M4, e4, r20, r21, w4, u4, v4⟩ := dn_ok (O := O) (f := f) (m := b) w3 b0 b1
  have a4 := a3.un u4
  obtain ⟨M5, e5⟩ : ∃ M5, M5 = iS M4 M.1 1 (g r2) := ⟨_, rfl⟩
  have u5 : Un (fun a => a ≠ M.1) M4 M5 := by
    rw [e5]
    exact Un.rf.iS (fun q => q rfl)
  have hg1 := hg r1 r10 r11
  have hg2 := hg r2 r20 r21
  refine ⟨r1, r2, M5, fun A => ?_, r10, r11, r20, r21, ?_, a4.un u5, ?_, ?_, ?_, ?_, u5.wd w4⟩
  · have q1 : ∀ {B : xM → Option (Int × xM)}, (wJ M2 M.1 0 (g r1)).bind B = B (iS M2 M.1 0 (g r1)) := a2.wJ (by decide) (by decide)
    have q2 : ∀ {B : xM → Option (Int × xM)}, (wJ M4 M.1 1 (g r2)).bind B = B (iS M4 M.1 1 (g r2)) := a4.wJ (by decide) (by decide)
    have p1 : ∀ {B : xM → Option (Int × xM)}, (wJ M2 M.1 0 (g r1)).bind B = B M3 := by
      intro B
      rw [e3]
      exact q1
    have p2 : ∀ {B : xM → Option (Int × xM)}, (wJ M4 M.1 1 (g r2)).bind B = B M5 := by
      intro B
      rw [e5]
      exact q2
    rw [eN, xcl_e, wN.is (k := 0) (ci := 15) (by decide) (by decide), e2, xcl_e, p1, w3.is (k := 0) (ci := 15) (by decide) (by decide), e4, xcl_e, p2]
  · -- below M.1 all but cell 0 is unchanged
    have kk : Kp (fun a => a ≠ 0 ∧ a ≠ M.1) M M5 := (((xN.kp.tr (u2.kp.le (fun a q => q.1))).tr (u3.kp.le (fun a q => q.2))).tr (u4.kp.le (fun a q => q.1))).tr (u5.kp.le (fun a q => q.2))
    exact ⟨kk.1, kk.2.1, fun a ha p => kk.2.2 a ha ⟨p, by omega⟩⟩
  · rw [e5, iV_o (by omega), v4, e3, iV_s hg1.1 hg1.2]
  · rw [e5, iV_s hg2.1 hg2.2]
  · rw [u5.1.1, u4.1.1, u3.1.1, u2.1.1]
    exact kN
  · rw [u5.1.2.1, u4.1.2.1, u3.1.2.1, u2.1.2.1]
    exact sN
/-- both switches are set by way of other months -/
theorem sets_14 (hb : Bs M) (A0 : Ar 1049 2 M) (A1 : Ar 1050 2 M) (A2 : Ar 1051 2 M) (A3 : Ar 1052 2 M) (hrr : ∀ k : Nat, k < 2 → 1 ≤ iV M 1049 k ∧ iV M 1049 k ≤ 12 ∧ 1 ≤ iV M 1050 k ∧ iV M 1050 k ≤ 5 ∧ 0 ≤ iV M 1051 k ∧ iV M 1051 k ≤ 6 ∧ 0 ≤ iV M 1052 k ∧ iV M 1052 k ≤ 1439) (h16 : iV M 16 0 = 3) (h17 : iV M 17 0 = 10) (hne : iV M 1049 0 ≠ iV M 1049 1) (hf : 20 ≤ f) : ∀ (r n : Nat) (v : Int), 1 ≤ v → v + r = 12 → (∀ w : Int, 1 ≤ w → w < v → w = iV M 1049 0 ∨ w = iV M 1049 1 ∨ w = 3 ∨ w = 10) → r < n → ∃ M', f_Law_sets_14 O f n 1 1049 1050 1051 1052 v M = some (1, M') ∧ Bs M' ∧ Un (fun a => a = 0 ∨ 1044 ≤ a ∨ (1 < a ∧ a < 140 ∧ a ≠ 16 ∧ a ≠ 17)) M M' ∧ (iV M' 16 0 = iV M 1049 0 ∧ iV M' 16 1 = iV M 1050 0 ∧ iV M' 16 2 = iV M 1051 0 ∧ iV M' 16 3 = iV M 1052 0 ∧ iV M' 17 0 = iV M 1049 1 ∧ iV M' 17 1 = iV M 1050 1 ∧ iV M' 17 2 = iV M 1051 1 ∧ iV M' 17 3 = iV M 1052 1) := by
  obtain ⟨m0, m1, p0, p1, w0, w1, t0, t1⟩ := hrr 0 (by omega)
  obtain ⟨m0', m1', p0', p1', w0', w1', t0', t1'⟩ := hrr 1 (by omega)
  intro r
  induction r with
  | zero =>
    intro n v h0 h1 hall h2
    exfalso
    -- of five months one is free
    have a1 := hall 1 (by omega) (by omega)
    have a2 := hall 2 (by omega) (by omega)
    have a4 := hall 4 (by omega) (by omega)
    omega
  | succ r ih =>
    intro n v h0 h1 hall h2
    obtain ⟨n, rfl⟩ : ∃ n', n = n' + 1 := ⟨n - 1, by omega⟩
    have x0 : ∀ {L : xM} {γ : Type} {A : Int → Option γ}, Ar 1049 2 L → (aJ O L 1049 0).bind A = A (iV L 1049 0) := fun h => h.aJ (by decide) (by decide)
    have x1 : ∀ {L : xM} {γ : Type} {A : Int → Option γ}, Ar 1049 2 L → (aJ O L 1049 1).bind A = A (iV L 1049 1) := fun h => h.aJ (by decide) (by decide)
    have nx : (v = iV M 1049 0 ∨ v = iV M 1049 1 ∨ v = 3 ∨ v = 10) → ∃ M', f_Law_sets_14 O f n 1 1049 1050 1051 1052 (v + 1) M = some (1, M') ∧ Bs M' ∧ Un (fun a => a = 0 ∨ 1044 ≤ a ∨ (1 < a ∧ a < 140 ∧ a ≠ 16 ∧ a ≠ 17)) M M' ∧ (iV M' 16 0 = iV M 1049 0 ∧ iV M' 16 1 = iV M 1050 0 ∧ iV M' 16 2 = iV M 1051 0 ∧ iV M' 16 3 = iV M 1052 0 ∧ iV M' 17 0 = iV M 1049 1 ∧ iV M' 17 1 = iV M 1050 1 ∧ iV M' 17 2 = iV M 1051 1 ∧ iV M' 17 3 = iV M 1052 1) := by
      intro hv
      refine ih n (v + 1) (by omega) (by omega) (fun w h1 h2 => ?_) (by omega)
      by_cases e : w = v
      · rw [e]
        exact hv
      · exact hall w h1 (by omega)
    show ∃ M', (aJ O M 1049 0).bind _ = some (1, M') ∧ _
    rw [x0 A0]
    by_cases g1 : v = iV M 1049 0
    · rw [eq_T g1]
      exact nx (Or.inl g1)
    rw [eq_F g1 (by omega) (by omega) (by omega) (by omega), x1 A0]
    by_cases g2 : v = iV M 1049 1
    · rw [eq_T g2]
      exact nx (Or.inr (Or.inl g2))
    rw [eq_F g2 (by omega) (by omega) (by omega) (by omega)]
    by_cases g3 : v = 3
    · rw [eq_T g3]
      exact nx (Or.inr (Or.inr (Or.inl g3)))
    rw [eq_F g3 (by omega) (by omega) (by omega) (by omega)]
    by_cases g4 : v = 10
    · rw [eq_T g4]
      exact nx (Or.inr (Or.inr (Or.inr g4)))
    rw [eq_F g4 (by omega) (by omega) (by omega) (by omega), a_Cal_is hb.1]
    have e16 : rwA 1 1 = 16 := rfl
    have e17 : rwA 1 0 = 17 := rfl
    obtain ⟨M1, e1, b1, u1, c10, c11, c12, c13⟩ := ss_ok (O := O) (f := f) (z := 1) (b := 0) (m := v) (p := 1) (w := 0) (t := 0) hb (by omega) (by omega) (Or.inl rfl) (by omega) (by omega) (by omega) (by omega) (by omega) (by omega) (by omega) (by omega) (by
      show v ≠ iV M (rwA 1 1) 0
      rw [e16, h16]
      exact g3) hf
    rw [e17] at u1 c10 c11 c12 c13
    have k1 : ∀ a j, 1044 ≤ a → iV M1 a j = iV M a j := fun a j ha => u1.i (by (try dsimp only); omega)
    have B0 := A0.un u1
    have B1 := A1.un u1
    have B2 := A2.un u1
    have B3 := A3.un u1
    have y0 : ∀ {γ : Type} {A : Int → Option γ}, (aJ O M1 1050 0).bind A = A (iV M1 1050 0) := B1.aJ (by decide) (by decide)
    have y1 : ∀ {γ : Type} {A : Int → Option γ}, (aJ O M1 1051 0).bind A = A (iV M1 1051 0) := B2.aJ (by decide) (by decide)
    have y2 : ∀ {γ : Type} {A : Int → Option γ}, (aJ O M1 1052 0).bind A = A (iV M1 1052 0) := B3.aJ (by decide) (by decide)
    obtain ⟨M2, e2, b2, u2, c20, c21, c22, c23⟩ := ss_ok (O := O) (f := f) (z := 1) (b := 1) (m := iV M 1049 0) (p := iV M 1050 0) (w := iV M 1051 0) (t := iV M 1052 0) b1 (by omega) (by omega) (Or.inr rfl) (by omega) (by omega) (by omega) (by omega) (by omega) (by omega) (by omega) (by omega) (by
      show iV M 1049 0 ≠ iV M1 (rwA 1 0) 0
      rw [e17, c10]
      exact fun q => g1 q.symm) hf
    rw [e16] at u2 c20 c21 c22 c23
    have k2 : ∀ a j, 1044 ≤ a → iV M2 a j = iV M a j := fun a j ha => by rw [u2.i (by (try dsimp only); omega)]; exact k1 a j ha
    have C0 := B0.un u2
    have C1 := B1.un u2
    have C2 := B2.un u2
    have C3 := B3.un u2
    have z0 : ∀ {γ : Type} {A : Int → Option γ}, (aJ O M2 1050 1).bind A = A (iV M2 1050 1) := C1.aJ (by decide) (by decide)
    have z1 : ∀ {γ : Type} {A : Int → Option γ}, (aJ O M2 1051 1).bind A = A (iV M2 1051 1) := C2.aJ (by decide) (by decide)
    have z2 : ∀ {γ : Type} {A : Int → Option γ}, (aJ O M2 1052 1).bind A = A (iV M2 1052 1) := C3.aJ (by decide) (by decide)
    obtain ⟨M3, e3, b3, u3, c30, c31, c32, c33⟩ := ss_ok (O := O) (f := f) (z := 1) (b := 0) (m := iV M 1049 1) (p := iV M 1050 1) (w := iV M 1051 1) (t := iV M 1052 1) b2 (by omega) (by omega) (Or.inl rfl) (by omega) (by omega) (by omega) (by omega) (by omega) (by omega) (by omega) (by omega) (by
      show iV M 1049 1 ≠ iV M2 (rwA 1 1) 0
      rw [e16, c20]
      exact fun q => hne q.symm) hf
    rw [e17] at e3 u3 c30 c31 c32 c33
    have bef : iV M2 17 0 = v := by
      rw [u2.i (by (try dsimp only); omega)]
      exact c10
    have s16 : ∀ j, iV M3 16 j = iV M2 16 j := fun j => u3.i (by (try dsimp only); omega)
    refine ⟨M3, ?_, b3, ((u1.le (fun a q => by (try dsimp only at q ⊢); omega)).tr (u2.le (fun a q => by (try dsimp only at q ⊢); omega))).tr (u3.le (fun a q => by (try dsimp only at q ⊢); omega)), by rw [s16]; exact c20, by rw [s16]; exact c21, by rw [s16]; exact c22, by rw [s16]; exact c23, c30, c31, c32, c33⟩
    rw [e1, xcl_e, x0 B0, y0, y1, y2, k1 1049 0 (by omega), k1 1050 0 (by omega), k1 1051 0 (by omega), k1 1052 0 (by omega), a_Cal_is b1.1, e2, xcl_e, x1 C0, z0, z1, z2, k2 1049 1 (by omega), k2 1050 1 (by omega), k2 1051 1 (by omega), k2 1052 1 (by omega), a_Cal_is b2.1, e3, xcl_e, eq_T bef]
theorem az_44 {p q : Int} (h : Zi M) (hM : M.1 = 1049) (hS : M.2.1 ≤ 100000) (p0 : -48 ≤ p) (p1 : p ≤ 56) (q0 : 0 ≤ q) (q1 : q ≤ 8) (hf : 10000 ≤ f) : ∃ M', f_Law_areZones_44 O f 1 0 1044 (15 * p) (15 * q) M = some (1, M') ∧ M'.1 ≤ 2000 ∧ M'.2.1 ≤ 200000 := by
  have hw := h.1.1
  -- the months
  obtain ⟨N, eN, xN, aN, zN, kN, sN⟩ := ar_new (x := 2) (M := M) (by omega) (by omega) (by omega)
  rw [hM] at eN aN zN
  have iN := h.kp xN.kp (by omega)
  obtain ⟨r1, M2, e2, r10, r11, w2, u2, v2⟩ := dn_ok (O := O) (f := f) (m := 12) iN.1.1 (by omega) (by omega)
  have a2 := aN.un u2
  obtain ⟨M4, e4⟩ : ∃ M4, M4 = iS (iS M2 1049 0 (1 + r1)) 1049 1 0 := ⟨_, rfl⟩
  have u4 : Un (fun a => a ≠ 1049) M2 M4 := by
    rw [e4]
    exact (Un.rf.iS (fun q => q rfl)).iS (fun q => q rfl)
  have a4 := a2.un u4
  have w4 := u4.wd w2
  obtain ⟨r2, M5, e5, r20, r21, w5, u5, v5⟩ := dn_ok (O := O) (f := f) (m := 11) w4 (by omega) (by omega)
  have a5 := a4.un u5
  obtain ⟨M6, e6⟩ : ∃ M6, M6 = iS M5 1049 1 (1 + (1 + r1 + r2) % 12) := ⟨_, rfl⟩
  have u6 : Un (fun a => a ≠ 1049) M5 M6 := by
    rw [e6]
    exact Un.rf.iS (fun q => q rfl)
  have a6 := a5.un u6
  have k6 : Kp (fun a => a ≠ 0) M M6 := by
    have kk : Kp (fun a => a ≠ 0 ∧ a ≠ 1049) M M6 := (((xN.kp.tr (u2.kp.le (fun a q => q.1))).tr (u4.kp.le (fun a q => q.2))).tr (u5.kp.le (fun a q => q.1))).tr (u6.kp.le (fun a q => q.2))
    exact ⟨kk.1, kk.2.1, fun a ha p => kk.2.2 a ha ⟨p, by omega⟩⟩
  have c6 : M6.1 = 1050 := by rw [u6.1.1, u5.1.1, u4.1.1, u2.1.1, kN, hM]
  have s6 : M6.2.1 = M.2.1 + 2 := by rw [u6.1.2.1, u5.1.2.1, u4.1.2.1, u2.1.2.1, sN]; rfl
  have i6 := h.kp k6 (by omega)
  have m40 : iV M4 1049 0 = 1 + r1 := by rw [e4, iV_o (by omega), iV_s (by omega) (by omega)]
  have mo0 : iV M6 1049 0 = 1 + r1 := by rw [e6, iV_o (by omega), v5, m40]
  have mo1 : iV M6 1049 1 = 1 + (1 + r1 + r2) % 12 := by rw [e6, iV_s (by omega) (by omega)]
  -- places, weekdays, minutes
  obtain ⟨g1, g2, M7, e7, g10, g11, g20, g21, k7, a7, x70, x71, c7, s7, w7⟩ := az_pair (O := O) (f := f) (M := M6) (b := 5) (g := fun x => 1 + x) i6.1.1 (by omega) (by omega) (by omega) (fun x h0 h1 => by (try dsimp only); omega)
  rw [c6] at e7 a7 x70 x71 c7
  have i7 := i6.kp k7 (by omega)
  obtain ⟨g3, g4, M8, e8, g30, g31, g40, g41, k8, a8, x80, x81, c8, s8, w8⟩ := az_pair (O := O) (f := f) (M := M7) (b := 7) (g := fun x => x) i7.1.1 (by omega) (by omega) (by omega) (fun x h0 h1 => by (try dsimp only); omega)
  rw [c7] at e8 a8 x80 x81 c8
  have i8 := i7.kp k8 (by omega)
  obtain ⟨g5, g6, M9, e9, g50, g51, g60, g61, k9, a9, x90, x91, c9, s9, w9⟩ := az_pair (O := O) (f := f) (M := M8) (b := 1440) (g := fun x => x) i8.1.1 (by omega) (by omega) (by omega) (fun x h0 h1 => by (try dsimp only); omega)
  rw [c8] at e9 a9 x90 x91 c9
  have i9 := i8.kp k9 (by omega)
  -- the zone
  obtain ⟨Ma, ra, ea, ba, ua, va0, va1⟩ := sz_ok (O := O) (f := f) (z := 1) i9.1 (by omega) (by omega) p0 p1 q0 q1 (by omega)
  have kz : (1 : Int).toNat = 1 := rfl
  rw [kz] at ua va0 va1
  have ua' : Un (fun a => a = 0 ∨ 1044 ≤ a ∨ (1 < a ∧ a < 140 ∧ a ≠ 15)) M9 Ma := ua
  have va0 : iV Ma 15 0 = 15 * p := va0
  have va1 : iV Ma 15 1 = 15 * q := va1
  -- the rows in Ma
  have row : ∀ (a j : Nat) (x : Int) (L : xM), iV L a j = x → Kp (fun a => a ≠ 0) L M9 → a < L.1 → a ≠ 0 → 1044 ≤ a → iV Ma a j = x := by
    intro a j x L e k hlt hne hge
    rw [ua'.i (by (try dsimp only); omega), k.i hlt hne]
    exact e
  have k79 := k8.tr k9
  have k69 := k7.tr k79
  have A0 : Ar 1049 2 Ma := (a6.kp k69 (by omega)).un ua'
  have A1 : Ar 1050 2 Ma := (a7.kp k79 (by omega)).un ua'
  have A2 : Ar 1051 2 Ma := (a8.kp k9 (by omega)).un ua'
  have A3 : Ar 1052 2 Ma := a9.un ua'
  have o00 : iV Ma 1049 0 = 1 + r1 := row 1049 0 _ M6 mo0 k69 (by omega) (by omega) (by omega)
  have o01 : iV Ma 1049 1 = 1 + (1 + r1 + r2) % 12 := row 1049 1 _ M6 mo1 k69 (by omega) (by omega) (by omega)
  have o10 : iV Ma 1050 0 = 1 + g1 := row 1050 0 _ M7 x70 k79 (by omega) (by omega) (by omega)
  have o11 : iV Ma 1050 1 = 1 + g2 := row 1050 1 _ M7 x71 k79 (by omega) (by omega) (by omega)
  have o20 : iV Ma 1051 0 = g3 := row 1051 0 _ M8 x80 k9 (by omega) (by omega) (by omega)
  have o21 : iV Ma 1051 1 = g4 := row 1051 1 _ M8 x81 k9 (by omega) (by omega) (by omega)
  have o30 : iV Ma 1052 0 = g5 := row 1052 0 _ M9 x90 Kp.rf (by omega) (by omega) (by omega)
  have o31 : iV Ma 1052 1 = g6 := row 1052 1 _ M9 x91 Kp.rf (by omega) (by omega) (by omega)
  have hrr : ∀ k : Nat, k < 2 → 1 ≤ iV Ma 1049 k ∧ iV Ma 1049 k ≤ 12 ∧ 1 ≤ iV Ma 1050 k ∧ iV Ma 1050 k ≤ 5 ∧ 0 ≤ iV Ma 1051 k ∧ iV Ma 1051 k ≤ 6 ∧ 0 ≤ iV Ma 1052 k ∧ iV Ma 1052 k ≤ 1439 := by
    intro k hk
    have hk2 : k = 0 ∨ k = 1 := by omega
    rcases hk2 with rfl | rfl
    · rw [o00, o10, o20, o30]
      omega
    · rw [o01, o11, o21, o31]
      omega
  have hne : iV Ma 1049 0 ≠ iV Ma 1049 1 := by
    rw [o00, o01]
    omega
  have zv9 := i9.2.2.1
  have h16 : iV Ma 16 0 = 3 := by rw [ua'.i (by (try dsimp only); omega)]; exact i9.2.2.2.2.1
  have h17 : iV Ma 17 0 = 10 := by rw [ua'.i (by (try dsimp only); omega)]; exact i9.2.2.2.2.2
  obtain ⟨Mb, eb, bb, ub, vb⟩ := sets_14 (O := O) (f := f) ba A0 A1 A2 A3 hrr h16 h17 hne (by omega) 11 f 1 (by omega) (by omega) (fun w h0 h1 => by omega) (by omega)
  have cb : Mb.1 = 1053 := by rw [ub.1.1, ua.1.1]; omega
  -- the row of the switches, the year
  obtain ⟨Nc, eNc, xNc, aNc, zNc, kNc, sNc⟩ := ar_new (x := 2) (M := Mb) (by omega) (by omega) (by omega)
  rw [cb] at eNc aNc zNc
  have wNc := xNc.wd bb.1 (by omega)
  obtain ⟨yy, Md, ed, yy0, yy1, wd, ud, vd⟩ := dn_ok (O := O) (f := f) (m := 10) wNc (by omega) (by omega)
  -- what Md has of Ma
  have dv : ∀ a j, a < 1053 → iV Md a j = iV Mb a j := fun a j ha => by rw [vd, xNc.i (by omega)]
  have dva : ∀ a j, 1044 ≤ a → a < 1053 → iV Md a j = iV Ma a j := fun a j h1 h2 => by rw [dv a j h2, ub.i (by (try dsimp only); omega)]
  have kd : Kp (fun a => a ≠ 0) Mb Md := (xNc.kp).tr ud.kp
  have cd : Md.1 = 1054 := by rw [ud.1.1, kNc, cb]
  have bd : Bs Md := bb.kp kd (by omega) (by (try dsimp only); omega) (fun k hk => by (try dsimp only); omega)
  have zr : Zr Md := by
    have kbd : Kp (fun a => a = 0 ∧ a ≠ 0) Ma Md := (ub.kp.le (fun a q => absurd q.1 q.2)).tr (kd.le (fun a q => q.2))
    refine ⟨A0.kp kbd (by omega), A1.kp kbd (by omega), A2.kp kbd (by omega), A3.kp kbd (by omega), aNc.un ud, fun k hk => ?_⟩
    rw [dva 1049 _ (by omega) (by omega), dva 1050 _ (by omega) (by omega), dva 1051 _ (by omega) (by omega), dva 1052 _ (by omega) (by omega)]
    exact hrr k hk
  have ld : LD 1044 Md := by
    have l1 := i9.2.1.un ua' (fun j hj => by (try dsimp only); omega)
    have l2 := l1.un ub (fun j hj => by (try dsimp only); omega)
    exact l2.kp kd (by omega) (fun j hj => by (try dsimp only); omega)
  have zc0 : Zc0 Md := by
    refine ⟨bd, ?_, ?_, zr, ?_, ?_⟩
    · intro k hk
      by_cases e : k = 1
      · subst e
        have r0 := hrr 0 (by omega)
        have r1 := hrr 1 (by omega)
        obtain ⟨v1, v2, v3, v4, v5, v6, v7, v8⟩ := vb
        have e15 : ∀ j, iV Mb 15 j = iV Ma 15 j := fun j => ub.i (by (try dsimp only); omega)
        show -720 ≤ iV Md 15 0 ∧ iV Md 15 0 ≤ 840 ∧ 0 ≤ iV Md 15 1 ∧ iV Md 15 1 ≤ 120 ∧ rV Md 16 ∧ rV Md 17
        unfold rV
        rw [dv 15 _ (by omega), dv 15 _ (by omega), dv 16 _ (by omega), dv 16 _ (by omega), dv 16 _ (by omega), dv 16 _ (by omega), dv 17 _ (by omega), dv 17 _ (by omega), dv 17 _ (by omega), dv 17 _ (by omega), e15, e15, va0, va1, v1, v2, v3, v4, v5, v6, v7, v8]
        exact ⟨by omega, by omega, by omega, by omega, r0, r1⟩
      · refine (zv9 k hk).of (fun a j h1 h2 => ?_)
        rw [dv a j (by omega), ub.i (by (try dsimp only); omega), ua'.i (by (try dsimp only); omega)]
    · intro k hk
      rw [dv _ _ (by omega), ub.i (by (try dsimp only); omega), ua'.i (by (try dsimp only); omega)]
      exact i9.2.2.2.1 k hk
    · simp (disch := omega) only [dva]
      rw [dv 16 _ (by omega), dv 16 _ (by omega), dv 16 _ (by omega), dv 16 _ (by omega), dv 17 _ (by omega), dv 17 _ (by omega), dv 17 _ (by omega), dv 17 _ (by omega)]
      exact vb
    · rw [dva 1049 _ (by omega) (by omega), dva 1049 _ (by omega) (by omega)]
      exact hne
  obtain ⟨Me, ee, ue, ve⟩ := az_205 (O := O) (f := f) (o := 15 * p) (s := 15 * q) (y := 2001 + yy) ld zr (by omega) (by omega) (by omega)
  have zce : Zc Me (2001 + yy) := by
    refine ⟨zc0.un ue (fun a h1 h2 => by (try dsimp only); omega), fun k hk => ?_⟩
    rw [ve k hk]
    exact (atL.un ue (by (try dsimp only); omega)).symm
  have lde := ld.un ue (fun j hj => by (try dsimp only); omega)
  have eo : iV Me 15 0 = 15 * p := by
    rw [ue.i (by (try dsimp only); omega), dv 15 _ (by omega), ub.i (by (try dsimp only); omega)]
    exact va0
  have es : iV Me 15 1 = 15 * q := by
    rw [ue.i (by (try dsimp only); omega), dv 15 _ (by omega), ub.i (by (try dsimp only); omega)]
    exact va1
  have e327 := az_327 (O := O) (f := f) (o := 15 * p) (s := 15 * q) (y := 2001 + yy) lde (by omega) (by omega) (by omega) (cBegin (mIx (2001 + yy) 1)).toNat f 0 (by omega) (by have := (az_yr (y := 2001 + yy) (by omega) (by omega)).1; omega) (by have := az_yr (y := 2001 + yy) (by omega) (by omega); omega)
  obtain ⟨Mf, ef, sf⟩ := az_370 (O := O) (f := f) (y := 2001 + yy) (by omega) (by omega) (by omega) 40 f 0 Me zce eo es (by omega) (by omega) (by omega)
  refine ⟨Mf, ?_, ?_, ?_⟩
  · have p1 : ∀ {B : xM → Option (Int × xM)}, (wJ M2 1049 0 (1 + r1)).bind B = B (iS M2 1049 0 (1 + r1)) := a2.wJ (by decide) (by decide)
    have a3 : Ar 1049 (2 : Int).toNat (iS M2 1049 0 (1 + r1)) := a2
    have p2 : ∀ {B : xM → Option (Int × xM)}, (wJ (iS M2 1049 0 (1 + r1)) 1049 1 0).bind B = B M4 := by
      intro B
      rw [e4]
      exact a3.wJ (by decide) (by decide)
    have p3 : ∀ {B : Int → Option (Int × xM)}, (aJ O M4 1049 0).bind B = B (iV M4 1049 0) := a4.aJ (by decide) (by decide)
    have p4 : ∀ {B : xM → Option (Int × xM)}, (wJ M5 1049 1 (1 + (1 + r1 + r2) % 12)).bind B = B M6 := by
      intro B
      rw [e6]
      exact a5.wJ (by decide) (by decide)
    have s0 : ∀ {B : Int → Option (Int × xM)}, (aJ O Ma 1049 0).bind B = B (iV Ma 1049 0) := A0.aJ (by decide) (by decide)
    have s1 : ∀ {B : Int → Option (Int × xM)}, (aJ O Ma 1049 1).bind B = B (iV Ma 1049 1) := A0.aJ (by decide) (by decide)
    unfold f_Law_areZones_44
    rw [eN, xcl_e, iN.1.1.is (k := 0) (ci := 15) (by decide) (by decide), e2, xcl_e, p1, p2, p3, w4.is (k := 0) (ci := 15) (by decide) (by decide), e5, xcl_e, m40, jrem_e (by omega) (by omega) (by omega) (by omega), p4]
    refine (e7 _).trans ?_
    refine (e8 _).trans ?_
    refine (e9 _).trans ?_
    rw [a_Cal_is i9.1.1, ea, xcl_e]
    have esets : f_Law_sets O f 1 1049 1050 1051 1052 Ma = some (1, Mb) := by
      unfold f_Law_sets
      rw [s0, s1, eq_F hne (by omega) (by omega) (by omega) (by omega)]
      exact eb
    rw [esets, xcl_e, eq_F (by omega) (by omega) (by omega) (by omega) (by omega), eNc, xcl_e, wNc.is (k := 0) (ci := 15) (by decide) (by decide), ed, xcl_e, ee, e327]
    exact ef
  · rw [sf.1, ue.1.1]
    omega
  · rw [sf.2.1, ue.1.2.1, ud.1.2.1, sNc, ub.1.2.1, ua.1.2.1, s9, s8, s7, s6]
    have : (2 : Int).toNat = 2 := rfl
    omega
theorem areZones_ok (h : St0 M) (hf : 10000 ≤ f) : ∃ M', f_Law_areZones O f 1 0 M = some (1, M') ∧ M'.1 ≤ 2000 ∧ M'.2.1 ≤ 200000 := by
  have hsv := h.sv
  have hbo := h.bo
  obtain ⟨hw, hM, hM2, -, hse, -, hzo, -⟩ := h
  obtain ⟨N, M2, e0, e1, ld, x2, c2, s2⟩ := ld_ok (O := O) (f := f) (M := M) (by omega) (by omega) (by omega)
  rw [hM] at e0 e1 ld c2
  have hv : ∀ a j, a < 1044 → iV M2 a j = iV M a j := fun a j ha => x2.i (by omega)
  have b2 : Bs M2 := Bs.ex (M := M) ⟨hw, hsv, hbo⟩ x2 (by omega)
  have z2 : Zi M2 := by
    refine ⟨b2, ld, fun k hk => ?_, fun k hk => ?_, ?_, ?_⟩
    · obtain ⟨v1, v2, v3, v4, v5, v6, v7, v8, v9, v10⟩ := hzo k hk
      unfold Zv rV
      simp (disch := omega) only [hv]
      omega
    · rw [hv _ _ (by omega)]
      exact (hse k hk).1
    · rw [hv _ _ (by omega)]
      exact (hzo 1 (by omega)).2.2.1
    · rw [hv _ _ (by omega)]
      exact (hzo 1 (by omega)).2.2.2.2.2.2.1
  obtain ⟨x3, M3, e3, x30, x31, w3, u3, v3⟩ := dn_ok (O := O) (f := f) (m := 105) b2.1 (by omega) (by omega)
  have z3 := z2.kp u3.kp (by rw [u3.1.1]; omega)
  obtain ⟨x4, M4, e4, x40, w4, u4, v4⟩ := di_ok (O := O) (f := f) (m := 5) w3 (by omega) (by omega)
  have z4 := z3.kp u4.kp (by rw [u4.1.1, u3.1.1]; omega)
  have c4 : M4.1 = 1049 := by rw [u4.1.1, u3.1.1]; exact c2
  have s4 : M4.2.1 ≤ 60000 := by rw [u4.1.2.1, u3.1.2.1]; omega
  unfold f_Law_areZones
  rw [e0, xcl_e, e1, xcl_e, b2.1.is (k := 0) (ci := 15) (by decide) (by decide), e3, xcl_e, w3.is (k := 0) (ci := 15) (by decide) (by decide), e4, xcl_e]
  rcases x40 with rfl | rfl
  · obtain ⟨x5, M5, e5, x50, x51, w5, u5, v5⟩ := dn_ok (O := O) (f := f) (m := 8) w4 (by omega) (by omega)
    have z5 := z4.kp u5.kp (by rw [u5.1.1]; omega)
    rw [eq_T rfl, w4.is (k := 0) (ci := 15) (by decide) (by decide), e5, xcl_e]
    exact az_44 z5 (by rw [u5.1.1]; exact c4) (by rw [u5.1.2.1]; omega) (by omega) (by omega) (by omega) (by omega) hf
  · rw [eq_F (by omega) (by omega) (by omega) (by omega) (by omega)]
    exact az_44 (q := 0) z4 c4 (by omega) (by omega) (by omega) (by omega) (by omega) hf
end AZB
end
