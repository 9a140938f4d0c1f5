/-! draft 665.dayasks -/
section
/-! ===== the law asks for the days ===== -/
section DAK
variable {O : Nat → Option va_E} {f k m p : Nat} {M N : xM} {kk d x : Int}
theorem dl_382 {v10 : Int} (h : Wd M) (hkk : kk = (k : Int)) (hk : k < 12) (ht : iV M (29 + 6 * k) 0 = 1) (hr : RVg (iV M (30 + 6 * k))) (ip : inM M p) (sp : mS M p = .inr (0, 800)) (f1 : iV M (30 + 6 * k) 0 ≤ 3009) (ev : v10 = iV M (30 + 6 * k) 0 + 799) (dl : dyL (iV M p) (Dg (iV M (30 + 6 * k))) (iV M (30 + 6 * k) 0) (nD (Dg (iV M (30 + 6 * k))) (iV M (30 + 6 * k) 0) v10) v10) (hf : 10000 ≤ f) : ∀ (r t : Nat) (e v11 v12 : Int), v10 + 1 - e ≤ r → e ≤ v10 + 1 → r < t → iV M (30 + 6 * k) 0 ≤ e → v11 = ((nD (Dg (iV M (30 + 6 * k))) (iV M (30 + 6 * k) 0) (e - 1) : Nat) : Int) → tdR (iV M (30 + 6 * k)) e v12 → f_Law_areDays_382 O f t 1 0 m kk p ((nD (Dg (iV M (30 + 6 * k))) (iV M (30 + 6 * k) 0) v10 : Nat) : Int) v10 v11 v12 M = f_Law_areDays_453 O f 1 0 m kk p ((nD (Dg (iV M (30 + 6 * k))) (iV M (30 + 6 * k) 0) v10 : Nat) : Int) v10 ((nD (Dg (iV M (30 + 6 * k))) (iV M (30 + 6 * k) 0) v10 : Nat) : Int) M := by
  subst hkk
  obtain ⟨D, eD⟩ : ∃ D, D = Dg (iV M (30 + 6 * k)) := ⟨_, rfl⟩
  have f0 := hr.1.1
  have tle := nD_le (P := D) (a := iV M (30 + 6 * k) 0) (b := v10) (by omega)
  rw [← eD] at dl ⊢
  have last := hr.2.2.2.2.2.2.2.2.1
  intro r
  induction r with
  | zero =>
    intro t e v11 v12 he hem htt e0 e1 td
    obtain ⟨t, rfl⟩ : ∃ n', t = n' + 1 := ⟨t - 1, by omega⟩
    have ee : e = v10 + 1 := by omega
    have e2 : v11 = ((nD D (iV M (30 + 6 * k) 0) v10 : Nat) : Int) := by rw [e1, ee, show v10 + 1 - 1 = v10 by omega]
    show (if yw v12 = yw (-1) then _ else _) = _
    rcases td with ⟨z1, z2⟩ | ⟨z1, z2, z3⟩
    · rw [eq_T z1, e2]
    · have zl := z2.2.1
      rw [eq_F (by omega) (by omega) (by omega) (by omega) (by omega), lt_T (by omega) (by omega) (by omega), e2]
  | succ r ih =>
    intro t e v11 v12 he hem htt e0 e1 td
    obtain ⟨t, rfl⟩ : ∃ n', t = n' + 1 := ⟨t - 1, by omega⟩
    have ele := nD_le (P := D) (a := iV M (30 + 6 * k) 0) (b := e - 1) (by omega)
    show (if yw v12 = yw (-1) then _ else _) = _
    -- at the end
    have fin : (∀ d, e ≤ d → d ≤ v10 → ¬ D d) → v11 = ((nD D (iV M (30 + 6 * k) 0) v10 : Nat) : Int) := fun q => by
      rw [e1, nD_flat (P := D) (a := iV M (30 + 6 * k) 0) (b := e - 1) (c := v10) (by omega) (by omega) (fun d d0 d1 => q d (by omega) d1)]
    rcases td with ⟨z1, z2⟩ | ⟨z1, z2, z3⟩
    · rw [eq_T z1, fin (fun d d0 _ => by rw [eD]; exact z2 d d0)]
    have zl := z2.2.1
    rw [eq_F (by omega) (by omega) (by omega) (by omega) (by omega)]
    by_cases c : v10 < v12
    · rw [lt_T c (by omega) (by omega), fin (fun d d0 d1 => by rw [eD]; exact z3 d d0 (by omega))]
    rw [lt_F (by omega) (by omega) (by omega)]
    have up : nD D (iV M (30 + 6 * k) 0) v12 = nD D (iV M (30 + 6 * k) 0) (e - 1) + 1 := nD_up (by omega) (by omega) (by rw [eD]; exact z2) (fun d d0 d1 => by rw [eD]; exact z3 d (by omega) d1)
    have mo := nD_mono (P := D) (a := iV M (30 + 6 * k) 0) (b := v12) (c := v10) (by omega) (by omega)
    obtain ⟨a1, a2, a3, a4⟩ := dl v11.toNat (by omega)
    have ax : iV M p v11.toNat = v12 := nD_inj (P := D) a1 (by omega) a3 (by rw [eD]; exact z2) (by omega)
    have t435 : f_Law_areDays_435 O f (f_Law_areDays_382 O f t) 1 0 m (k : Int) p ((nD D (iV M (30 + 6 * k) 0) v10 : Nat) : Int) v10 v11 v12 M = f_Law_areDays_453 O f 1 0 m (k : Int) p ((nD D (iV M (30 + 6 * k) 0) v10 : Nat) : Int) v10 ((nD D (iV M (30 + 6 * k) 0) v10 : Nat) : Int) M := by
      obtain ⟨y, ey, oy⟩ := e_nextDay (O := O) (f := f) (d := v12 + 1) h rfl hk ht (nxG hk hr hf) (by omega) (by omega)
      unfold f_Law_areDays_435
      rw [a_Cal_is h, ey, xcl_e]
      exact ih t (v12 + 1) (v11 + 1) y (by omega) (by omega) (by omega) (by omega) (by rw [show v12 + 1 - 1 = v12 by omega, up]; omega) oy
    rw [le_F (by omega) (by omega) (by omega), z_aJ ip sp (by omega) (by omega) (by omega), ax, eq_T rfl]
    by_cases c5 : 500 ≤ v11
    · rw [le_T c5 (by omega) (by omega)]
      exact t435
    · rw [le_F (by omega) (by omega) (by omega), a_Cal_is h, dayOf_ok (y := v12) h rfl hk ht hr (by omega) (by omega) z2 (by rw [← eD, up]; omega) hf, xcl_e, eq_T rfl]
      exact t435
/-- four stretches are counted -/
theorem dl_480 {v10 : Int} (hkk : kk = (k : Int)) (hk : k < 12) (hp : 1044 ≤ p) (hf : 10000 ≤ f) : ∀ (r t : Nat) (v12 : Int) (M : xM), Wd M → iV M (29 + 6 * k) 0 = 1 → RVg (iV M (30 + 6 * k)) → inM M p → mS M p = .inr (0, 800) → iV M (30 + 6 * k) 0 ≤ 3009 → v10 = iV M (30 + 6 * k) 0 + 799 → dyL (iV M p) (Dg (iV M (30 + 6 * k))) (iV M (30 + 6 * k) 0) (nD (Dg (iV M (30 + 6 * k))) (iV M (30 + 6 * k) 0) v10) v10 → v12 + r = 4 → r < t → 0 ≤ v12 → ∃ N, f_Law_areDays_480 O f t 1 0 m kk p ((nD (Dg (iV M (30 + 6 * k))) (iV M (30 + 6 * k) 0) v10 : Nat) : Int) v10 v12 M = f_Law_areDays_566 O f 1 0 m kk p ((nD (Dg (iV M (30 + 6 * k))) (iV M (30 + 6 * k) 0) v10 : Nat) : Int) v10 N ∧ Un (fun a => a ≠ 0) M N := by
  subst hkk
  intro r
  induction r with
  | zero =>
    intro t v12 M h hT hr ip sp f1 ev dl hv ht v0
    obtain ⟨t, rfl⟩ : ∃ n', t = n' + 1 := ⟨t - 1, by omega⟩
    refine ⟨M, ?_, Un.rf⟩
    show (if yw 4 ≤ yw v12 then _ else _) = _
    rw [le_T (by omega) (by omega) (by omega)]
  | succ r ih =>
    intro t v12 M h hT hr ip sp f1 ev dl hv ht v0
    obtain ⟨t, rfl⟩ : ∃ n', t = n' + 1 := ⟨t - 1, by omega⟩
    obtain ⟨T, eT⟩ : ∃ T : Nat, T = nD (Dg (iV M (30 + 6 * k))) (iV M (30 + 6 * k) 0) v10 := ⟨_, rfl⟩
    have tle := nD_le (P := Dg (iV M (30 + 6 * k))) (a := iV M (30 + 6 * k) 0) (b := v10) (by omega)
    rw [← eT] at dl tle ⊢
    show ∃ N, (if yw 4 ≤ yw v12 then _ else _) = _ ∧ _
    rw [le_F (by omega) (by omega) (by omega)]
    by_cases c : (T : Int) ≤ 0
    · exact ⟨M, by rw [le_T c (by omega) (by omega)], Un.rf⟩
    obtain ⟨x1, M1, e1, x10, x11, w1, u1, i1⟩ := dn_ok (O := O) (f := f) (m := (T : Int)) h (by omega) (by omega)
    obtain ⟨x2, M2, e2, x20, x21, w2, u2, i2⟩ := dn_ok (O := O) (f := f) (m := (T : Int) - x1) w1 (by omega) (by omega)
    have u : Un (fun a => a ≠ 0) M M2 := u1.tr u2
    have iv : ∀ a, iV M2 a = iV M a := fun a => funext (fun j => by rw [i2, i1])
    have ip2 := u.1.inM ip
    have sp2 : mS M2 p = .inr (0, 800) := by rw [u.1.s]; exact sp
    obtain ⟨a1, a2, a3, a4⟩ := dl x1.toNat (by omega)
    obtain ⟨b1, b2, b3, b4⟩ := dl (x1 + x2).toNat (by omega)
    have hT2 : iV M2 (29 + 6 * k) 0 = 1 := by rw [iv]; exact hT
    have hr2 : RVg (iV M2 (30 + 6 * k)) := by rw [iv]; exact hr
    have f0 := hr.1.1
    obtain ⟨y1, ey1⟩ : ∃ y, y = iV M p x1.toNat := ⟨_, rfl⟩
    obtain ⟨y2, ey2⟩ : ∃ y, y = iV M p (x1 + x2).toNat := ⟨_, rfl⟩
    rw [← ey1] at a1 a2 a3 a4
    rw [← ey2] at b1 b2 b3 b4
    have yy : y1 ≤ y2 := by
      by_cases g : y1 ≤ y2
      · exact g
      · have m1 := nD_mono (P := Dg (iV M (30 + 6 * k))) (a := iV M (30 + 6 * k) 0) (b := y2) (c := y1 - 1) (by omega) (by omega)
        have m2 := (nD_last (P := Dg (iV M (30 + 6 * k))) (a := iV M (30 + 6 * k) 0) (b := y1) a1).1 a3
        omega
    have cn : ((nD (Dg (iV M (30 + 6 * k))) y1 y2 : Nat) : Int) = x2 + 1 := by
      have ad := nD_add (P := Dg (iV M (30 + 6 * k))) (a := iV M (30 + 6 * k) 0) (b := y2) (c := y1 - 1) (by omega) (by omega)
      have m2 := (nD_last (P := Dg (iV M (30 + 6 * k))) (a := iV M (30 + 6 * k) 0) (b := y1) a1).1 a3
      rw [show y1 - 1 + 1 = y1 by omega] at ad
      omega
    have lst := hr.2.2.2.2.2.2.2.2.1
    have cd := countDays_ok (O := O) (f := f) (kk := (k : Int)) (a := y1) (b := y2) w2 rfl hk hT2 hr2 (by omega) yy (by omega) hf
    rw [iv, cn] at cd
    obtain ⟨z, ez, oz⟩ := e_nextDay (O := O) (f := f) (d := y1) w2 rfl hk hT2 (nxG hk hr2 hf) (by omega) (by omega)
    rw [iv] at oz
    have zy : z = y1 := by
      rcases oz with ⟨q1, q2⟩ | ⟨q1, q2, q3⟩
      · exact (q2 y1 (Int.le_refl _) a3).elim
      · by_cases g : y1 < z
        · exact (q3 y1 (Int.le_refl _) g a3).elim
        · omega
    obtain ⟨N, eN, uN⟩ := ih t (v12 + 1) M2 w2 hT2 hr2 ip2 sp2 (by rw [iv]; exact f1) (by rw [iv]; exact ev) (by rw [iv, iv, ← eT]; exact dl) (by omega) (by omega) (by omega)
    rw [iv, ← eT] at eN
    refine ⟨N, ?_, u.tr uN⟩
    rw [le_F (by omega) (by omega) (by omega), h.is (k := 0) (ci := 15) (by decide) (by decide), e1, xcl_e, w1.is (k := 0) (ci := 15) (by decide) (by decide), e2, xcl_e, z_aJ ip2 sp2 (by omega) (by omega) (by omega), z_aJ ip2 sp2 (by omega) (by omega) (by omega), iv, ← ey1, ← ey2, a_Cal_is w2, cd, xcl_e, show x1 + x2 - x1 + 1 = x2 + 1 by omega, eq_T rfl, z_aJ ip2 sp2 (by omega) (by omega) (by omega), iv, ← ey1, a_Cal_is w2, ez, xcl_e, z_aJ ip2 sp2 (by omega) (by omega) (by omega), iv, ← ey1, eq_T zy]
    exact eN
/-- all that is asked of the days is right -/
theorem dl_asks {v10 x : Int} (h : Wd M) (hkk : kk = (k : Int)) (hk : k < 12) (hT : iV M (29 + 6 * k) 0 = 1) (hr : RVg (iV M (30 + 6 * k))) (hp : 1044 ≤ p) (ip : inM M p) (sp : mS M p = .inr (0, 800)) (f1 : iV M (30 + 6 * k) 0 ≤ 3009) (ev : v10 = iV M (30 + 6 * k) 0 + 799) (dl : dyL (iV M p) (Dg (iV M (30 + 6 * k))) (iV M (30 + 6 * k) 0) (nD (Dg (iV M (30 + 6 * k))) (iV M (30 + 6 * k) 0) v10) v10) (hf : 10000 ≤ f) : ∃ N, (xcl (f_Calendarhall_nextDay O f 1 kk 10 M) fun x1 M1 => f_Law_areDays_382 O f f 1 0 m kk p ((nD (Dg (iV M (30 + 6 * k))) (iV M (30 + 6 * k) 0) v10 : Nat) : Int) v10 0 x1 M1) = f_Law_areDays_566 O f 1 0 m kk p ((nD (Dg (iV M (30 + 6 * k))) (iV M (30 + 6 * k) 0) v10 : Nat) : Int) v10 N ∧ Un (fun a => a ≠ 0) M N := by
  have f0 := hr.1.1
  obtain ⟨x, ex, ox⟩ := e_nextDay (O := O) (f := f) (d := 10) h hkk hk hT (nxG hk hr hf) (by omega) (by omega)
  have td : tdR (iV M (30 + 6 * k)) (iV M (30 + 6 * k) 0) x := by
    rcases ox with ⟨q1, q2⟩ | ⟨q1, q2, q3⟩
    · exact Or.inl ⟨q1, fun e he => q2 e (by omega)⟩
    · exact Or.inr ⟨q2.1, q2, fun e he he2 => q3 e (by omega) he2⟩
  have e1 := dl_382 (O := O) (m := m) h hkk hk hT hr ip sp f1 ev dl hf 800 f (iV M (30 + 6 * k) 0) 0 x (by omega) (by omega) (by omega) (Int.le_refl _) (by rw [nD_e (by omega)]; rfl) td
  obtain ⟨N, eN, uN⟩ := dl_480 (O := O) (f := f) (m := m) (p := p) hkk hk hp hf 4 f 0 M h hT hr ip sp f1 ev dl (by omega) (by omega) (by omega)
  refine ⟨N, ?_, uN⟩
  rw [ex, xcl_e, e1, ← eN]
  have tle := nD_le (P := Dg (iV M (30 + 6 * k))) (a := iV M (30 + 6 * k) 0) (b := v10) (by omega)
  have cn : nD (Dg (iV M (30 + 6 * k))) 10 v10 = nD (Dg (iV M (30 + 6 * k))) (iV M (30 + 6 * k) 0) v10 := by
    have ad := nD_add (P := Dg (iV M (30 + 6 * k))) (a := 10) (b := v10) (c := iV M (30 + 6 * k) 0 - 1) (by omega) (by omega)
    rw [nD_0 (P := Dg (iV M (30 + 6 * k))) (a := 10) (b := iV M (30 + 6 * k) 0 - 1) (fun d d0 d1 z => by have := z.1; omega), show iV M (30 + 6 * k) 0 - 1 + 1 = iV M (30 + 6 * k) 0 by omega] at ad
    omega
  unfold f_Law_areDays_453
  rw [eq_T rfl, a_Cal_is h, countDays_ok h hkk hk hT hr (by omega) (by omega) (by omega) hf, xcl_e, cn, eq_T rfl]
end DAK
end
/-! draft 666.dates -/
section
/-! ===== dates counted, and the next one: all kinds ===== -/
section CDG
variable {O : Nat → Option va_E} {f k : Nat} {M N : xM} {P P' D : Int → Prop} {a b c d e x y u v : Int}
theorem nD_sw (h : ∀ d, a ≤ d → d ≤ b → d ≠ e → (P d ↔ P' d)) (h0 : a ≤ e) (h1 : e ≤ b) : (P e → P' e → nD P' a b = nD P a b) ∧ (P e → ¬ P' e → nD P a b = nD P' a b + 1) ∧ (¬ P e → P' e → nD P' a b = nD P a b + 1) ∧ (¬ P e → ¬ P' e → nD P' a b = nD P a b) := by
  refine ⟨fun p q => nD_of (fun d d0 d1 => ?_), fun p q => nD_one (x := e) (fun d d0 d1 => ?_) ⟨h0, h1⟩ q, fun p q => nD_one (x := e) (fun d d0 d1 => ?_) ⟨h0, h1⟩ p, fun p q => nD_of (fun d d0 d1 => ?_)⟩
  · by_cases g : d = e
    · rw [g]
      exact ⟨fun _ => p, fun _ => q⟩
    · exact (h d d0 d1 g).symm
  · by_cases g : d = e
    · rw [g]
      exact ⟨fun _ => Or.inr rfl, fun _ => p⟩
    · rw [h d d0 d1 g]
      exact ⟨fun z => Or.inl z, fun z => z.elim id (fun z => (g z).elim)⟩
  · by_cases g : d = e
    · rw [g]
      exact ⟨fun _ => Or.inr rfl, fun _ => q⟩
    · rw [h d d0 d1 g]
      exact ⟨fun z => Or.inl z, fun z => z.elim id (fun z => (g z).elim)⟩
  · by_cases g : d = e
    · rw [g]
      exact ⟨fun z => (q z).elim, fun z => (p z).elim⟩
    · exact (h d d0 d1 g).symm
/-- the first day whose date begins at a minute or behind it -/
theorem firstDay2 (h : Wd M) (hk : k < 12) (hs : SV M k) (hz : Zv M (zk M k)) (hz3 : zk M k < 3) (x0 : 14400 ≤ x) (x1 : x ≤ 150000000) (hf : 5 ≤ f) : ∃ d, f_Series_firstDayFrom O f (29 + 6 * k) (12 + 3 * zk M k) x M = some (d, M) ∧ C0 M k (d - 1) < x ∧ x ≤ C0 M k d ∧ 8 ≤ d ∧ d ≤ 146000 := by
  have hz' := hz
  obtain ⟨o0, o1, s0, s1, -, -⟩ := hz'
  have sm := hs.2.2.1
  obtain ⟨d0, ed⟩ : ∃ d0, d0 = (x + iV M (12 + 3 * zk M k) 0 - iV M (29 + 6 * k) 2) / 1440 := ⟨_, rfl⟩
  have b0 := C0_r (d := d0) hs hz
  have b1 := C0_r (d := d0 + 1) hs hz
  have b2 := C0_r (d := d0 + 2) hs hz
  have bm := C0_r (d := d0 - 1) hs hz
  have com_at : ∀ d : Int, 8 ≤ d → d ≤ 146000 → f_Zone_commonOf O f (12 + 3 * zk M k) (d * 1440 + iV M (29 + 6 * k) 2) M = some (C0 M k d, M) := fun d h0 h1 => e_commonOf h hz3 hz (by omega) (by omega)
  obtain ⟨t, ht⟩ : ∃ t, f = t + 1 + 1 + 1 := ⟨f - 3, by omega⟩
  have step : ∀ (t : Nat) (d j : Int), 8 ≤ d → d ≤ 146000 → 0 ≤ j → j < 2 → f_Series_firstDayFrom_10 O f (t + 1) (29 + 6 * k) (12 + 3 * zk M k) x d j M = if x ≤ C0 M k d then some (d, M) else f_Series_firstDayFrom_10 O f t (29 + 6 * k) (12 + 3 * zk M k) x (d + 1) (j + 1) M := fun t d j h0 h1 j0 j1 => by
    have bd := C0_r (d := d) hs hz
    show (if yw 2 ≤ yw j then _ else _) = _
    rw [le_F (by omega) (by omega) (by omega), a_Series_minute h hk, a_Zone_is h hz3, xc_of (com_at d h0 h1)]
    by_cases g : x ≤ C0 M k d
    · rw [le_T g (by omega) (by omega), if_pos g]
    · rw [le_F (by omega) (by omega) (by omega), if_neg g]
  have body : f_Series_firstDayFrom O f (29 + 6 * k) (12 + 3 * zk M k) x M = f_Series_firstDayFrom_10 O f f (29 + 6 * k) (12 + 3 * zk M k) x d0 0 M := by
    unfold f_Series_firstDayFrom
    rw [a_Series_is h hk, xc_of (e_earliestDay h hk hz3 (by omega) (by omega)), ed]
  have e2 : f_Series_firstDayFrom O f (29 + 6 * k) (12 + 3 * zk M k) x M = if x ≤ C0 M k d0 then some (d0, M) else if x ≤ C0 M k (d0 + 1) then some (d0 + 1, M) else some (d0 + 2, M) := by
    rw [body]
    have e3 : f_Series_firstDayFrom_10 O f f (29 + 6 * k) (12 + 3 * zk M k) x d0 0 M = f_Series_firstDayFrom_10 O f (t + 1 + 1 + 1) (29 + 6 * k) (12 + 3 * zk M k) x d0 0 M := by rw [← ht]
    rw [e3, step _ _ _ (by omega) (by omega) (by omega) (by omega)]
    by_cases g : x ≤ C0 M k d0
    · rw [if_pos g, if_pos g]
    · rw [if_neg g, if_neg g, step _ _ _ (by omega) (by omega) (by omega) (by omega)]
      by_cases g2 : x ≤ C0 M k (d0 + 1)
      · rw [if_pos g2, if_pos g2]
      · rw [if_neg g2, if_neg g2]
        show (if yw 2 ≤ yw (0 + 1 + 1) then _ else _) = _
        rw [le_T (by omega) (by omega) (by omega), show d0 + 1 + 1 = d0 + 2 by omega]
  rw [e2]
  by_cases g : x ≤ C0 M k d0
  · rw [if_pos g]
    exact ⟨d0, rfl, by omega, g, by omega, by omega⟩
  · rw [if_neg g]
    by_cases g2 : x ≤ C0 M k (d0 + 1)
    · rw [if_pos g2]
      exact ⟨d0 + 1, rfl, by rw [show d0 + 1 - 1 = d0 by omega]; omega, g2, by omega, by omega⟩
    · rw [if_neg g2]
      exact ⟨d0 + 2, rfl, by rw [show d0 + 2 - 1 = d0 + 1 by omega]; omega, by omega, by omega, by omega⟩
/-- a date's begin by the first so many exceptions -/
def bgi (M : xM) (k i : Nat) (d : Int) : Int := if exF (iV M (31 + 6 * k)) d i = -1 then C0 M k d else if iV M (32 + 6 * k) (exF (iV M (31 + 6 * k)) d i).toNat = -1 then -1 else com M (zk M k) (iV M (32 + 6 * k) (exF (iV M (31 + 6 * k)) d i).toNat)
theorem countBeginsG (h : Wd M) (hk : k < 12) (hs : SV M k) (hz : Zv M (zk M k)) (hr : RVg (iV M (30 + 6 * k))) (hE : ∀ i : Nat, (i : Int) < iV M (29 + 6 * k) 7 → Dg (iV M (30 + 6 * k)) (iV M (31 + 6 * k) i)) (u0 : 14400 ≤ u) (uv : u ≤ v) (v1 : v ≤ 150000000) (hf : 10000 ≤ f) : f_Series_countBegins O f (29 + 6 * k) (12 + 3 * zk M k) u v M = some (((nD (fun d => Dg (iV M (30 + 6 * k)) d ∧ u ≤ bg M k d ∧ bg M k d < v) 0 146000 : Nat) : Int), M) := by
  have hs' := hs
  obtain ⟨-, ⟨z0, z1⟩, ⟨m0, m1⟩, -, -, -, ⟨e0, e1⟩, hx, hdis⟩ := hs'
  have zl : zk M k < 3 := by unfold zk; omega
  obtain ⟨x1, ex1, p1, p2, p3, p4⟩ := firstDay2 (O := O) (f := f) h hk hs hz zl u0 (by omega) (by omega)
  obtain ⟨x2, ex2, q1, q2, q3, q4⟩ := firstDay2 (O := O) (f := f) h hk hs hz zl (by omega : 14400 ≤ v) v1 (by omega)
  -- in the window
  have win : ∀ d, (u ≤ C0 M k d ∧ C0 M k d < v) ↔ (x1 ≤ d ∧ d ≤ x2 - 1) := fun d => by
    constructor
    · rintro ⟨g1, g2⟩
      constructor
      · by_cases g : x1 ≤ d
        · exact g
        · have := C0_mono (d := d) (e := x1 - 1) hz (by omega)
          omega
      · by_cases g : d ≤ x2 - 1
        · exact g
        · have := C0_mono (d := x2) (e := d) hz (by omega)
          omega
    · rintro ⟨g1, g2⟩
      have a1 := C0_mono (d := x1) (e := d) hz g1
      have a2 := C0_mono (d := d) (e := x2 - 1) hz g2
      omega
  have x12 : x1 ≤ x2 := by
    by_cases g : x1 ≤ x2
    · exact g
    · have := C0_mono (d := x2) (e := x1 - 1) hz (by omega)
      omega
  obtain ⟨Q, eQ⟩ : ∃ Q : Nat → Int → Prop, Q = fun i d => Dg (iV M (30 + 6 * k)) d ∧ u ≤ bgi M k i d ∧ bgi M k i d < v := ⟨_, rfl⟩
  have nb : ∀ i, ((nD (Q i) 0 146000 : Nat) : Int) ≤ 146001 := fun i => by
    have := nD_le (P := Q i) (a := 0) (b := 146000) (by omega)
    omega
  have c0 : nD (Q 0) 0 146000 = nD (Dg (iV M (30 + 6 * k))) x1 (x2 - 1) := by
    have q0 : ∀ d, Q 0 d ↔ Dg (iV M (30 + 6 * k)) d ∧ x1 ≤ d ∧ d ≤ x2 - 1 := fun d => by
      rw [eQ]
      have : bgi M k 0 d = C0 M k d := if_pos rfl
      show _ ∧ u ≤ bgi M k 0 d ∧ bgi M k 0 d < v ↔ _
      rw [this, win d]
    rw [nD_add (P := Q 0) (a := 0) (b := 146000) (c := x1 - 1) (by omega) (by omega), nD_0 (P := Q 0) (a := 0) (b := x1 - 1) (fun d d0 d1 z => by have := ((q0 d).mp z).2.1; omega), show x1 - 1 + 1 = x1 by omega, nD_add (P := Q 0) (a := x1) (b := 146000) (c := x2 - 1) (by omega) (by omega), nD_0 (P := Q 0) (a := x2 - 1 + 1) (b := 146000) (fun d d0 d1 z => by have := ((q0 d).mp z).2.2; omega)]
    rw [nD_of (P := Q 0) (Q := Dg (iV M (30 + 6 * k))) (a := x1) (b := x2 - 1) (fun d d0 d1 => by rw [q0 d]; exact ⟨fun z => z.1, fun z => ⟨z, d0, d1⟩⟩)]
    omega
  have key : ∀ (r t i : Nat), (i : Int) + r = iV M (29 + 6 * k) 7 → r < t → f_Series_countBegins_34 O f t (29 + 6 * k) (12 + 3 * zk M k) u v x1 (x2 - 1) ((nD (Q i) 0 146000 : Nat) : Int) (i : Int) M = some (((nD (Q (iV M (29 + 6 * k) 7).toNat) 0 146000 : Nat) : Int), M) := by
    intro r
    induction r with
    | zero =>
      intro t i hi ht
      obtain ⟨t, rfl⟩ : ∃ n', t = n' + 1 := ⟨t - 1, by omega⟩
      show (gJ O M (29 + 6 * k) 10 7).bind _ = _
      rw [a_Series_exceptions h hk, le_T (by omega) (by omega) (by omega), show (iV M (29 + 6 * k) 7).toNat = i by omega]
    | succ r ih =>
      intro t i hi ht
      obtain ⟨t, rfl⟩ : ∃ n', t = n' + 1 := ⟨t - 1, by omega⟩
      have ii : (i : Int) < iV M (29 + 6 * k) 7 := by omega
      obtain ⟨⟨g0, g1⟩, gt⟩ := hx i ii
      have De := hE i ii
      obtain ⟨e, ee⟩ : ∃ e, e = iV M (31 + 6 * k) i := ⟨_, rfl⟩
      rw [← ee] at g0 g1 De
      -- its place
      have xe : exF (iV M (31 + 6 * k)) e i = -1 := exF_none.mpr (fun j hj => by rw [ee]; exact hdis j i hj ii)
      have xs : ∀ d, exF (iV M (31 + 6 * k)) d (i + 1) = if d = e then (if exF (iV M (31 + 6 * k)) d i = -1 then (i : Int) else exF (iV M (31 + 6 * k)) d i) else exF (iV M (31 + 6 * k)) d i := fun d => by
        show (if exF (iV M (31 + 6 * k)) d i = -1 then (if iV M (31 + 6 * k) i = d then (i : Int) else -1) else exF (iV M (31 + 6 * k)) d i) = _
        by_cases w1 : exF (iV M (31 + 6 * k)) d i = -1
        · rw [if_pos w1]
          by_cases w2 : d = e
          · rw [if_pos w2, if_pos (by rw [w2, ee]), if_pos w1]
          · rw [if_neg w2, if_neg (by rw [← ee]; exact fun z => w2 z.symm), w1]
        · rw [if_neg w1]
          by_cases w2 : d = e
          · rw [if_pos w2, if_neg w1]
          · rw [if_neg w2]
      have off : ∀ d, d ≠ e → bgi M k (i + 1) d = bgi M k i d := fun d hd => by
        unfold bgi
        rw [xs d, if_neg hd]
      have be : bgi M k i e = C0 M k e := if_pos xe
      have be1 : bgi M k (i + 1) e = if iV M (32 + 6 * k) i = -1 then -1 else com M (zk M k) (iV M (32 + 6 * k) i) := by
        unfold bgi
        rw [xs e, if_pos rfl, if_pos xe, if_neg (show ¬ ((i : Int) = -1) by omega), Int.toNat_natCast]
      have sw := nD_sw (P := Q i) (P' := Q (i + 1)) (a := 0) (b := 146000) (e := e) (fun d d0 d1 hd => by rw [eQ]; show _ ∧ u ≤ bgi M k i d ∧ bgi M k i d < v ↔ _ ∧ u ≤ bgi M k (i + 1) d ∧ bgi M k (i + 1) d < v; rw [off d hd]) (by omega) g1
      have qe : Q i e ↔ x1 ≤ e ∧ e ≤ x2 - 1 := by
        rw [eQ]
        show _ ∧ u ≤ bgi M k i e ∧ bgi M k i e < v ↔ _
        rw [be, win e]
        exact ⟨fun z => z.2, fun z => ⟨De, z⟩⟩
      have qe1 : Q (i + 1) e ↔ iV M (32 + 6 * k) i ≠ -1 ∧ u ≤ com M (zk M k) (iV M (32 + 6 * k) i) ∧ com M (zk M k) (iV M (32 + 6 * k) i) < v := by
        rw [eQ]
        show _ ∧ u ≤ bgi M k (i + 1) e ∧ bgi M k (i + 1) e < v ↔ _
        rw [be1]
        by_cases w1 : iV M (32 + 6 * k) i = -1
        · rw [if_pos w1]
          exact ⟨fun z => by omega, fun z => (z.1 w1).elim⟩
        · rw [if_neg w1]
          exact ⟨fun z => ⟨w1, z.2⟩, fun z => ⟨De, z.2⟩⟩
      have nbi := nb i
      have nbi1 := nb (i + 1)
      -- the exception's own date
      have t68 : ∀ w : Int, (Q i e → ((nD (Q i) 0 146000 : Nat) : Int) = w + 1) → (¬ Q i e → ((nD (Q i) 0 146000 : Nat) : Int) = w) → f_Series_countBegins_68 O f (f_Series_countBegins_34 O f t) (29 + 6 * k) (12 + 3 * zk M k) u v x1 (x2 - 1) w (i : Int) M = some (((nD (Q (iV M (29 + 6 * k) 7).toNat) 0 146000 : Nat) : Int), M) := by
        intro w hw1 hw2
        have nx : ∀ w2 : Int, (Q (i + 1) e → w2 = w + 1) → (¬ Q (i + 1) e → w2 = w) → f_Series_countBegins_34 O f t (29 + 6 * k) (12 + 3 * zk M k) u v x1 (x2 - 1) w2 ((i : Int) + 1) M = some (((nD (Q (iV M (29 + 6 * k) 7).toNat) 0 146000 : Nat) : Int), M) := by
          intro w2 h1 h2
          have q := ih t (i + 1) (by omega) (by omega)
          have e2 : ((nD (Q (i + 1)) 0 146000 : Nat) : Int) = w2 := by
            by_cases c1 : Q i e <;> by_cases c2 : Q (i + 1) e
            · have := sw.1 c1 c2
              have := hw1 c1
              have := h1 c2
              omega
            · have := sw.2.1 c1 c2
              have := hw1 c1
              have := h2 c2
              omega
            · have := sw.2.2.1 c1 c2
              have := hw2 c1
              have := h1 c2
              omega
            · have := sw.2.2.2 c1 c2
              have := hw2 c1
              have := h2 c2
              omega
          rw [e2, show (((i + 1 : Nat)) : Int) = (i : Int) + 1 by omega] at q
          exact q
        have r32 := iV_r M (32 + 6 * k) i
        unfold f_Series_countBegins_68
        rw [a_Series_is h hk, xc_of (e_exceptionTo h hk (by omega) (by omega)), Int.toNat_natCast]
        by_cases w1 : iV M (32 + 6 * k) i = -1
        · rw [eq_T w1]
          exact nx w (fun z => ((qe1.mp z).1 w1).elim) (fun _ => rfl)
        · have rg : 14400 ≤ iV M (32 + 6 * k) i ∧ iV M (32 + 6 * k) i ≤ 210300000 := by
            rcases gt with z | z
            · exact (w1 z).elim
            · exact z
          have cr := com_r (l := iV M (32 + 6 * k) i) hz
          rw [eq_F w1 (by omega) (by omega) (by omega) (by omega), a_Series_is h hk, xc_of (e_exceptionTo h hk (by omega) (by omega)), Int.toNat_natCast, a_Zone_is h zl, xc_of (e_commonOf h zl hz (by omega) (by omega))]
          by_cases w2 : com M (zk M k) (iV M (32 + 6 * k) i) < u
          · rw [lt_T w2 (by omega) (by omega)]
            exact nx w (fun z => by have := (qe1.mp z).2.1; omega) (fun _ => rfl)
          · rw [lt_F (by omega) (by omega) (by omega)]
            by_cases w3 : v ≤ com M (zk M k) (iV M (32 + 6 * k) i)
            · rw [le_T w3 (by omega) (by omega)]
              exact nx w (fun z => by have := (qe1.mp z).2.2; omega) (fun _ => rfl)
            · rw [le_F (by omega) (by omega) (by omega)]
              exact nx (w + 1) (fun _ => rfl) (fun z => (z (qe1.mpr ⟨w1, by omega, by omega⟩)).elim)
      show (gJ O M (29 + 6 * k) 10 7).bind _ = _
      rw [a_Series_exceptions h hk, le_F (by omega) (by omega) (by omega), a_Series_is h hk, xc_of (e_exceptionDay h hk (by omega) (by omega)), Int.toNat_natCast, ← ee]
      by_cases w1 : e < x1
      · rw [lt_T w1 (by omega) (by omega)]
        exact t68 _ (fun z => by have := (qe.mp z).1; omega) (fun _ => rfl)
      · rw [lt_F (by omega) (by omega) (by omega), a_Series_is h hk, xc_of (e_exceptionDay h hk (by omega) (by omega)), Int.toNat_natCast, ← ee]
        by_cases w2 : x2 - 1 < e
        · rw [lt_T w2 (by omega) (by omega)]
          exact t68 _ (fun z => by have := (qe.mp z).2; omega) (fun _ => rfl)
        · rw [lt_F (by omega) (by omega) (by omega)]
          exact t68 _ (fun _ => by omega) (fun z => (z (qe.mpr ⟨by omega, by omega⟩)).elim)
  have kk := key (iV M (29 + 6 * k) 7).toNat f 0 (by omega) (by omega)
  rw [c0] at kk
  have eb : Q (iV M (29 + 6 * k) 7).toNat = fun d => Dg (iV M (30 + 6 * k)) d ∧ u ≤ bg M k d ∧ bg M k d < v := by
    rw [eQ]
    rfl
  unfold f_Series_countBegins
  rw [a_Series_is h hk, ex1, xcl_e, a_Series_is h hk, ex2, xcl_e, a_Series_rule h hk, a_Rule_is h hk, countG_ok h hk hr (by omega) (by omega) (by omega) (by omega) hf, xcl_e]
  rw [eb] at kk
  exact kk
end CDG
end
/-! draft 667.datecalls -/
section
/-! ===== countDates, nextDate ===== -/
section CDC
variable {O : Nat → Option va_E} {f k : Nat} {M N : xM} {P P' D : Int → Prop} {a b c d e x y u v : Int}
/-- the exceptions are of the rule's days -/
def EXd (M : xM) (k : Nat) : Prop := ∀ i : Nat, (i : Int) < iV M (29 + 6 * k) 7 → Dg (iV M (30 + 6 * k)) (iV M (31 + 6 * k) i)
theorem countDates_ok {kk : Int} (h : Wd M) (hkk : kk = (k : Int)) (hk : k < 12) (hs : SV M k) (hz : Zv M (zk M k)) (hr : RVg (iV M (30 + 6 * k))) (hE : EXd M k) (u0 : 14400 ≤ u) (uv : u < v) (v1 : v ≤ 150000000) (vu : v - u ≤ 525600) (hf : 10000 ≤ f) : f_Calendarhall_countDates O f 1 kk u v M = some (((nD (fun d => Dg (iV M (30 + 6 * k)) d ∧ u ≤ bg M k d ∧ bg M k d < v) 0 146000 : Nat) : Int), M) := by
  subst hkk
  have hs' := hs
  obtain ⟨ht, ⟨z0, z1⟩, -⟩ := hs'
  have np : f_Calendarhall_needPiece O f u v 525600 M = some ((), M) := by
    unfold f_Calendarhall_needPiece
    rw [xc_of (e_needMinute (by omega) (by omega)), xc_of (e_needMinute (by omega) (by omega)), le_F (by omega) (by omega) (by omega), le_T (by omega) (by omega) (by omega)]
  unfold f_Calendarhall_countDates
  rw [a_Cal_is h, xc_of (s_num h hk ht), np, xcl_e, a_Cal_hall h, a_Hall_is h, xc_of (e_zoneOf h hk z0 z1), a_Series_is h hk, countBeginsG h hk hs hz hr hE u0 (by omega) v1 hf, xcl_e]
theorem nextDate_ok {kk : Int} (h : Wd M) (hkk : kk = (k : Int)) (hk : k < 12) (hs : SV M k) (hz : Zv M (zk M k)) (hr : RVg (iV M (30 + 6 * k))) (hE : EXd M k) (c0 : 14400 ≤ c) (c1 : c ≤ 150000000) (hf : 10000 ≤ f) : ∃ x, f_Calendarhall_nextDate O f 1 kk c M = some (x, M) ∧ ((x = -1 ∧ ∀ d, Dg (iV M (30 + 6 * k)) d → bg M k d ≠ -1 → bg M k d < c) ∨ (Dg (iV M (30 + 6 * k)) x ∧ bg M k x ≠ -1 ∧ c ≤ bg M k x ∧ ∀ e, Dg (iV M (30 + 6 * k)) e → bg M k e ≠ -1 → c ≤ bg M k e → rw' (bg M k x) 0 x ≤ rw' (bg M k e) 0 e)) := by
  subst hkk
  have hs' := hs
  obtain ⟨ht, ⟨z0, z1⟩, ⟨m0, m1⟩, -, -, -, ⟨e0, e1⟩, hx, -⟩ := hs'
  have nx := nxG (O := O) (f := f) hk hr hf
  obtain ⟨y, ey, oy⟩ := firstRow_ok (O := O) (f := f) (c := c) h hk hs hz nx hE (by omega) c1 (by omega)
  -- a begin is no large number
  have br : ∀ d, Dg (iV M (30 + 6 * k)) d → bg M k d ≤ 300000000 := fun d hd => by
    have hd' := nx.1 d hd
    unfold bg
    split
    · have := C0_r (d := d) hs hz
      show C0 M k d ≤ _
      have hz' := hz
      obtain ⟨o0, o1, s0, s1, -, -⟩ := hz'
      omega
    · next g =>
      split
      · omega
      · next g2 =>
        have q := exO_r e0 g
        have := (hx (exO M k d).toNat (by omega)).2
        have c := com_r (l := iV M (32 + 6 * k) (exO M k d).toNat) hz
        omega
  unfold f_Calendarhall_nextDate
  rw [a_Cal_is h, xc_of (s_num h hk ht), xc_of (e_needMinute c0 (by omega)), a_Cal_hall h, a_Hall_is h, xc_of (e_zoneOf h hk z0 z1), a_Series_is h hk, ey, xcl_e]
  rcases oy with ⟨q1, q2⟩ | ⟨d, q1, q2, q3, q4, q5⟩
  · have k11 : kcmp y (-1) = 0 := by rw [q1]; decide
    rw [eq_T k11]
    exact ⟨-1, rfl, Or.inl ⟨rfl, q2⟩⟩
  · have hd := nx.1 d q1
    have b := br d q1
    have rr := rw_r (m := bg M k d) (n := 0) (d := d) (by omega) (by omega) (by omega) (by omega) (by omega) (by omega)
    have k1 : kcmp y (-1) = 1 := kcmp_T (by omega) (by omega) (by omega)
    rw [k1, eq_F (by omega) (by omega) (by omega) (by omega) (by omega), xc_of (e_dayIn (by omega) (by omega)), q4, rD_e (by omega) (by omega) (by omega) (by omega)]
    exact ⟨d, rfl, Or.inr ⟨q1, q2, q3, fun e h1 h2 h3 => by rw [← q4]; exact q5 e h1 h2 h3⟩⟩
end CDC
end
/-! draft 668.undo -/
section
/-! ===== saved halls, and undo ===== -/
section UND
variable {O : Nat → Option va_E} {f n b c e : Nat} {M N L : xM} {F : Nat → xM}
theorem CpH.un {P : Nat → Prop} (h : CpH b c M N) (u : Un P N L) (hp : ∀ a, b ≤ a → a < b + 113 → P a) : CpH b c M L := by
  obtain ⟨g1, g2, g3, g4, g5, g6⟩ := h
  refine ⟨fun k hk i j hF => ?_, fun k hk i j hF => ?_, fun k hk i j hF => ?_, fun k hk i j hF => ?_, fun i j hF => ?_, fun i j hF => ?_⟩
  · rw [← g1 k hk i j hF]
    unfold zoF at hF
    exact u.i (hp _ (by omega) (by omega))
  · rw [← g2 k hk i j hF]
    unfold peF at hF
    exact u.i (hp _ (by omega) (by omega))
  · rw [← g3 k hk i j hF]
    unfold seF at hF
    exact u.i (hp _ (by omega) (by omega))
  · rw [← g4 k hk i j hF]
    unfold deF at hF
    exact u.i (hp _ (by omega) (by omega))
  · rw [← g5 i j hF]
    unfold haF at hF
    exact u.i (hp _ (by omega) (by omega))
  · rw [← g6 i j hF]
    unfold haL at hF
    exact u.l (hp _ (by omega) (by omega))
theorem CpH.kp {P : Nat → Prop} (h : CpH b c M N) (u : Kp P N L) (hb : b + 113 ≤ N.1) (hp : ∀ a, b ≤ a → a < b + 113 → P a) : CpH b c M L := by
  obtain ⟨g1, g2, g3, g4, g5, g6⟩ := h
  refine ⟨fun k hk i j hF => ?_, fun k hk i j hF => ?_, fun k hk i j hF => ?_, fun k hk i j hF => ?_, fun i j hF => ?_, fun i j hF => ?_⟩
  · rw [← g1 k hk i j hF]
    unfold zoF at hF
    exact u.i (by omega) (hp _ (by omega) (by omega))
  · rw [← g2 k hk i j hF]
    unfold peF at hF
    exact u.i (by omega) (hp _ (by omega) (by omega))
  · rw [← g3 k hk i j hF]
    unfold seF at hF
    exact u.i (by omega) (hp _ (by omega) (by omega))
  · rw [← g4 k hk i j hF]
    unfold deF at hF
    exact u.i (by omega) (hp _ (by omega) (by omega))
  · rw [← g5 i j hF]
    unfold haF at hF
    exact u.i (by omega) (hp _ (by omega) (by omega))
  · rw [← g6 i j hF]
    unfold haL at hF
    exact u.l (by omega) (hp _ (by omega) (by omega))
theorem CpH.tr (h : CpH b c M N) (g : CpH e b N L) : CpH e c M L := by
  obtain ⟨g1, g2, g3, g4, g5, g6⟩ := h
  obtain ⟨k1, k2, k3, k4, k5, k6⟩ := g
  exact ⟨fun k hk i j hF => (k1 k hk i j hF).trans (g1 k hk i j hF), fun k hk i j hF => (k2 k hk i j hF).trans (g2 k hk i j hF), fun k hk i j hF => (k3 k hk i j hF).trans (g3 k hk i j hF), fun k hk i j hF => (k4 k hk i j hF).trans (g4 k hk i j hF), fun i j hF => (k5 i j hF).trans (g5 i j hF), fun i j hF => (k6 i j hF).trans (g6 i j hF)⟩
theorem CpH.bo (h : CpH b c M N) (hB : BoB c M) : BoB b N := fun k hk => by
  have e0 := h.2.2.1 k hk 0 0 (by unfold seF; omega)
  have e5 := h.2.2.1 k hk 0 5 (by unfold seF; omega)
  have q := hB k hk
  rw [Nat.add_zero, Nat.add_zero] at e0 e5
  rw [e0, e5]
  exact q
/-- the halls that undo brings back -/
def UD (M : xM) (n : Nat) (F : Nat → xM) : Prop := Sv M ∧ (n : Int) ≤ iV M 1 3 ∧ ∀ j : Nat, j < n → CpH (sB ((iV M 1 2 - 1 - j) % 8)) 2 (F j) M ∧ BoB 2 (F j)
theorem UD.un {P : Nat → Prop} (h : UD M n F) (u : Un P M N) (h1 : P 1) (h2 : ∀ a, 140 ≤ a → a < 1044 → P a) : UD N n F := by
  obtain ⟨s, c, g⟩ := h
  unfold UD Sv
  rw [u.i h1, u.i h1]
  refine ⟨s, c, fun j hj => ⟨(g j hj).1.un u (fun a a0 a1 => h2 a ?_ ?_), (g j hj).2⟩⟩
  · unfold sB at a0
    omega
  · unfold sB at a1
    omega
theorem UD.kp {P : Nat → Prop} (h : UD M n F) (u : Kp P M N) (hM : 1044 ≤ M.1) (h1 : P 1) (h2 : ∀ a, 140 ≤ a → a < 1044 → P a) : UD N n F := by
  obtain ⟨s, c, g⟩ := h
  unfold UD Sv
  rw [u.i (by omega) h1, u.i (by omega) h1]
  refine ⟨s, c, fun j hj => ⟨(g j hj).1.kp u ?_ (fun a a0 a1 => h2 a ?_ ?_), (g j hj).2⟩⟩
  · unfold sB
    omega
  · unfold sB at a0
    omega
  · unfold sB at a1
    omega
theorem UD.nil (h : Sv M) : UD M 0 F := ⟨h, h.2.2.1, fun j hj => absurd hj (Nat.not_lt_zero _)⟩
/-- one more -/
def psh (M : xM) (F : Nat → xM) (j : Nat) : xM := if j = 0 then M else F (j - 1)
theorem save_ud (h : Wd M) (hs : UD M n F) (hB : BoB 2 M) (hn : n ≤ 7) (hf : 20 ≤ f) : ∃ N, f_Calendarhall_saveForUndo O f 1 M = some ((), N) ∧ Un (fun a => a ≠ 1 ∧ (a < 140 ∨ 1044 ≤ a)) M N ∧ Bs N ∧ UD N (n + 1) (psh M F) := by
  obtain ⟨s, cn, g⟩ := hs
  obtain ⟨N, eN, uN, cN, e2, e3⟩ := sv_sp (O := O) (f := f) h s hB hf
  have hd : sB (iV M 1 2) = 140 + 113 * (iV M 1 2).toNat := rfl
  have s' := s
  obtain ⟨t0, t1, c0, c1⟩ := s'
  have u' : Un (fun a => a ≠ 1 ∧ (a < 140 ∨ 1044 ≤ a)) M N := uN.le (fun a q => by (try dsimp only at q ⊢); omega)
  have bN : BoB 2 N := fun k hk => by
    rw [u'.i (by (try dsimp only); omega), u'.i (by (try dsimp only); omega)]
    exact hB k hk
  have e2' : iV N 1 2 = (iV M 1 2 + 1) % 8 := by
    rw [e2]
    split <;> omega
  refine ⟨N, eN, u', ⟨uN.wd h, Sv.of s e2 e3, bN⟩, Sv.of s e2 e3, by rw [e3]; split <;> omega, fun j hj => ?_⟩
  by_cases z : j = 0
  · rw [show psh M F j = M from if_pos z, e2', show ((iV M 1 2 + 1) % 8 - 1 - (j : Int)) % 8 = iV M 1 2 by omega]
    exact ⟨cN, hB⟩
  · rw [show psh M F j = F (j - 1) from if_neg z, e2', show ((iV M 1 2 + 1) % 8 - 1 - (j : Int)) % 8 = (iV M 1 2 - 1 - ((j - 1 : Nat) : Int)) % 8 by omega]
    obtain ⟨q1, q2⟩ := g (j - 1) (by omega)
    refine ⟨q1.un uN (fun a a0 a1 => ?_), q2⟩
    rw [hd]
    unfold sB at a0 a1
    omega
theorem undo_ok (h : Bs M) (hs : UD M (n + 1) F) (hf : 20 ≤ f) : ∃ M' y, f_Calendarhall_undo O f 1 M = some (y, M') ∧ (0 ≤ y ∧ y ≤ 8) ∧ Un (fun a => a ≠ 1 ∧ (a < 2 ∨ 115 ≤ a)) M M' ∧ CpH 2 2 (F 0) M' ∧ Bs M' ∧ UD M' n (fun j => F (j + 1)) := by
  have w := h.1
  obtain ⟨s, cn, g⟩ := hs
  obtain ⟨t0, t1, c0, c1⟩ := s
  obtain ⟨t, et⟩ : ∃ t, t = (iV M 1 2 - 1) % 8 := ⟨_, rfl⟩
  obtain ⟨M1, e1⟩ : ∃ M1, M1 = iS M 1 3 (iV M 1 3 - 1) := ⟨_, rfl⟩
  have w1 : Wd M1 := by rw [e1]; exact w
  obtain ⟨M2, e2⟩ : ∃ M2, M2 = iS M1 1 2 t := ⟨_, rfl⟩
  have w2 : Wd M2 := by rw [e2]; exact w1
  have u2 : Un (fun a => a ≠ 1) M M2 := by
    rw [e2, e1]
    exact (Un.rf.iS (fun q => q rfl)).iS (fun q => q rfl)
  have v3 : iV M2 1 3 = iV M 1 3 - 1 := by rw [e2, iV_o (by omega), e1, iV_s (by omega) (by omega)]
  have v2 : iV M2 1 2 = t := by rw [e2, iV_s (by omega) (by omega)]
  have n1 : iV M1 1 2 = iV M 1 2 := by rw [e1, iV_o (by omega)]
  have q0 := g 0 (by omega)
  rw [show (iV M 1 2 - 1 - ((0 : Nat) : Int)) % 8 = t by omega] at q0
  have hc := Hb.sB (t := t) (by omega) (by omega)
  have hd : sB t = 140 + 113 * t.toNat := rfl
  have cp2 : CpH (sB t) 2 (F 0) M2 := q0.1.un u2 (fun a a0 a1 => by (try dsimp only); omega)
  obtain ⟨M3, e3, u3, cp3⟩ := ha_copy (O := O) (f := f) Hb.two hc (by omega) w2 (cp2.bo q0.2) hf
  have w3 := u3.wd w2
  have cp := cp2.tr cp3
  have u' : Un (fun a => a ≠ 1 ∧ (a < 2 ∨ 115 ≤ a)) M M3 := (u2.le (fun a q => q.1)).tr (u3.le (fun a q => by (try dsimp only at q ⊢); omega))
  have n3 : iV M3 1 3 = iV M 1 3 - 1 := by rw [u3.i (by (try dsimp only); omega), v3]
  have n2 : iV M3 1 2 = t := by rw [u3.i (by (try dsimp only); omega), v2]
  have sv3 : Sv M3 := by
    unfold Sv
    rw [n2, n3]
    omega
  have t46 : f_Calendarhall_undo_46 O f 1 1 t M1 = some (iV M 1 3 - 1, M3) := by
    unfold f_Calendarhall_undo_46
    rw [p_Cal_savedNext w1, ← e2, a_Cal_savedNext w2, a_Cal_saved w2, n_Cal_saved w2, v2, le_F (by omega) (by omega) (by omega), a_Cal_saved w2, a_Cal_savedNext w2, v2, r_Cal_saved w2 (by omega) (by omega)]
    unfold f_Calendarhall_undo_74
    rw [elim_s, a_Cal_hall w2, a_Hall_is w2, ← hd, e3, xcl_e]
    unfold f_Calendarhall_undo_87
    rw [a_Cal_savedCount w3, n3]
  refine ⟨M3, iV M 1 3 - 1, ?_, by omega, u', cp, ⟨w3, sv3, cp.bo q0.2⟩, sv3, by rw [n3]; omega, fun j hj => ?_⟩
  · unfold f_Calendarhall_undo
    rw [a_Cal_savedCount w, le_T (by omega) (by omega) (by omega), a_Cal_savedCount w, p_Cal_savedCount w, ← e1, a_Cal_savedNext w1, n1]
    by_cases z : 1 ≤ iV M 1 2
    · rw [le_T z (by omega) (by omega), a_Cal_savedNext w1, n1, show iV M 1 2 - 1 = t by omega]
      exact t46
    · rw [le_F (by omega) (by omega) (by omega)]
      rw [show (7 : Int) = t by omega]
      exact t46
  · obtain ⟨q1, q2⟩ := g (j + 1) (by omega)
    rw [n2, show (t - 1 - (j : Int)) % 8 = (iV M 1 2 - 1 - ((j + 1 : Nat) : Int)) % 8 by omega]
    refine ⟨q1.un u' (fun a a0 a1 => ?_), q2⟩
    unfold sB at a0
    (try dsimp only)
    omega
end UND
end
/-! draft 669.except -/
section
/-! ===== an exception more, saved before ===== -/
section EXC
variable {O : Nat → Option va_E} {f k n : Nat} {M N : xM} {F : Nat → xM} {d x t : Int}
/-- the series stays, but for one date -/
def EXo (M M' : xM) (k : Nat) (d b : Int) : Prop := SV M' k ∧ EXd M' k ∧ (∀ j, iV M' (30 + 6 * k) j = iV M (30 + 6 * k) j) ∧ (∀ j, j ≠ 7 → iV M' (29 + 6 * k) j = iV M (29 + 6 * k) j) ∧ iV M' (29 + 6 * k) 7 ≤ iV M (29 + 6 * k) 7 + 1 ∧ bg M' k d = b ∧ (∀ e, e ≠ d → bg M' k e = bg M k e) ∧ Un (fun a => a = 0 ∨ 1044 ≤ a ∨ (1 < a ∧ a < 140 ∧ a ≠ 29 + 6 * k ∧ a ≠ 31 + 6 * k ∧ a ≠ 32 + 6 * k)) M M'
theorem exc_core (h : Bs M) (hu : UD M n F) (hn : n ≤ 7) (hk : k < 12) (hs : SV M k) (hE : EXd M k) (h9 : iV M (29 + 6 * k) 7 ≤ 9) (hd : Dg (iV M (30 + 6 * k)) d) (d0 : 10 ≤ d) (d1 : d ≤ 146000) (ht : t = -1 ∨ (14400 ≤ t ∧ t ≤ 210300000)) (hf : 20 ≤ f) : ∃ N M', f_Calendarhall_saveForUndo O f 1 M = some ((), N) ∧ Wd N ∧ f_Series_except O f (29 + 6 * k) d t N = some ((), M') ∧ Bs M' ∧ UD M' (n + 1) (psh M F) ∧ EXo M M' k d (if t = -1 then -1 else com M (zk M k) t) := by
  have hs' := hs
  obtain ⟨s1, ⟨z0, z1⟩, s3, s4, s5, s6, ⟨e0, e1⟩, hx, hdis⟩ := hs'
  obtain ⟨N, eN, uN, bN, dN⟩ := save_ud (O := O) (f := f) h.1 hu h.2.2 hn hf
  have wN := bN.1
  have nv : ∀ a j, 1 < a → a < 140 → iV N a j = iV M a j := fun a j h1 h2 => uN.i (by (try dsimp only); omega)
  have exN : exO N k d = exO M k d := exO_of (fun b j h1 h2 => nv b j (by omega) (by omega))
  obtain ⟨p, ep⟩ : ∃ p, p = exP M k d := ⟨_, rfl⟩
  have epN : exP N k d = p := by
    rw [ep]
    unfold exP
    rw [exN, nv _ _ (by omega) (by omega)]
  have pc : (p = iV M (29 + 6 * k) 7 ∧ exO M k d = -1) ∨ (0 ≤ p ∧ p < iV M (29 + 6 * k) 7 ∧ exO M k d = p ∧ p ≠ -1 ∧ iV M (31 + 6 * k) p.toNat = d) := by
    rw [ep]
    unfold exP
    by_cases g : exO M k d = -1
    · rw [if_pos g]
      exact Or.inl ⟨rfl, g⟩
    · have q := exO_r e0 g
      rw [if_neg g]
      exact Or.inr ⟨q.1, q.2.1, rfl, g, q.2.2⟩
  obtain ⟨M', e', u', v1, v2, v3, v4⟩ := except_ok (O := O) (f := f) (t := t) wN hk (by rw [nv _ _ (by omega) (by omega)]; exact e0) (by rw [nv _ _ (by omega) (by omega)]; exact e1) (by rw [epN]; omega) (by omega) (by omega) (by omega) (by omega) hf
  have w' := u'.wd wN
  have b0 := bN.2.2 k hk
  rw [show 2 + (27 + 6 * k) = 29 + 6 * k by omega] at b0
  have uu : Un (fun a => a = 0 ∨ 1044 ≤ a ∨ (1 < a ∧ a < 140 ∧ a ≠ 29 + 6 * k ∧ a ≠ 31 + 6 * k ∧ a ≠ 32 + 6 * k)) M M' := (uN.le (fun a q => by (try dsimp only at q ⊢); omega)).tr (u'.le (fun a q => by (try dsimp only at q ⊢); omega))
  have w1 : ∀ j, j ≠ 7 → iV M' (29 + 6 * k) j = iV M (29 + 6 * k) j := fun j hj => by rw [v1 j hj, nv _ _ (by omega) (by omega)]
  have w2 : iV M' (29 + 6 * k) 7 = (if exO M k d = -1 then iV M (29 + 6 * k) 7 + 1 else iV M (29 + 6 * k) 7) := by rw [v2, exN, nv _ _ (by omega) (by omega)]
  have w3 : ∀ j, iV M' (31 + 6 * k) j = if j = p.toNat then d else iV M (31 + 6 * k) j := fun j => by rw [v3, epN, nv _ _ (by omega) (by omega)]
  have w4 : ∀ j, iV M' (32 + 6 * k) j = if j = p.toNat then t else iV M (32 + 6 * k) j := fun j => by rw [v4, epN, nv _ _ (by omega) (by omega)]
  have w5 : ∀ j, iV M' (30 + 6 * k) j = iV M (30 + 6 * k) j := fun j => uu.i (by (try dsimp only); omega)
  have em : iV M' (30 + 6 * k) = iV M (30 + 6 * k) := funext w5
  have c2 : (iV M' (29 + 6 * k) 7 = iV M (29 + 6 * k) 7 + 1 ∧ p = iV M (29 + 6 * k) 7 ∧ exO M k d = -1) ∨ (iV M' (29 + 6 * k) 7 = iV M (29 + 6 * k) 7 ∧ 0 ≤ p ∧ p < iV M (29 + 6 * k) 7 ∧ exO M k d = p ∧ iV M (31 + 6 * k) p.toNat = d) := by
    rcases pc with ⟨p1, p2⟩ | ⟨p1, p2, p3, p4, p5⟩
    · rw [if_pos p2] at w2
      exact Or.inl ⟨w2, p1, p2⟩
    · rw [if_neg (by omega)] at w2
      exact Or.inr ⟨w2, p1, p2, p3, p5⟩
  -- another place holds another day
  have ndd : ∀ i : Nat, (i : Int) < iV M' (29 + 6 * k) 7 → i ≠ p.toNat → (i : Int) < iV M (29 + 6 * k) 7 ∧ iV M (31 + 6 * k) i ≠ d := fun i hi hp => by
    rcases c2 with ⟨q1, q2, q3⟩ | ⟨q1, q2, q3, q4, q5⟩
    · refine ⟨by omega, fun z => ?_⟩
      exact exF_none.mp q3 i (by omega) z
    · refine ⟨by omega, fun z => ?_⟩
      rcases Nat.lt_or_gt_of_ne hp with g | g
      · exact hdis i p.toNat g (by omega) (by rw [z, q5])
      · exact hdis p.toNat i g (by omega) (by rw [z, q5])
  have sv' : SV M' k := by
    unfold SV
    rw [w1 0 (by decide), w1 1 (by decide), w1 2 (by decide), w1 3 (by decide), w1 4 (by decide), w1 5 (by decide)]
    refine ⟨s1, ⟨z0, z1⟩, s3, s4, s5, s6, by omega, fun i hi => ?_, fun i j hij hj => ?_⟩
    · rw [w3, w4]
      by_cases g : i = p.toNat
      · rw [if_pos g, if_pos g]
        exact ⟨⟨d0, d1⟩, ht⟩
      · rw [if_neg g, if_neg g]
        exact hx i (ndd i hi g).1
    · rw [w3, w3]
      by_cases g : i = p.toNat
      · rw [if_pos g, if_neg (by omega)]
        exact fun z => (ndd j hj (by omega)).2 z.symm
      · rw [if_neg g]
        by_cases g2 : j = p.toNat
        · rw [if_pos g2]
          exact (ndd i (by omega) g).2
        · rw [if_neg g2]
          exact hdis i j hij (ndd j hj g2).1
  have zk' : zk M' k = zk M k := by
    unfold zk
    rw [w1 1 (by decide)]
  have cm : ∀ l, com M' (zk M k) l = com M (zk M k) l := fun l => com_of (fun b j h1 h2 => uu.i (by
    have : zk M k < 3 := by unfold zk; omega
    (try dsimp only)
    omega))
  have C0' : ∀ e, C0 M' k e = C0 M k e := fun e => by
    unfold C0
    rw [zk', w1 2 (by decide), cm]
  have pl : (p.toNat : Int) < iV M' (29 + 6 * k) 7 := by omega
  have xd : exO M' k d = p := by
    have q := exDay (k := k) (i := p.toNat) sv' pl
    rw [w3, if_pos rfl] at q
    omega
  have xo : ∀ e, e ≠ d → exO M' k e = exO M k e ∧ (exO M k e ≠ -1 → (exO M k e).toNat ≠ p.toNat) := fun e he => by
    by_cases g : exO M k e = -1
    · refine ⟨?_, fun z => (z g).elim⟩
      rw [g]
      refine exF_none.mpr (fun i hi => ?_)
      rw [w3]
      by_cases g2 : i = p.toNat
      · rw [if_pos g2]
        exact fun z => he z.symm
      · rw [if_neg g2]
        exact exF_none.mp g i (by have := (ndd i (by omega) g2).1; omega)
    · obtain ⟨q1, q2, q3⟩ := exO_r e0 g
      have ne : (exO M k e).toNat ≠ p.toNat := fun z => by
        rcases c2 with ⟨y1, y2, y3⟩ | ⟨y1, y2, y3, y4, y5⟩
        · omega
        · rw [z, y5] at q3
          exact he q3.symm
      refine ⟨?_, fun _ => ne⟩
      have q := exDay (k := k) (i := (exO M k e).toNat) sv' (by omega)
      rw [w3, if_neg ne, q3] at q
      omega
  refine ⟨N, M', eN, wN, e', ⟨w', bN.2.1.un u' (by (try dsimp only); omega), bN.2.2.us (u'.le (fun a q => by (try dsimp only at q ⊢); omega)) hk (by rw [v1 0 (by omega)]; exact b0.1) (by rw [v1 5 (by omega)]; exact b0.2)⟩, dN.un u' (by (try dsimp only); omega) (fun a a0 a1 => by (try dsimp only); omega), sv', fun i hi => ?_, w5, w1, by omega, ?_, fun e he => ?_, uu⟩
  · rw [em, w3]
    by_cases g : i = p.toNat
    · rw [if_pos g]
      exact hd
    · rw [if_neg g]
      exact hE i (ndd i hi g).1
  · unfold bg
    rw [xd, if_neg (by omega), w4, if_pos rfl, zk', cm]
  · obtain ⟨q1, q2⟩ := xo e he
    unfold bg
    rw [q1]
    by_cases g : exO M k e = -1
    · rw [if_pos g, if_pos g]
      exact C0' e
    · rw [if_neg g, if_neg g, w4, if_neg (q2 g), zk', cm]
end EXC
end
/-! draft 670.moves -/
section
/-! ===== moved or left out, saved before ===== -/
section MV2
variable {O : Nat → Option va_E} {f k n : Nat} {M N : xM} {F : Nat → xM} {d x t : Int}
theorem place_ok (hw : Wd M) (hk : k < 12) (h0 : 0 ≤ iV M (29 + 6 * k) 7) (h9 : iV M (29 + 6 * k) 7 ≤ 9) : f_Series_hasPlaceFor O f (29 + 6 * k) d M = some (1, M) := by
  unfold f_Series_hasPlaceFor
  rw [a_Series_exceptions hw hk, lt_T (by omega) (by omega) (by omega)]
theorem move2_ok {kk td tm : Int} (h : Bs M) (hu : UD M n F) (hn : n ≤ 7) (hkk : kk = (k : Int)) (hk : k < 12) (hs : SV M k) (hz : Zv M (zk M k)) (hr : RVg (iV M (30 + 6 * k))) (hE : EXd M k) (h9 : iV M (29 + 6 * k) 7 ≤ 9) (hd : Dg (iV M (30 + 6 * k)) d) (t0 : 10 ≤ td) (t1 : td ≤ 146000) (m0 : 0 ≤ tm) (m1 : tm ≤ 1439) (hf : 10000 ≤ f) : ∃ M', f_Calendarhall_move O f 1 kk d td tm M = some (com M (zk M k) (td * 1440 + tm), M') ∧ Bs M' ∧ UD M' (n + 1) (psh M F) ∧ EXo M M' k d (com M (zk M k) (td * 1440 + tm)) := by
  subst hkk
  have hw := h.1
  have nx := nxG (O := O) (f := f) hk hr hf
  have hd' := nx.1 d hd
  obtain ⟨z0, z1⟩ := hs.2.1
  have zl : zk M k < 3 := by unfold zk; omega
  obtain ⟨b, eb, hb⟩ := isDayG_ok (O := O) (f := f) hw hk hr (d := d) (by omega) (by omega) (by omega)
  have hb1 : b = 1 := by
    rcases hb with ⟨-, q⟩ | ⟨q, -⟩
    · exact absurd hd q
    · exact q
  obtain ⟨N, M', eN, wN, e', b', ud', ex'⟩ := exc_core (O := O) (f := f) (t := td * 1440 + tm) h hu hn hk hs hE h9 hd hd'.1 hd'.2 (Or.inr ⟨by omega, by omega⟩) (by omega)
  rw [if_neg (show ¬ (td * 1440 + tm = -1) by omega)] at ex'
  have w' := b'.1
  have ex2 := ex'
  obtain ⟨sv', -, -, i29, -, -, -, uu⟩ := ex2
  have zkM : zk M' k = zk M k := by
    unfold zk
    rw [i29 1 (by decide)]
  have zz := e_zoneOf (O := O) (f := f) w' hk (by rw [i29 1 (by decide)]; exact z0) (by rw [i29 1 (by decide)]; exact z1)
  rw [zkM] at zz
  have zvM : Zv M' (zk M k) := hz.of (fun b j h1 h2 => uu.i (by (try dsimp only); omega))
  have cM : com M' (zk M k) (td * 1440 + tm) = com M (zk M k) (td * 1440 + tm) := com_of (fun b j h1 h2 => uu.i (by (try dsimp only); omega))
  have ec := e_commonOf (O := O) (f := f) (l := td * 1440 + tm) w' zl zvM (by omega) (by omega)
  rw [cM] at ec
  refine ⟨M', ?_, b', ud', ex'⟩
  unfold f_Calendarhall_move
  rw [a_Cal_is hw, xc_of (s_num hw hk hs.1), c_needDay t0 t1, c_needRange m0 m1 (by omega) (by omega), a_Series_rule hw hk, a_Rule_is hw hk, eb, xcl_e, hb1, eq_F (by omega) (by omega) (by omega) (by omega) (by omega), a_Series_is hw hk, place_ok hw hk hs.2.2.2.2.2.2.1.1 h9, xcl_e, eq_F (by omega) (by omega) (by omega) (by omega) (by omega), a_Cal_is hw, eN, xcl_e, a_Series_is wN hk, e', xcl_e, a_Cal_hall w', a_Hall_is w', zz, xcl_e, a_Zone_is w' zl, ec, xcl_e]
theorem leave2_ok {kk : Int} (h : Bs M) (hu : UD M n F) (hn : n ≤ 7) (hkk : kk = (k : Int)) (hk : k < 12) (hs : SV M k) (hr : RVg (iV M (30 + 6 * k))) (hE : EXd M k) (h9 : iV M (29 + 6 * k) 7 ≤ 9) (hd : Dg (iV M (30 + 6 * k)) d) (hf : 10000 ≤ f) : ∃ M' y, f_Calendarhall_leaveOut O f 1 kk d M = some (y, M') ∧ Bs M' ∧ UD M' (n + 1) (psh M F) ∧ EXo M M' k d (-1) := by
  subst hkk
  have hw := h.1
  have nx := nxG (O := O) (f := f) hk hr hf
  have hd' := nx.1 d hd
  obtain ⟨b, eb, hb⟩ := isDayG_ok (O := O) (f := f) hw hk hr (d := d) (by omega) (by omega) (by omega)
  have hb1 : b = 1 := by
    rcases hb with ⟨-, q⟩ | ⟨q, -⟩
    · exact absurd hd q
    · exact q
  obtain ⟨N, M', eN, wN, e', b', ud', ex'⟩ := exc_core (O := O) (f := f) (t := -1) h hu hn hk hs hE h9 hd hd'.1 hd'.2 (Or.inl rfl) (by omega)
  rw [if_pos rfl] at ex'
  have w' := b'.1
  refine ⟨M', iV M' (29 + 6 * k) 7, ?_, b', ud', ex'⟩
  unfold f_Calendarhall_leaveOut
  rw [a_Cal_is hw, xc_of (s_num hw hk hs.1), a_Series_rule hw hk, a_Rule_is hw hk, eb, xcl_e, hb1, eq_F (by omega) (by omega) (by omega) (by omega) (by omega), a_Series_is hw hk, place_ok hw hk hs.2.2.2.2.2.2.1.1 h9, xcl_e, eq_F (by omega) (by omega) (by omega) (by omega) (by omega), a_Cal_is hw, eN, xcl_e, a_Series_is wN hk, e', xcl_e, a_Series_exceptions w' hk]
end MV2
end
/-! draft 671.halleq -/
section
/-! ===== a hall brought back is as it was ===== -/
def zEq (M N : xM) (z : Nat) : Prop := ∀ i j, zoF i j → iV N (12 + 3 * z + i) j = iV M (12 + 3 * z + i) j
def kEq (M N : xM) (k : Nat) : Prop := ∀ i j, seF i j → iV N (29 + 6 * k + i) j = iV M (29 + 6 * k + i) j
section HEQ
variable {O : Nat → Option va_E} {f k z : Nat} {M N L : xM} {r r' : Nat → Int} {d l : Int}
theorem CpH.ze (h : CpH 2 2 M N) (hz : z < 3) : zEq M N z := fun i j hF => by
  have := h.1 z hz i j hF
  rw [show 2 + (10 + 3 * z) + i = 12 + 3 * z + i by omega] at this
  exact this
theorem CpH.ke (h : CpH 2 2 M N) (hk : k < 12) : kEq M N k := fun i j hF => by
  have := h.2.2.1 k hk i j hF
  rw [show 2 + (27 + 6 * k) + i = 29 + 6 * k + i by omega] at this
  exact this
theorem zEq.tr (h : zEq M N z) (g : zEq N L z) : zEq M L z := fun i j hF => (g i j hF).trans (h i j hF)
theorem kEq.tr (h : kEq M N k) (g : kEq N L k) : kEq M L k := fun i j hF => (g i j hF).trans (h i j hF)
theorem zEq.of (hz : z < 3) (h : ∀ a j, 2 ≤ a → a < 115 → iV N a j = iV M a j) : zEq M N z := fun i j hF => h _ _ (by omega) (by unfold zoF at hF; omega)
theorem kEq.of (hk : k < 12) (h : ∀ a j, 2 ≤ a → a < 115 → iV N a j = iV M a j) : kEq M N k := fun i j hF => h _ _ (by omega) (by unfold seF at hF; omega)
theorem zEq.fs (h : zEq M N z) : (iV N (12 + 3 * z) 0 = iV M (12 + 3 * z) 0 ∧ iV N (12 + 3 * z) 1 = iV M (12 + 3 * z) 1) ∧ (∀ j, j < 4 → iV N (13 + 3 * z) j = iV M (13 + 3 * z) j) ∧ ∀ j, j < 4 → iV N (14 + 3 * z) j = iV M (14 + 3 * z) j := by
  refine ⟨⟨h 0 0 (by unfold zoF; omega), h 0 1 (by unfold zoF; omega)⟩, fun j hj => ?_, fun j hj => ?_⟩
  · have := h 1 j (by unfold zoF; omega)
    rw [show 12 + 3 * z + 1 = 13 + 3 * z by omega] at this
    exact this
  · have := h 2 j (by unfold zoF; omega)
    rw [show 12 + 3 * z + 2 = 14 + 3 * z by omega] at this
    exact this
theorem zEq.zv (h : zEq M N z) (hz : Zv M z) : Zv N z := by
  obtain ⟨⟨h0, h1⟩, h2, h3⟩ := h.fs
  unfold Zv rV at hz ⊢
  rw [h0, h1, h2 0 (by decide), h2 1 (by decide), h2 2 (by decide), h2 3 (by decide), h3 0 (by decide), h3 1 (by decide), h3 2 (by decide), h3 3 (by decide)]
  exact hz
theorem zEq.cm (h : zEq M N z) : com N z l = com M z l := by
  obtain ⟨⟨h0, h1⟩, h2, h3⟩ := h.fs
  unfold com sm sR
  rw [h0, h1, h2 0 (by decide), h2 1 (by decide), h2 2 (by decide), h2 3 (by decide), h3 0 (by decide), h3 1 (by decide), h3 2 (by decide), h3 3 (by decide)]
theorem kEq.fs (h : kEq M N k) : (∀ j, j < 8 → j ≠ 6 → iV N (29 + 6 * k) j = iV M (29 + 6 * k) j) ∧ (∀ j, j < 8 → iV N (30 + 6 * k) j = iV M (30 + 6 * k) j) ∧ (∀ j, j < 10 → iV N (31 + 6 * k) j = iV M (31 + 6 * k) j) ∧ ∀ j, j < 10 → iV N (32 + 6 * k) j = iV M (32 + 6 * k) j := by
  refine ⟨fun j hj h6 => h 0 j (by unfold seF; omega), fun j hj => ?_, fun j hj => ?_, fun j hj => ?_⟩
  · have := h 1 j (by unfold seF; omega)
    rw [show 29 + 6 * k + 1 = 30 + 6 * k by omega] at this
    exact this
  · have := h 2 j (by unfold seF; omega)
    rw [show 29 + 6 * k + 2 = 31 + 6 * k by omega] at this
    exact this
  · have := h 3 j (by unfold seF; omega)
    rw [show 29 + 6 * k + 3 = 32 + 6 * k by omega] at this
    exact this
theorem kEq.sv (h : kEq M N k) (hs : SV M k) : SV N k := by
  obtain ⟨h0, -, h2, h3⟩ := h.fs
  obtain ⟨s1, s2, s3, s4, s5, s6, ⟨e0, e1⟩, hx, hdis⟩ := hs
  unfold SV
  rw [h0 0 (by decide) (by decide), h0 1 (by decide) (by decide), h0 2 (by decide) (by decide), h0 3 (by decide) (by decide), h0 4 (by decide) (by decide), h0 5 (by decide) (by decide), h0 7 (by decide) (by decide)]
  refine ⟨s1, s2, s3, s4, s5, s6, ⟨e0, e1⟩, fun i hi => ?_, fun i j hij hj => ?_⟩
  · rw [h2 i (by omega), h3 i (by omega)]
    exact hx i hi
  · rw [h2 i (by omega), h2 j (by omega)]
    exact hdis i j hij hj
theorem kEq.zo (h : kEq M N k) : zk N k = zk M k := by
  obtain ⟨h0, -, -, -⟩ := h.fs
  unfold zk
  rw [h0 1 (by decide) (by decide)]
theorem kEq.ex (h : kEq M N k) (hs : SV M k) : exO N k d = exO M k d := by
  obtain ⟨h0, -, h2, h3⟩ := h.fs
  have e := hs.2.2.2.2.2.2.1
  unfold exO
  rw [h0 7 (by decide) (by decide)]
  exact exF_of (fun i hi => h2 i (by omega))
theorem kEq.bgn (h : kEq M N k) (hz : zEq M N (zk M k)) (hs : SV M k) : bg N k d = bg M k d := by
  obtain ⟨h0, -, h2, h3⟩ := h.fs
  have e := hs.2.2.2.2.2.2.1
  unfold bg
  rw [h.ex hs, h.zo, h0 2 (by decide) (by decide)]
  by_cases g : exO M k d = -1
  · rw [if_pos g, if_pos g, hz.cm]
  · have q := exO_r e.1 g
    rw [if_neg g, if_neg g, h3 _ (by omega), hz.cm]
theorem r8 (h : ∀ j, j < 8 → r' j = r j) : hol r' = hol r ∧ Dg r' = Dg r ∧ (RVg r → RVg r') ∧ (SO r → SO r') := by
  have hh : hol r' = hol r := hol_of (fun j hj => h j (by omega))
  have hd : Dg r' = Dg r := by
    funext d
    unfold Dg
    rw [hh, h 0 (by decide), h 7 (by decide)]
  refine ⟨hh, hd, fun q => ?_, fun q => ?_⟩
  · unfold RVg at q ⊢
    rw [h 0 (by decide), h 1 (by decide), h 2 (by decide), h 3 (by decide), h 4 (by decide), h 7 (by decide)]
    exact q
  · unfold SO at q ⊢
    rw [h 0 (by decide), h 5 (by decide), h 6 (by decide), hh, hd]
    exact q
theorem kEq.ed (h : kEq M N k) (hs : SV M k) (hE : EXd M k) : EXd N k := fun i hi => by
  obtain ⟨h0, h1, h2, h3⟩ := h.fs
  have e := hs.2.2.2.2.2.2.1
  rw [h0 7 (by decide) (by decide)] at hi
  rw [(r8 h1).2.1, h2 i (by omega)]
  exact hE i hi
end HEQ
end
