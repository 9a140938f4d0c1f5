/-! draft 653.nextg -/
section
/-! ===== the next day of a rule ===== -/
theorem step_mod {a x s : Int} (hs : 0 < s) : (x + (a - x) % s - a) % s = 0 ∧ ∀ e, x ≤ e → e < x + (a - x) % s → (e - a) % s ≠ 0 := by
  have q0 := Int.emod_nonneg (a - x) (show s ≠ 0 by omega)
  have q1 := Int.emod_lt_of_pos (a - x) hs
  have dm := Int.emod_add_mul_ediv (a - x) s
  generalize hqq : (a - x) % s = m at *
  have isd : (x + m - a) % s = 0 := by
    have e : x + m - a = s * (-((a - x) / s)) := by
      rw [Int.mul_neg]
      omega
    rw [e]
    exact Int.mul_emod_right _ _
  refine ⟨isd, fun e h1 h2 q => ?_⟩
  have e2 : x + m - e = (x + m - a) - (e - a) := by omega
  have e3 : (x + m - e) % s = 0 := by
    rw [e2]
    exact Int.emod_eq_zero_of_dvd (Int.dvd_sub (Int.dvd_of_emod_eq_zero isd) (Int.dvd_of_emod_eq_zero q))
  rw [Int.emod_eq_of_lt (by omega) (by omega)] at e3
  omega
theorem mod_add {a x s : Int} (h : (x - a) % s = 0) : (x + s - a) % s = 0 := by
  rw [show x + s - a = (x - a) + s by omega, Int.add_emod_right]
  exact h
theorem mod_gap {a x s e : Int} (hs : 0 < s) (h : (x - a) % s = 0) (h1 : x < e) (h2 : e < x + s) : (e - a) % s ≠ 0 := fun q => by
  have e3 : (e - x) % s = 0 := by
    rw [show e - x = (e - a) - (x - a) by omega]
    exact Int.emod_eq_zero_of_dvd (Int.dvd_sub (Int.dvd_of_emod_eq_zero q) (Int.dvd_of_emod_eq_zero h))
  rw [Int.emod_eq_of_lt (by omega) (by omega)] at e3
  omega
theorem some_bit : ∀ n : Nat, n < 128 → 0 < n → ∃ j : Nat, j < 7 ∧ bitz (n : Int) (j : Int) = 1 := by
  have h : ∀ n : Nat, n < 128 → 0 < n → (bitz (n : Int) 0 = 1 ∨ bitz (n : Int) 1 = 1 ∨ bitz (n : Int) 2 = 1 ∨ bitz (n : Int) 3 = 1 ∨ bitz (n : Int) 4 = 1 ∨ bitz (n : Int) 5 = 1 ∨ bitz (n : Int) 6 = 1) := by decide +kernel
  intro n h1 h2
  rcases h n h1 h2 with q | q | q | q | q | q | q
  · exact ⟨0, by decide, q⟩
  · exact ⟨1, by decide, q⟩
  · exact ⟨2, by decide, q⟩
  · exact ⟨3, by decide, q⟩
  · exact ⟨4, by decide, q⟩
  · exact ⟨5, by decide, q⟩
  · exact ⟨6, by decide, q⟩
section NXG
variable {O : Nat → Option va_E} {f k : Nat} {M : xM} {d x : Int}
/-- the least day that holds, from a day on -/
def lsH (r : Nat → Int) (fr x : Int) : Prop := fr ≤ x ∧ hol r x ∧ ∀ e, fr ≤ e → e < x → ¬ hol r e
theorem hol3 {r : Nat → Int} (k3 : 3 ≤ r 1) : hol r d ↔ (cMonth d - cMonth (r 0)) % sdR r = 0 ∧ mcR r d := by
  unfold hol
  rw [if_neg (by omega), if_neg (by omega), if_neg (by omega)]
theorem nm_47 {fr lm s fm : Int} (h : Wd M) (hk : k < 12) (hr : RVg (iV M (30 + 6 * k))) (k3 : 3 ≤ iV M (30 + 6 * k) 1) (es : s = sdR (iV M (30 + 6 * k))) (s0 : 1 ≤ s) (s1 : s ≤ 1200) (ef : fm = cMonth (iV M (30 + 6 * k) 0)) (f0 : iV M (30 + 6 * k) 0 ≤ fr) (f1 : fr ≤ 146000) (l0 : 0 ≤ lm) (l1 : lm < 4800) (hf : 100 ≤ f) : ∀ (n t : Nat) (a : Int), 4800 - a ≤ n → n < t → cMonth fr ≤ a → a ≤ 10000 → (a - fm) % s = 0 → (∀ e, fr ≤ e → e ≤ 146096 → cMonth e < a → ¬ hol (iV M (30 + 6 * k)) e) → ∃ x, f_Rule_nextByMonths_47 O f t (30 + 6 * k) fr s lm a M = some (x, M) ∧ ((x = -1 ∧ ∀ e, fr ≤ e → e ≤ 146096 → cMonth e ≤ lm → ¬ hol (iV M (30 + 6 * k)) e) ∨ (x ≤ 146096 ∧ lsH (iV M (30 + 6 * k)) fr x)) := by
  have hr' := hr
  obtain ⟨⟨g0, g1⟩, -⟩ := hr'
  have cf := c_in (d := fr) (by omega) (by omega)
  intro n
  induction n with
  | zero =>
    intro t a h1 h2 a0 a1 ha hn
    obtain ⟨t, rfl⟩ : ∃ n', t = n' + 1 := ⟨t - 1, by omega⟩
    refine ⟨-1, ?_, Or.inl ⟨rfl, fun e q0 q1 q2 => hn e q0 q1 (by omega)⟩⟩
    show (if yw lm < yw a then _ else _) = _
    rw [lt_T (by omega) (by omega) (by omega)]
  | succ n ih =>
    intro t a h1 h2 a0 a1 ha hn
    obtain ⟨t, rfl⟩ : ∃ n', t = n' + 1 := ⟨t - 1, by omega⟩
    by_cases g : lm < a
    · refine ⟨-1, ?_, Or.inl ⟨rfl, fun e q0 q1 q2 => hn e q0 q1 (by omega)⟩⟩
      show (if yw lm < yw a then _ else _) = _
      rw [lt_T g (by omega) (by omega)]
    · obtain ⟨x, ex, ox⟩ := dayInMonth_ok (O := O) (f := f) (m := a) h hk hr k3 (by omega) (by omega) hf
      have cb := c_begin_r (m := a) (by omega) (by omega)
      have ce := c_end (m := a) (by omega) (by omega)
      have lr := cLen_r a
      have inm : ∀ e, fr ≤ e → e ≤ 146096 → cMonth e = a → cBegin a ≤ e ∧ e < cBegin a + cLen a := fun e q0 q1 q2 => by
        have c := c_in (d := e) (by omega) (by omega)
        rw [q2] at c
        exact ⟨c.2.2.1, c.2.2.2⟩
      -- going on
      have go : (∀ e, fr ≤ e → e ≤ 146096 → cMonth e = a → ¬ mcR (iV M (30 + 6 * k)) e) → ∃ x, f_Rule_nextByMonths_47 O f t (30 + 6 * k) fr s lm (a + s) M = some (x, M) ∧ ((x = -1 ∧ ∀ e, fr ≤ e → e ≤ 146096 → cMonth e ≤ lm → ¬ hol (iV M (30 + 6 * k)) e) ∨ (x ≤ 146096 ∧ lsH (iV M (30 + 6 * k)) fr x)) := fun hm => ih t (a + s) (by omega) (by omega) (by omega) (by omega) (mod_add ha) (fun e q0 q1 q2 z => by
        obtain ⟨z1, z2⟩ := (hol3 k3).mp z
        rcases Int.lt_trichotomy (cMonth e) a with c | c | c
        · exact hn e q0 q1 c z
        · exact hm e q0 q1 c z2
        · rw [← ef, ← es] at z1
          exact mod_gap (by omega) ha c (by omega) z1)
      show ∃ x, (if yw lm < yw a then _ else _) = _ ∧ _
      rw [lt_F (by omega) (by omega) (by omega), a_Rule_is h hk, ex, xcl_e]
      rcases ox with ⟨rfl, q⟩ | ⟨x0, x1, x2, x3⟩
      · rw [lt_T (by omega) (by omega) (by omega)]
        exact go (fun e q0 q1 q2 => q e (inm e q0 q1 q2).1 (inm e q0 q1 q2).2)
      · by_cases c : x < fr
        · rw [lt_T c (by omega) (by omega)]
          exact go (fun e q0 q1 q2 z => by
            have := x3 e (inm e q0 q1 q2).1 (inm e q0 q1 q2).2 z
            omega)
        · have cx := c_uniq (m := a) (d := x) (by omega) (by omega) x0 x1 (by omega)
          rw [lt_F (by omega) (by omega) (by omega)]
          refine ⟨x, rfl, Or.inr ⟨by omega, by omega, (hol3 k3).mpr ⟨by rw [cx, ← ef, ← es]; exact ha, x2⟩, fun e q0 q1 z => ?_⟩⟩
          have mo := c_month_mono (d := e) (e := x) (by omega) (by omega) (by omega)
          rw [cx] at mo
          by_cases c2 : cMonth e < a
          · exact hn e q0 (by omega) c2 z
          · have := x3 e (inm e q0 (by omega) (by omega)).1 (inm e q0 (by omega) (by omega)).2 ((hol3 k3).mp z).2
            omega
theorem nextByMonths_ok {fr : Int} (h : Wd M) (hk : k < 12) (hr : RVg (iV M (30 + 6 * k))) (k3 : 3 ≤ iV M (30 + 6 * k) 1) (f0 : iV M (30 + 6 * k) 0 ≤ fr) (f1 : fr ≤ iV M (30 + 6 * k) 7) (hf : 10000 ≤ f) : ∃ x, f_Rule_nextByMonths O f (30 + 6 * k) fr M = some (x, M) ∧ -1 ≤ x ∧ x ≤ 146096 ∧ ((x = -1 ∧ ∀ e, fr ≤ e → e ≤ iV M (30 + 6 * k) 7 → ¬ hol (iV M (30 + 6 * k)) e) ∨ lsH (iV M (30 + 6 * k)) fr x) := by
  have hr' := hr
  obtain ⟨⟨g0, g1⟩, -, -, -, -, -, -, -, ⟨l0, l1⟩, -⟩ := hr'
  obtain ⟨em, m0, m1⟩ := monthStep_ok (O := O) (f := f) h hk hr k3
  have cf := c_in (d := fr) (by omega) (by omega)
  have cg := c_in (d := iV M (30 + 6 * k) 0) (by omega) (by omega)
  have cl := c_in (d := iV M (30 + 6 * k) 7) (by omega) (by omega)
  have sm := step_mod (a := cMonth (iV M (30 + 6 * k) 0)) (x := cMonth fr) (s := sdR (iV M (30 + 6 * k))) (by omega)
  have e0 := Int.emod_nonneg (cMonth (iV M (30 + 6 * k) 0) - cMonth fr) (show sdR (iV M (30 + 6 * k)) ≠ 0 by omega)
  have e1 := Int.emod_lt_of_pos (cMonth (iV M (30 + 6 * k) 0) - cMonth fr) (show 0 < sdR (iV M (30 + 6 * k)) by omega)
  obtain ⟨x, ex, ox⟩ := nm_47 (O := O) (f := f) (fr := fr) (lm := cMonth (iV M (30 + 6 * k) 7)) h hk hr k3 rfl m0 m1 rfl f0 (by omega) (by omega) (by omega) (by omega) 4800 f (cMonth fr + (cMonth (iV M (30 + 6 * k) 0) - cMonth fr) % sdR (iV M (30 + 6 * k))) (by omega) (by omega) (by omega) (by omega) sm.1 (fun e q0 q1 q2 z => by
    have mo := c_month_mono (d := fr) (e := e) (by omega) q0 (by omega)
    exact sm.2 (cMonth e) mo q2 ((hol3 k3).mp z).1)
  refine ⟨x, ?_, ?_⟩
  · unfold f_Rule_nextByMonths
    rw [a_Rule_is h hk, em, xcl_e, xc_of (e_monthOf (by omega) (by omega)), a_Rule_first h hk, xc_of (e_monthOf (by omega) (by omega)), a_Rule_last h hk, xc_of (e_monthOf (by omega) (by omega)), le_T m0 (by omega) (by omega), xc_of (e_floorMod (by omega) (by omega) (by omega) (by omega))]
    exact ex
  · rcases ox with ⟨z1, z2⟩ | ⟨z1, z2⟩
    · exact ⟨by omega, by omega, Or.inl ⟨z1, fun e q0 q1 => z2 e q0 (by omega) (c_month_mono (by omega) q1 (by omega))⟩⟩
    · have := z2.1
      exact ⟨by omega, z1, Or.inr z2⟩
/-- the first bit of a set from a place on -/
theorem bits_57 {w v a : Int} (h : Wd M) (hk : k < 12) (s0 : 0 ≤ iV M (30 + 6 * k) 3) (s1 : iV M (30 + 6 * k) 3 ≤ 127) (a0 : 0 ≤ a) (a1 : a ≤ 200000) : ∀ (n t j : Nat), j + n = 7 → n < t → (∃ i : Nat, j ≤ i ∧ i < 7 ∧ bitz (iV M (30 + 6 * k) 3) i = 1 ∧ (∀ u : Nat, j ≤ u → u < i → bitz (iV M (30 + 6 * k) 3) u ≠ 1) ∧ f_Rule_nextByWeeks_57 O f t (30 + 6 * k) w v a (j : Int) M = some (a + i - (a + 5) % 7, M)) ∨ ((∀ u : Nat, j ≤ u → u < 7 → bitz (iV M (30 + 6 * k) 3) u ≠ 1) ∧ f_Rule_nextByWeeks_57 O f t (30 + 6 * k) w v a (j : Int) M = if yw v = yw 0 then ((gJ O M (30 + 6 * k) 9 2).bind fun x1 => f_Rule_nextByWeeks_110 O f (30 + 6 * k) (w + v) x1 M) else f_Rule_nextByWeeks_110 O f (30 + 6 * k) (w + v) 0 M) := by
  intro n
  induction n with
  | zero =>
    intro t j h1 h2
    obtain ⟨t, rfl⟩ : ∃ n', t = n' + 1 := ⟨t - 1, by omega⟩
    refine Or.inr ⟨fun u u0 u1 => by omega, ?_⟩
    show (if yw 7 ≤ yw (j : Int) then _ else _) = _
    rw [le_T (by omega) (by omega) (by omega)]
  | succ n ih =>
    intro t j h1 h2
    obtain ⟨t, rfl⟩ : ∃ n', t = n' + 1 := ⟨t - 1, by omega⟩
    have bl := bitz_lt (x := iV M (30 + 6 * k) 3) (k := (j : Int))
    have start : f_Rule_nextByWeeks_57 O f (t + 1) (30 + 6 * k) w v a (j : Int) M = if bitz (iV M (30 + 6 * k) 3) (j : Int) = 1 then some (a + j - (a + 5) % 7, M) else f_Rule_nextByWeeks_57 O f t (30 + 6 * k) w v a ((j : Int) + 1) M := by
      show (if yw 7 ≤ yw (j : Int) then _ else _) = _
      rw [le_F (by omega) (by omega) (by omega), a_Rule_days h hk, bit_e s0 (by omega) (by omega) (by omega)]
      by_cases b : bitz (iV M (30 + 6 * k) 3) (j : Int) = 1
      · rw [eq_T b, if_pos b, xc_of (e_weekdayOf (by omega) (by omega))]
      · rw [eq_F b (by omega) (by omega) (by omega) (by omega), if_neg b]
    rw [start]
    by_cases b : bitz (iV M (30 + 6 * k) 3) (j : Int) = 1
    · rw [if_pos b]
      exact Or.inl ⟨j, Nat.le_refl _, by omega, b, fun u u0 u1 => by omega, rfl⟩
    · rw [if_neg b]
      have q := ih t (j + 1) (by omega) (by omega)
      rw [show ((j + 1 : Nat) : Int) = (j : Int) + 1 by omega] at q
      rcases q with ⟨i, i0, i1, i2, i3, i4⟩ | ⟨q1, q2⟩
      · exact Or.inl ⟨i, by omega, i1, i2, fun u u0 u1 => by
          by_cases z : u = j
          · rw [z]
            exact b
          · exact i3 u (by omega) u1, i4⟩
      · exact Or.inr ⟨fun u u0 u1 => by
          by_cases z : u = j
          · rw [z]
            exact b
          · exact q1 u (by omega) u1, q2⟩
theorem bits_119 {a : Int} (h : Wd M) (hk : k < 12) (s0 : 0 ≤ iV M (30 + 6 * k) 3) (s1 : iV M (30 + 6 * k) 3 ≤ 127) : ∀ (n t j : Nat), j + n = 7 → n < t → (∃ i : Nat, j ≤ i ∧ i < 7 ∧ bitz (iV M (30 + 6 * k) 3) i = 1) → ∃ i : Nat, j ≤ i ∧ i < 7 ∧ bitz (iV M (30 + 6 * k) 3) i = 1 ∧ (∀ u : Nat, j ≤ u → u < i → bitz (iV M (30 + 6 * k) 3) u ≠ 1) ∧ f_Rule_nextByWeeks_119 O f t (30 + 6 * k) a (j : Int) M = some (a + i, M) := by
  intro n
  induction n with
  | zero =>
    intro t j h1 h2 ⟨i, i0, i1, i2⟩
    omega
  | succ n ih =>
    intro t j h1 h2 ⟨i, i0, i1, i2⟩
    obtain ⟨t, rfl⟩ : ∃ n', t = n' + 1 := ⟨t - 1, by omega⟩
    have bl := bitz_lt (x := iV M (30 + 6 * k) 3) (k := (j : Int))
    have start : f_Rule_nextByWeeks_119 O f (t + 1) (30 + 6 * k) a (j : Int) M = if bitz (iV M (30 + 6 * k) 3) (j : Int) = 1 then some (a + j, M) else f_Rule_nextByWeeks_119 O f t (30 + 6 * k) a ((j : Int) + 1) M := by
      show (if yw 7 ≤ yw (j : Int) then _ else _) = _
      rw [le_F (by omega) (by omega) (by omega), a_Rule_days h hk, bit_e s0 (by omega) (by omega) (by omega)]
      by_cases b : bitz (iV M (30 + 6 * k) 3) (j : Int) = 1
      · rw [eq_T b, if_pos b]
      · rw [eq_F b (by omega) (by omega) (by omega) (by omega), if_neg b]
    rw [start]
    by_cases b : bitz (iV M (30 + 6 * k) 3) (j : Int) = 1
    · rw [if_pos b]
      exact ⟨j, Nat.le_refl _, by omega, b, fun u u0 u1 => by omega, rfl⟩
    · rw [if_neg b]
      obtain ⟨i', q0, q1, q2, q3, q4⟩ := ih t (j + 1) (by omega) (by omega) ⟨i, by
        by_cases z : i = j
        · rw [z] at i2
          exact (b i2).elim
        · omega, i1, i2⟩
      rw [show ((j + 1 : Nat) : Int) = (j : Int) + 1 by omega] at q4
      exact ⟨i', by omega, q1, q2, fun u u0 u1 => by
        by_cases z : u = j
        · rw [z]
          exact b
        · exact q3 u (by omega) u1, q4⟩
theorem hol2 {r : Nat → Int} (k2 : r 1 = 2) : hol r d ↔ bitz (r 3) ((d + 5) % 7) = 1 ∧ ((d + 5) / 7 - (r 0 + 5) / 7) % r 2 = 0 := by
  unfold hol
  rw [if_neg (by omega), if_neg (by omega), if_pos k2]
theorem nextByWeeks_ok {fr : Int} (h : Wd M) (hk : k < 12) (hr : RVg (iV M (30 + 6 * k))) (k2 : iV M (30 + 6 * k) 1 = 2) (f0 : iV M (30 + 6 * k) 0 ≤ fr) (f1 : fr ≤ 146000) (hf : 100 ≤ f) : ∃ x, f_Rule_nextByWeeks O f (30 + 6 * k) fr M = some (x, M) ∧ x ≤ 200000 ∧ lsH (iV M (30 + 6 * k)) fr x := by
  obtain ⟨⟨g0, g1⟩, -, st, ⟨s0, s1⟩, sn, -⟩ := hr
  have st := st (by omega)
  have sn := sn (Or.inl k2)
  obtain ⟨S, eS⟩ : ∃ S, S = iV M (30 + 6 * k) 3 := ⟨_, rfl⟩
  obtain ⟨s, es⟩ : ∃ s, s = iV M (30 + 6 * k) 2 := ⟨_, rfl⟩
  have hh : ∀ e, hol (iV M (30 + 6 * k)) e ↔ bitz S ((e + 5) % 7) = 1 ∧ ((e + 5) / 7 - (iV M (30 + 6 * k) 0 + 5) / 7) % s = 0 := fun e => by
    rw [eS, es]
    exact hol2 k2
  have sm := step_mod (a := (iV M (30 + 6 * k) 0 + 5) / 7) (x := (fr + 5) / 7) (s := s) (by omega)
  obtain ⟨v, ev⟩ : ∃ v, v = ((iV M (30 + 6 * k) 0 + 5) / 7 - (fr + 5) / 7) % s := ⟨_, rfl⟩
  have v0 := Int.emod_nonneg ((iV M (30 + 6 * k) 0 + 5) / 7 - (fr + 5) / 7) (show s ≠ 0 by omega)
  have v1 := Int.emod_lt_of_pos ((iV M (30 + 6 * k) 0 + 5) / 7 - (fr + 5) / 7) (show 0 < s by omega)
  rw [← ev] at sm v0 v1
  have some1 : ∃ i : Nat, 0 ≤ i ∧ i < 7 ∧ bitz S i = 1 := by
    obtain ⟨j, j0, j1⟩ := some_bit S.toNat (by omega) (by omega)
    rw [Int.toNat_of_nonneg (by omega)] at j1
    exact ⟨j, by omega, j0, j1⟩
  -- a later week's days
  have second : ∀ W : Int, (fr + 5) / 7 ≤ W → W ≤ 25000 → (W - (iV M (30 + 6 * k) 0 + 5) / 7) % s = 0 → fr ≤ W * 7 - 5 → (∀ e, fr ≤ e → e < W * 7 - 5 → ¬ hol (iV M (30 + 6 * k)) e) → ∃ x, f_Rule_nextByWeeks_119 O f f (30 + 6 * k) (W * 7 - 5) 0 M = some (x, M) ∧ x ≤ 200000 ∧ lsH (iV M (30 + 6 * k)) fr x := by
    intro W W0 W1 wm wf hn
    obtain ⟨i, i0, i1, i2, i3, i4⟩ := bits_119 (O := O) (f := f) (a := W * 7 - 5) h hk s0 s1 7 f 0 (by omega) (by omega) (by rw [← eS]; exact some1)
    rw [← eS] at i2 i3
    refine ⟨_, i4, by omega, by omega, (hh _).mpr ⟨by rw [show (W * 7 - 5 + (i : Int) + 5) % 7 = i by omega]; exact i2, by rw [show (W * 7 - 5 + (i : Int) + 5) / 7 = W by omega]; exact wm⟩, fun e q0 q1 z => ?_⟩
    by_cases c : e < W * 7 - 5
    · exact hn e q0 c z
    · have zz := ((hh e).mp z).1
      refine i3 ((e + 5) % 7).toNat (by omega) (by omega) ?_
      rw [Int.toNat_of_nonneg (by omega)]
      exact zz
  have body : f_Rule_nextByWeeks O f (30 + 6 * k) fr M = f_Rule_nextByWeeks_33 O f (30 + 6 * k) fr ((fr + 5) / 7) v M := by
    unfold f_Rule_nextByWeeks
    rw [xc_of (e_weekOf (by omega) (by omega)), a_Rule_step h hk, le_T (by omega) (by omega) (by omega), a_Rule_first h hk, xc_of (e_weekOf (by omega) (by omega)), a_Rule_step h hk, xc_of (e_floorMod (by omega) (by omega) (by omega) (by omega)), ← es, ← ev]
  rw [body]
  unfold f_Rule_nextByWeeks_33 f_Rule_nextByWeeks_48
  -- no day ahead of the week that counts
  have ahead : ∀ e, fr ≤ e → (e + 5) / 7 < (fr + 5) / 7 + v → ¬ hol (iV M (30 + 6 * k)) e := fun e q0 q1 z => sm.2 ((e + 5) / 7) (by omega) q1 ((hh e).mp z).2
  by_cases gv : v = 0
  · rw [eq_T gv, xc_of (e_weekdayOf (by omega) (by omega))]
    have w7 : (((fr + 5) % 7).toNat : Int) = (fr + 5) % 7 := by omega
    rcases bits_57 (O := O) (f := f) (w := (fr + 5) / 7) (v := v) (a := fr) h hk s0 s1 (by omega) (by omega) (7 - ((fr + 5) % 7).toNat) f ((fr + 5) % 7).toNat (by omega) (by omega) with ⟨i, i0, i1, i2, i3, i4⟩ | ⟨q1, q2⟩
    · rw [← eS] at i2 i3
      rw [w7] at i4
      rw [gv] at sm
      refine ⟨_, i4, by omega, by omega, (hh _).mpr ⟨by rw [show (fr + (i : Int) - (fr + 5) % 7 + 5) % 7 = i by omega]; exact i2, by rw [show (fr + (i : Int) - (fr + 5) % 7 + 5) / 7 = (fr + 5) / 7 + 0 by omega]; exact sm.1⟩, fun e q0 q1 z => ?_⟩
      have zz := ((hh e).mp z).1
      refine i3 ((e + 5) % 7).toNat (by omega) (by omega) ?_
      rw [Int.toNat_of_nonneg (by omega)]
      exact zz
    · rw [← eS] at q1
      rw [w7] at q2
      have hs : ((fr + 5) / 7 + v + s - (iV M (30 + 6 * k) 0 + 5) / 7) % s = 0 := mod_add sm.1
      obtain ⟨x, ex, ox⟩ := second ((fr + 5) / 7 + v + s) (by omega) (by omega) hs (by omega) (fun e q0 q3 z => by
        by_cases c : (e + 5) / 7 = (fr + 5) / 7
        · have zz := ((hh e).mp z).1
          refine q1 ((e + 5) % 7).toNat (by omega) (by omega) ?_
          rw [Int.toNat_of_nonneg (by omega)]
          exact zz
        · exact mod_gap (a := (iV M (30 + 6 * k) 0 + 5) / 7) (x := (fr + 5) / 7 + v) (s := s) (by omega) sm.1 (by omega) (by omega) ((hh e).mp z).2)
      refine ⟨x, ?_, ox⟩
      rw [q2, eq_T gv, a_Rule_step h hk, ← es]
      unfold f_Rule_nextByWeeks_110
      rw [xc_of e_weekBegin]
      exact ex
  · rw [eq_F gv (by omega) (by omega) (by omega) (by omega), xc_of e_weekBegin, xc_of (e_weekdayOf (by omega) (by omega))]
    have w7 : (((fr + 5) / 7 + v) * 7 - 5 + 5) % 7 = 0 := by omega
    rw [w7]
    have no : ∀ e, fr ≤ e → e < ((fr + 5) / 7 + v) * 7 - 5 → ¬ hol (iV M (30 + 6 * k)) e := fun e q0 q1 => ahead e q0 (by omega)
    rcases bits_57 (O := O) (f := f) (w := (fr + 5) / 7) (v := v) (a := ((fr + 5) / 7 + v) * 7 - 5) h hk s0 s1 (by omega) (by omega) 7 f 0 (by omega) (by omega) with ⟨i, i0, i1, i2, i3, i4⟩ | ⟨q1, q2⟩
    · rw [← eS] at i2 i3
      refine ⟨_, i4, by omega, by omega, (hh _).mpr ⟨by rw [show (((fr + 5) / 7 + v) * 7 - 5 + (i : Int) - (((fr + 5) / 7 + v) * 7 - 5 + 5) % 7 + 5) % 7 = i by omega]; exact i2, by rw [show (((fr + 5) / 7 + v) * 7 - 5 + (i : Int) - (((fr + 5) / 7 + v) * 7 - 5 + 5) % 7 + 5) / 7 = (fr + 5) / 7 + v by omega]; exact sm.1⟩, fun e q0 q1 z => ?_⟩
      by_cases c : e < ((fr + 5) / 7 + v) * 7 - 5
      · exact no e q0 c z
      · have zz := ((hh e).mp z).1
        refine i3 ((e + 5) % 7).toNat (by omega) (by omega) ?_
        rw [Int.toNat_of_nonneg (by omega)]
        exact zz
    · rw [← eS] at q1
      obtain ⟨j, -, j0, j1⟩ := some1
      exact (q1 j (by omega) j0 j1).elim
theorem nextG_ok (h : Wd M) (hk : k < 12) (hr : RVg (iV M (30 + 6 * k))) (d0 : -100000 ≤ d) (d1 : d ≤ 200000) (hf : 10000 ≤ f) : ∃ x, f_Rule_next O f (30 + 6 * k) d M = some (x, M) ∧ ((x = -1 ∧ ∀ e, d ≤ e → ¬ Dg (iV M (30 + 6 * k)) e) ∨ (d ≤ x ∧ Dg (iV M (30 + 6 * k)) x ∧ ∀ e, d ≤ e → e < x → ¬ Dg (iV M (30 + 6 * k)) e)) := by
  have hr' := hr
  obtain ⟨⟨g0, g1⟩, ⟨k0, k5⟩, st, -, -, -, -, -, ⟨l0, l1⟩, s00⟩ := hr'
  obtain ⟨fr, efr⟩ : ∃ fr, fr = max d (iV M (30 + 6 * k) 0) := ⟨_, rfl⟩
  unfold f_Rule_next
  rw [a_Rule_first h hk, xc_of (e_max (by omega) (by omega) (by omega) (by omega)), ← efr, a_Rule_last h hk]
  by_cases g1 : fr ≤ iV M (30 + 6 * k) 7
  · rw [le_T g1 (by omega) (by omega), a_Rule_kind h hk]
    -- the last day looked at
    have fin : ∀ x, x ≤ 1000000 → lsH (iV M (30 + 6 * k)) fr x → ∃ y, f_Rule_next_104 O f (30 + 6 * k) x M = some (y, M) ∧ ((y = -1 ∧ ∀ e, d ≤ e → ¬ Dg (iV M (30 + 6 * k)) e) ∨ (d ≤ y ∧ Dg (iV M (30 + 6 * k)) y ∧ ∀ e, d ≤ e → e < y → ¬ Dg (iV M (30 + 6 * k)) e)) := fun x x1 ⟨q0, q1, q2⟩ => by
      rw [e_next104 h hk (by omega) x1]
      by_cases c : x ≤ iV M (30 + 6 * k) 7
      · rw [if_pos c]
        exact ⟨x, rfl, Or.inr ⟨by omega, ⟨by omega, c, q1⟩, fun e e0 e1 ⟨z0, z1, z2⟩ => q2 e (by omega) e1 z2⟩⟩
      · rw [if_neg c]
        exact ⟨-1, rfl, Or.inl ⟨rfl, fun e e0 ⟨z0, z1, z2⟩ => q2 e (by omega) (by omega) z2⟩⟩
    have non : (∀ e, fr ≤ e → e ≤ iV M (30 + 6 * k) 7 → ¬ hol (iV M (30 + 6 * k)) e) → ∃ y, f_Rule_next_104 O f (30 + 6 * k) (-1) M = some (y, M) ∧ ((y = -1 ∧ ∀ e, d ≤ e → ¬ Dg (iV M (30 + 6 * k)) e) ∨ (d ≤ y ∧ Dg (iV M (30 + 6 * k)) y ∧ ∀ e, d ≤ e → e < y → ¬ Dg (iV M (30 + 6 * k)) e)) := fun hn => by
      rw [e_next104 h hk (by omega) (by omega), if_pos (by omega)]
      exact ⟨-1, rfl, Or.inl ⟨rfl, fun e e0 ⟨z0, z1, z2⟩ => hn e (by omega) z1 z2⟩⟩
    by_cases c0 : iV M (30 + 6 * k) 1 = 0
    · have h0 : ∀ e, hol (iV M (30 + 6 * k)) e ↔ e = iV M (30 + 6 * k) 0 := fun e => by
        unfold hol
        rw [if_pos c0]
      rw [eq_T c0]
      unfold f_Rule_next_34 f_Rule_next_50
      rw [a_Rule_first h hk]
      by_cases g2 : fr = iV M (30 + 6 * k) 0
      · rw [eq_T g2, a_Rule_first h hk]
        exact fin _ (by omega) ⟨by omega, (h0 _).mpr rfl, fun e e0 e1 z => by have := (h0 e).mp z; omega⟩
      · rw [eq_F g2 (by omega) (by omega) (by omega) (by omega)]
        exact non (fun e e0 e1 z => by have := (h0 e).mp z; omega)
    · have st' := st c0
      rw [eq_F c0 (by omega) (by omega) (by omega) (by omega), a_Rule_step h hk, le_T (by omega) (by omega) (by omega), a_Rule_kind h hk]
      by_cases c1 : iV M (30 + 6 * k) 1 = 1
      · have h1 : ∀ e, hol (iV M (30 + 6 * k)) e ↔ (e - iV M (30 + 6 * k) 0) % iV M (30 + 6 * k) 2 = 0 := fun e => by
          unfold hol
          rw [if_neg c0, if_pos c1]
        have sm := step_mod (a := iV M (30 + 6 * k) 0) (x := fr) (s := iV M (30 + 6 * k) 2) (by omega)
        have v0 := Int.emod_nonneg (iV M (30 + 6 * k) 0 - fr) (show iV M (30 + 6 * k) 2 ≠ 0 by omega)
        have v1 := Int.emod_lt_of_pos (iV M (30 + 6 * k) 0 - fr) (show 0 < iV M (30 + 6 * k) 2 by omega)
        rw [eq_T c1, a_Rule_first h hk, a_Rule_step h hk, xc_of (e_floorMod (by omega) (by omega) (by omega) (by omega))]
        exact fin _ (by omega) ⟨by omega, (h1 _).mpr sm.1, fun e e0 e1 z => sm.2 e e0 e1 ((h1 e).mp z)⟩
      · rw [eq_F c1 (by omega) (by omega) (by omega) (by omega), a_Rule_kind h hk]
        by_cases c2 : iV M (30 + 6 * k) 1 = 2
        · obtain ⟨x, ex, x1, ox⟩ := nextByWeeks_ok (O := O) (f := f) h hk hr c2 (fr := fr) (by omega) (by omega) (by omega)
          rw [eq_T c2, a_Rule_is h hk, ex, xcl_e]
          exact fin x (by omega) ox
        · obtain ⟨x, ex, x0, x1, ox⟩ := nextByMonths_ok (O := O) (f := f) h hk hr (by omega) (fr := fr) (by omega) g1 hf
          rw [eq_F c2 (by omega) (by omega) (by omega) (by omega), a_Rule_is h hk, ex, xcl_e]
          rcases ox with ⟨rfl, q⟩ | q
          · exact non q
          · exact fin x (by omega) q
  · rw [le_F (by omega) (by omega) (by omega)]
    exact ⟨-1, rfl, Or.inl ⟨rfl, fun e e0 ⟨z0, z1, z2⟩ => by omega⟩⟩
theorem nxG {r : Nat → Int} (hk : k < 12) (hr : RVg r) (hf : 10000 ≤ f) : NXr O f r k (Dg r) := by
  have hr' := hr
  obtain ⟨⟨g0, g1⟩, -, -, -, -, -, -, -, ⟨l0, l1⟩, -⟩ := hr'
  refine ⟨fun d ⟨q0, q1, q2⟩ => ⟨by omega, by omega⟩, fun N w e => ?_⟩
  have er : iV N (30 + 6 * k) = r := funext e
  refine ⟨fun d d0 d1 => ?_, fun d d0 d1 => ?_⟩
  · have := nextG_ok (O := O) (f := f) w hk (by rw [er]; exact hr) d0 d1 hf
    rw [er] at this
    exact this
  · have := isDayG_ok (O := O) (f := f) w hk (by rw [er]; exact hr) d0 d1 (by omega)
    rw [er] at this
    exact this
end NXG
end
/-! draft 654.countg -/
section
/-! ===== days counted ===== -/
noncomputable def nD (P : Int → Prop) (a b : Int) : Nat := ctN (fun i => bB (P (a + i))) (b - a + 1).toNat
theorem ctN_ins {p q : Nat → Bool} {j : Nat} : ∀ n, j < n → (∀ i, i < n → (p i = true ↔ q i = true ∨ i = j)) → q j = false → ctN p n = ctN q n + 1
  | 0, h, _, _ => absurd h (Nat.not_lt_zero _)
  | n + 1, h, e, hq => by
    show ctN p n + (if p n = true then 1 else 0) = ctN q n + (if q n = true then 1 else 0) + 1
    by_cases g : j = n
    · subst g
      have e1 : ctN p j = ctN q j := ctN_of _ (fun i hi => by
        have := e i (by omega)
        cases hp : p i <;> cases hqi : q i
        · rfl
        · rw [this.mpr (Or.inl hqi)] at hp
          exact absurd hp (by decide)
        · rcases this.mp hp with z | z
          · rw [z] at hqi
            exact absurd hqi (by decide)
          · omega
        · rfl)
      rw [e1, if_pos ((e j (by omega)).mpr (Or.inr rfl)), if_neg (by rw [hq]; decide)]
    · have := ctN_ins n (by omega) (fun i hi => e i (by omega)) hq
      have e2 : p n = q n := by
        have := e n (by omega)
        cases hp : p n <;> cases hqn : q n
        · rfl
        · rw [this.mpr (Or.inl hqn)] at hp
          exact absurd hp (by decide)
        · rcases this.mp hp with z | z
          · rw [z] at hqn
            exact absurd hqn (by decide)
          · omega
        · rfl
      rw [e2]
      omega
section NDS
variable {P Q : Int → Prop} {a b x : Int}
theorem nD_of (h : ∀ d, a ≤ d → d ≤ b → (P d ↔ Q d)) : nD P a b = nD Q a b := ctN_of _ (fun i hi => by
  have e := h (a + i) (by omega) (by omega)
  cases hp : bB (P (a + i)) <;> cases hq : bB (Q (a + i))
  · rfl
  · exact (bB_f.mp hp (e.mpr (bB_iff.mp hq))).elim
  · exact (bB_f.mp hq (e.mp (bB_iff.mp hp))).elim
  · rfl)
theorem nD_0 (h : ∀ d, a ≤ d → d ≤ b → ¬ P d) : nD P a b = 0 := (ctN_zero _).mpr (fun i hi => bB_f.mpr (h (a + i) (by omega) (by omega)))
theorem nD_e (h : b < a) : nD P a b = 0 := by
  unfold nD
  rw [show (b - a + 1).toNat = 0 by omega]
  rfl
theorem nD_one (h : ∀ d, a ≤ d → d ≤ b → (P d ↔ Q d ∨ d = x)) (hx : a ≤ x ∧ x ≤ b) (hq : ¬ Q x) : nD P a b = nD Q a b + 1 := by
  refine ctN_ins (j := (x - a).toNat) _ (by omega) (fun i hi => ?_) (bB_f.mpr (by rw [show a + (((x - a).toNat : Nat) : Int) = x by omega]; exact hq))
  rw [bB_iff, bB_iff, h (a + i) (by omega) (by omega)]
  constructor
  · rintro (z | z)
    · exact Or.inl z
    · exact Or.inr (by omega)
  · rintro (z | z)
    · exact Or.inl z
    · exact Or.inr (by omega)
theorem nD_last (h : a ≤ b) : (P b → nD P a b = nD P a (b - 1) + 1) ∧ (¬ P b → nD P a b = nD P a (b - 1)) := by
  have e : nD P a b = nD P a (b - 1) + (if bB (P b) = true then 1 else 0) := by
    unfold nD
    rw [show (b - a + 1).toNat = (b - 1 - a + 1).toNat + 1 by omega]
    show ctN _ _ + (if bB (P (a + (((b - 1 - a + 1).toNat : Nat) : Int))) = true then 1 else 0) = _
    rw [show a + (((b - 1 - a + 1).toNat : Nat) : Int) = b by omega]
  refine ⟨fun z => ?_, fun z => ?_⟩
  · rw [e, if_pos (bB_iff.mpr z)]
  · rw [e, if_neg (by rw [bB_f.mpr z]; decide)]
    rfl
/-- what goes up by one at each such day counts them -/
theorem nD_tel {F : Int → Int} : ∀ (n : Nat) (b : Int), b - a + 1 = n → (∀ d, a ≤ d → d ≤ b → (P d → F d = F (d - 1) + 1) ∧ (¬ P d → F d = F (d - 1))) → ((nD P a b : Nat) : Int) = F b - F (a - 1)
  | 0, b, h, _ => by
    rw [nD_e (by omega), show b = a - 1 by omega]
    omega
  | n + 1, b, h, e => by
    have ih := nD_tel (F := F) n (b - 1) (by omega) (fun d d0 d1 => e d d0 (by omega))
    have l := nD_last (P := P) (a := a) (b := b) (by omega)
    have q := e b (by omega) (Int.le_refl _)
    rcases Classical.em (P b) with z | z
    · rw [l.1 z, q.1 z]
      omega
    · rw [l.2 z, q.2 z]
      exact ih
theorem nD_le (h : a ≤ b + 1) : ((nD P a b : Nat) : Int) ≤ b - a + 1 := by
  have := ctN_le (p := fun i => bB (P (a + i))) (b - a + 1).toNat
  unfold nD
  omega
theorem nD_add {c : Int} (h1 : a ≤ c + 1) (h2 : c ≤ b) : nD P a b = nD P a c + nD P (c + 1) b := by
  unfold nD
  rw [show (b - a + 1).toNat = (c - a + 1).toNat + (b - (c + 1) + 1).toNat by omega, ctN_split]
  congr 1
  refine ctN_of _ (fun i hi => ?_)
  rw [show a + (((c - a + 1).toNat + i : Nat) : Int) = c + 1 + i by omega]
end NDS
/-- bits ahead of a place -/
def bN (S : Int) (n : Nat) : Nat := ctN (fun i => decide (bitz S (i : Int) = 1)) n
theorem mask2 : ∀ n : Nat, n < 128 → ∀ w : Nat, w < 7 → 0 ≤ jand (n : Int) (jshl 2 (jand (w : Int) 31) - 1) ∧ jand (n : Int) (jshl 2 (jand (w : Int) 31) - 1) ≤ 127 ∧ pcS (jand (n : Int) (jshl 2 (jand (w : Int) 31) - 1)) = bN (n : Int) (w + 1) := by decide +kernel
theorem mask1 : ∀ n : Nat, n < 128 → ∀ w : Nat, w < 7 → 0 ≤ jand (n : Int) (jshl 1 (jand (w : Int) 31) - 1) ∧ jand (n : Int) (jshl 1 (jand (w : Int) 31) - 1) ≤ 127 ∧ pcS (jand (n : Int) (jshl 1 (jand (w : Int) 31) - 1)) = bN (n : Int) w := by decide +kernel
theorem mask0 : ∀ n : Nat, n < 128 → jand (n : Int) 0 = 0 := by decide +kernel
theorem bN_s {S : Int} {n : Nat} : bN S (n + 1) = bN S n + (if bitz S (n : Int) = 1 then 1 else 0) := by
  show ctN _ n + (if decide (bitz S (n : Int) = 1) = true then 1 else 0) = _
  by_cases h : bitz S (n : Int) = 1
  · rw [if_pos (decide_eq_true h), if_pos h]
    rfl
  · rw [if_neg (by rw [decide_eq_false h]; decide), if_neg h]
    rfl
end
/-! draft 655.countw -/
section
/-! ===== days counted by rules ===== -/
def FW (r : Nat → Int) (x : Int) : Int := if x < r 0 then 0 else (((x + 5) / 7 - (r 0 + 5) / 7 + r 2 - 1) / r 2) * ((pcS (r 3) : Nat) : Int) + (if ((x + 5) / 7 - (r 0 + 5) / 7) % r 2 = 0 then ((bN (r 3) ((x + 5) % 7 + 1).toNat : Nat) : Int) else 0) - ((bN (r 3) ((r 0 + 5) % 7).toNat : Nat) : Int)
section CNW
variable {O : Nat → Option va_E} {f k : Nat} {M : xM} {x a b : Int}
theorem countByWeeks_ok (h : Wd M) (hk : k < 12) (hr : RVg (iV M (30 + 6 * k))) (k2 : iV M (30 + 6 * k) 1 = 2) (x0 : -100 ≤ x) (x1 : x ≤ 200000) : f_Rule_countByWeeks O f (30 + 6 * k) x M = some (FW (iV M (30 + 6 * k)) x, M) := by
  obtain ⟨⟨g0, g1⟩, -, st, ⟨s0, s1⟩, sn, -⟩ := hr
  have st := st (by omega)
  obtain ⟨S, eS⟩ : ∃ S, S = iV M (30 + 6 * k) 3 := ⟨_, rfl⟩
  have sz : ((S.toNat : Nat) : Int) = S := Int.toNat_of_nonneg (by omega)
  unfold f_Rule_countByWeeks FW
  rw [a_Rule_first h hk]
  by_cases c : x < iV M (30 + 6 * k) 0
  · rw [lt_T c (by omega) (by omega), if_pos c]
  · have m1 := mask1 S.toNat (by omega) ((iV M (30 + 6 * k) 0 + 5) % 7).toNat (by omega)
    have m2 := mask2 S.toNat (by omega) ((x + 5) % 7).toNat (by omega)
    have m0 := mask0 S.toNat (by omega)
    rw [sz, Int.toNat_of_nonneg (by omega)] at m1 m2
    rw [sz] at m0
    -- from the part on
    have p66 : ∀ (wh pt y : Int), 0 ≤ jand S pt → jand S pt ≤ 127 → ((pcS (jand S pt) : Nat) : Int) = y → f_Rule_countByWeeks_66 O f (30 + 6 * k) wh pt M = some (wh * ((pcS S : Nat) : Int) + y - ((bN S ((iV M (30 + 6 * k) 0 + 5) % 7).toNat : Nat) : Int), M) := fun wh pt y p0 p1 py => by
      unfold f_Rule_countByWeeks_66
      rw [a_Rule_first h hk, xc_of (e_weekdayOf (by omega) (by omega)), a_Rule_days h hk, ← eS, bitCount_ok (by omega) (by omega), xcl_e, a_Rule_days h hk, ← eS, bitCount_ok p0 p1, xcl_e, a_Rule_days h hk, ← eS, bitCount_ok m1.1 m1.2.1, xcl_e, py, m1.2.2]
    have e0 := Int.emod_nonneg ((x + 5) / 7 - (iV M (30 + 6 * k) 0 + 5) / 7) (show iV M (30 + 6 * k) 2 ≠ 0 by omega)
    have e1 := Int.emod_lt_of_pos ((x + 5) / 7 - (iV M (30 + 6 * k) 0 + 5) / 7) (show 0 < iV M (30 + 6 * k) 2 by omega)
    rw [lt_F (by omega) (by omega) (by omega), if_neg c, a_Rule_step h hk, le_T (by omega) (by omega) (by omega), xc_of (e_weekOf (by omega) (by omega)), a_Rule_first h hk, xc_of (e_weekOf (by omega) (by omega)), a_Rule_step h hk, a_Rule_step h hk, eq_F (by omega) (by omega) (by omega) (by omega) (by omega), jdiv_e (by omega) (by omega) (by omega) (by omega), xlet_e, a_Rule_step h hk, eq_F (by omega) (by omega) (by omega) (by omega) (by omega), jrem_e (by omega) (by omega) (by omega) (by omega), xlet_e, ← eS]
    by_cases z : ((x + 5) / 7 - (iV M (30 + 6 * k) 0 + 5) / 7) % iV M (30 + 6 * k) 2 = 0
    · rw [eq_T z, if_pos z, xc_of (e_weekdayOf (by omega) (by omega))]
      exact p66 _ _ _ m2.1 m2.2.1 (by rw [m2.2.2, show ((x + 5) % 7).toNat + 1 = ((x + 5) % 7 + 1).toNat by omega])
    · rw [eq_F z (by omega) (by omega) (by omega) (by omega), if_neg z]
      refine p66 _ _ _ (by rw [m0]; omega) (by rw [m0]; omega) ?_
      rw [m0]
      decide
theorem FW_step {r : Nat → Int} (hr : RVg r) (k2 : r 1 = 2) (x0 : r 0 ≤ x) : (hol r x → FW r x = FW r (x - 1) + 1) ∧ (¬ hol r x → FW r x = FW r (x - 1)) := by
  obtain ⟨⟨g0, g1⟩, -, st, ⟨s0, s1⟩, sn, -⟩ := hr
  have st := st (by omega)
  have hh := hol2 (d := x) k2
  obtain ⟨s, es⟩ : ∃ s, s = r 2 := ⟨_, rfl⟩
  obtain ⟨S, eS⟩ : ∃ S, S = r 3 := ⟨_, rfl⟩
  rw [← es, ← eS] at hh
  have bs : ∀ n : Nat, bN S (n + 1) = bN S n + (if bitz S (n : Int) = 1 then 1 else 0) := fun n => bN_s
  unfold FW
  rw [if_neg (show ¬ x < r 0 by omega), ← es, ← eS, hh]
  have w1 := bs ((x + 5) % 7).toNat
  rw [Int.toNat_of_nonneg (by omega), show ((x + 5) % 7).toNat + 1 = ((x + 5) % 7 + 1).toNat by omega] at w1
  by_cases g : x = r 0
  · rw [if_pos (show x - 1 < r 0 by omega), ← g, Int.sub_self, show (0 + s - 1) / s = 0 from Int.ediv_eq_zero_of_lt (by omega) (by omega), Int.zero_emod, if_pos rfl, w1]
    by_cases z : bitz S ((x + 5) % 7) = 1
    · rw [if_pos z]
      exact ⟨fun _ => by omega, fun n => (n ⟨z, rfl⟩).elim⟩
    · rw [if_neg z]
      exact ⟨fun n => (z n.1).elim, fun _ => by omega⟩
  · rw [if_neg (show ¬ x - 1 < r 0 by omega)]
    by_cases wz : (x + 5) % 7 = 0
    · -- a week begins
      obtain ⟨W, eW⟩ : ∃ W, W = (x + 5) / 7 - (r 0 + 5) / 7 := ⟨_, rfl⟩
      have e1 : (x - 1 + 5) / 7 - (r 0 + 5) / 7 = W - 1 := by omega
      have e2 : (x - 1 + 5) % 7 = 6 := by omega
      rw [e1, e2, ← eW]
      rw [← eW] at hh
      have dv := div_step (u := W + s - 1) (s := s) (by omega)
      have em : (W + s - 1) % s = (W - 1) % s := by rw [show W + s - 1 = (W - 1) + s by omega, Int.add_emod_right]
      rw [em] at dv
      have b1 : bN S ((x + 5) % 7 + 1).toNat = (if bitz S ((x + 5) % 7) = 1 then 1 else 0) := by
        rw [w1, wz]
        show 0 + _ = _
        omega
      have b7 : bN S (6 + 1 : Int).toNat = pcS S := rfl
      obtain ⟨q0, eq0⟩ : ∃ q0, q0 = (W - 1 + s - 1) / s := ⟨_, rfl⟩
      rw [show W + s - 1 - 1 = W - 1 + s - 1 by omega, ← eq0] at dv
      rw [b1, b7, ← eq0]
      have q1 : (W + s - 1) / s * ((pcS S : Nat) : Int) = q0 * ((pcS S : Nat) : Int) + (if (W - 1) % s = 0 then ((pcS S : Nat) : Int) else 0) := by
        by_cases z : (W - 1) % s = 0
        · rw [if_pos z] at dv
          rw [if_pos z, show (W + s - 1) / s = q0 + 1 by omega, Int.add_mul]
          omega
        · rw [if_neg z] at dv
          rw [if_neg z, show (W + s - 1) / s = q0 by omega]
          omega
      rw [q1]
      by_cases z1 : W % s = 0
      · rw [if_pos z1]
        by_cases z : bitz S ((x + 5) % 7) = 1
        · rw [if_pos z]
          exact ⟨fun _ => by omega, fun n => (n ⟨z, z1⟩).elim⟩
        · rw [if_neg z]
          exact ⟨fun n => (z n.1).elim, fun _ => by omega⟩
      · rw [if_neg z1]
        exact ⟨fun n => (z1 n.2).elim, fun _ => by omega⟩
    · have e1 : (x - 1 + 5) / 7 = (x + 5) / 7 := by omega
      have e2 : ((x - 1 + 5) % 7 + 1).toNat = ((x + 5) % 7).toNat := by omega
      rw [e1, e2, w1]
      by_cases z1 : ((x + 5) / 7 - (r 0 + 5) / 7) % s = 0
      · rw [if_pos z1, if_pos z1]
        by_cases z : bitz S ((x + 5) % 7) = 1
        · rw [if_pos z]
          exact ⟨fun _ => by omega, fun n => (n ⟨z, z1⟩).elim⟩
        · rw [if_neg z]
          exact ⟨fun n => (z n.1).elim, fun _ => by omega⟩
      · rw [if_neg z1, if_neg z1]
        exact ⟨fun n => (z1 n.2).elim, fun _ => rfl⟩
/-- the months' loop -/
theorem cm_46 {s fm lm : Int} (h : Wd M) (hk : k < 12) (hr : RVg (iV M (30 + 6 * k))) (k3 : 3 ≤ iV M (30 + 6 * k) 1) (es : s = sdR (iV M (30 + 6 * k))) (s0 : 1 ≤ s) (s1 : s ≤ 1200) (ef : fm = cMonth (iV M (30 + 6 * k) 0)) (a0 : iV M (30 + 6 * k) 0 ≤ a) (ab : a ≤ b) (b1 : b ≤ 146000) (el : lm = cMonth b) (hf : 100 ≤ f) : ∀ (n t : Nat) (y c : Int), 4800 - y ≤ n → n < t → cMonth a ≤ y → y ≤ 10000 → (y - fm) % s = 0 → c = ((nD (fun d => hol (iV M (30 + 6 * k)) d ∧ cMonth d < y) a b : Nat) : Int) → f_Rule_countByMonths_46 O f t (30 + 6 * k) a b s lm c y M = some (((nD (hol (iV M (30 + 6 * k))) a b : Nat) : Int), M) := by
  have hr' := hr
  obtain ⟨⟨g0, g1⟩, -⟩ := hr'
  have ca := c_in (d := a) (by omega) (by omega)
  have cb := c_in (d := b) (by omega) (by omega)
  have mono : ∀ d, a ≤ d → d ≤ b → cMonth d ≤ lm := fun d q0 q1 => by rw [el]; exact c_month_mono (by omega) q1 (by omega)
  have done : ∀ y, lm < y → nD (fun d => hol (iV M (30 + 6 * k)) d ∧ cMonth d < y) a b = nD (hol (iV M (30 + 6 * k))) a b := fun y hy => nD_of (fun d q0 q1 => ⟨fun z => z.1, fun z => ⟨z, by have := mono d q0 q1; omega⟩⟩)
  intro n
  induction n with
  | zero =>
    intro t y c h1 h2 y0 y1 hy hc
    obtain ⟨t, rfl⟩ : ∃ n', t = n' + 1 := ⟨t - 1, by omega⟩
    rw [done y (by omega)] at hc
    show (if yw lm < yw y then _ else _) = _
    rw [lt_T (by omega) (by omega) (by omega), hc]
  | succ n ih =>
    intro t y c h1 h2 y0 y1 hy hc
    obtain ⟨t, rfl⟩ : ∃ n', t = n' + 1 := ⟨t - 1, by omega⟩
    show (if yw lm < yw y then _ else _) = _
    by_cases g : lm < y
    · rw [done y g] at hc
      rw [lt_T g (by omega) (by omega), hc]
    · obtain ⟨x, ex, ox⟩ := dayInMonth_ok (O := O) (f := f) (m := y) h hk hr k3 (by omega) (by omega) hf
      have cy := c_begin_r (m := y) (by omega) (by omega)
      have ce := c_end (m := y) (by omega) (by omega)
      have lr := cLen_r y
      have inm : ∀ e, a ≤ e → e ≤ b → cMonth e = y → cBegin y ≤ e ∧ e < cBegin y + cLen y := fun e q0 q1 q2 => by
        have c := c_in (d := e) (by omega) (by omega)
        rw [q2] at c
        exact ⟨c.2.2.1, c.2.2.2⟩
      have nl := nD_le (P := fun d => hol (iV M (30 + 6 * k)) d ∧ cMonth d < y) (a := a) (b := b) (by omega)
      -- months up to the next one
      have nxt : ∀ d, a ≤ d → d ≤ b → (hol (iV M (30 + 6 * k)) d ∧ cMonth d < y + s ↔ (hol (iV M (30 + 6 * k)) d ∧ cMonth d < y) ∨ (cMonth d = y ∧ mcR (iV M (30 + 6 * k)) d)) := fun d q0 q1 => by
        constructor
        · rintro ⟨z1, z2⟩
          obtain ⟨w1, w2⟩ := (hol3 k3).mp z1
          rcases Int.lt_trichotomy (cMonth d) y with q | q | q
          · exact Or.inl ⟨z1, q⟩
          · exact Or.inr ⟨q, w2⟩
          · rw [← ef, ← es] at w1
            exact (mod_gap (by omega) hy q z2 w1).elim
        · rintro (⟨z1, z2⟩ | ⟨z1, z2⟩)
          · exact ⟨z1, by omega⟩
          · exact ⟨(hol3 k3).mpr ⟨by rw [z1, ← ef, ← es]; exact hy, z2⟩, by omega⟩
      have go : ∀ c', c' = ((nD (fun d => hol (iV M (30 + 6 * k)) d ∧ cMonth d < y + s) a b : Nat) : Int) → f_Rule_countByMonths_76 O f (f_Rule_countByMonths_46 O f t) (30 + 6 * k) a b s lm c' y M = some (((nD (hol (iV M (30 + 6 * k))) a b : Nat) : Int), M) := fun c' hc' => ih t (y + s) c' (by omega) (by omega) (by omega) (by omega) (mod_add hy) hc'
      have skip : (∀ d, a ≤ d → d ≤ b → cMonth d = y → ¬ mcR (iV M (30 + 6 * k)) d) → c = ((nD (fun d => hol (iV M (30 + 6 * k)) d ∧ cMonth d < y + s) a b : Nat) : Int) := fun hn => by
        rw [hc]
        congr 1
        exact nD_of (fun d q0 q1 => by
          rw [nxt d q0 q1]
          exact ⟨fun z => Or.inl z, fun z => z.elim id (fun z => (hn d q0 q1 z.1 z.2).elim)⟩)
      rw [lt_F (by omega) (by omega) (by omega), a_Rule_is h hk, ex, xcl_e]
      rcases ox with ⟨rfl, q⟩ | ⟨x0, x1, x2, x3⟩
      · rw [lt_T (by omega) (by omega) (by omega)]
        exact go c (skip (fun d q0 q1 q2 => q d (inm d q0 q1 q2).1 (inm d q0 q1 q2).2))
      · by_cases c1 : x < a
        · rw [lt_T c1 (by omega) (by omega)]
          exact go c (skip (fun d q0 q1 q2 z => by have := x3 d (inm d q0 q1 q2).1 (inm d q0 q1 q2).2 z; omega))
        · rw [lt_F (by omega) (by omega) (by omega)]
          by_cases c2 : b < x
          · rw [lt_T c2 (by omega) (by omega)]
            exact go c (skip (fun d q0 q1 q2 z => by have := x3 d (inm d q0 q1 q2).1 (inm d q0 q1 q2).2 z; omega))
          · have cx := c_uniq (m := y) (d := x) (by omega) (by omega) x0 x1 (by omega)
            rw [lt_F (by omega) (by omega) (by omega)]
            refine go (c + 1) ?_
            have one := nD_one (P := fun d => hol (iV M (30 + 6 * k)) d ∧ cMonth d < y + s) (Q := fun d => hol (iV M (30 + 6 * k)) d ∧ cMonth d < y) (a := a) (b := b) (x := x) (fun d q0 q1 => by
              rw [nxt d q0 q1]
              constructor
              · rintro (z | ⟨z1, z2⟩)
                · exact Or.inl z
                · exact Or.inr (x3 d (inm d q0 q1 z1).1 (inm d q0 q1 z1).2 z2)
              · rintro (z | z)
                · exact Or.inl z
                · exact Or.inr (by rw [z]; exact ⟨cx, x2⟩)) ⟨by omega, by omega⟩ (fun z => by
              have := z.2
              omega)
            rw [one, hc]
            omega
theorem countG_ok (h : Wd M) (hk : k < 12) (hr : RVg (iV M (30 + 6 * k))) (a0 : -100000 ≤ a) (a1 : a ≤ 300000) (b0 : -100000 ≤ b) (b1 : b ≤ 300000) (hf : 10000 ≤ f) : f_Rule_count O f (30 + 6 * k) a b M = some (((nD (Dg (iV M (30 + 6 * k))) a b : Nat) : Int), M) := by
  have hr' := hr
  obtain ⟨⟨g0, g1⟩, ⟨k0, k5⟩, st, -, -, -, -, -, ⟨l0, l1⟩, s00⟩ := hr'
  obtain ⟨le, ele⟩ : ∃ le, le = max a (iV M (30 + 6 * k) 0) := ⟨_, rfl⟩
  obtain ⟨mo, emo⟩ : ∃ mo, mo = min b (iV M (30 + 6 * k) 7) := ⟨_, rfl⟩
  unfold f_Rule_count
  rw [a_Rule_first h hk, xc_of (e_max (by omega) (by omega) (by omega) (by omega)), a_Rule_last h hk, xc_of (e_min (by omega) (by omega) (by omega) (by omega)), ← ele, ← emo]
  by_cases g : le ≤ mo
  · -- only these days can be
    have cut : nD (Dg (iV M (30 + 6 * k))) a b = nD (hol (iV M (30 + 6 * k))) le mo := by
      rw [nD_add (c := le - 1) (by omega) (by omega), nD_0 (fun d q0 q1 z => by have := z.1; omega), show le - 1 + 1 = le by omega, nD_add (c := mo) (by omega) (by omega), nD_0 (a := mo + 1) (fun d q0 q1 z => by have := z.2.1; omega), nD_of (Q := hol (iV M (30 + 6 * k))) (fun d q0 q1 => ⟨fun z => z.2.2, fun z => ⟨by omega, by omega, z⟩⟩)]
      omega
    rw [le_T g (by omega) (by omega), a_Rule_kind h hk, cut]
    have one : iV M (30 + 6 * k) 1 = 0 → f_Rule_count_42 O f (30 + 6 * k) le M = some (((nD (hol (iV M (30 + 6 * k))) le mo : Nat) : Int), M) := fun c0 => by
      have h0 : ∀ e, hol (iV M (30 + 6 * k)) e ↔ e = iV M (30 + 6 * k) 0 := fun e => by
        unfold hol
        rw [if_pos c0]
      unfold f_Rule_count_42
      rw [a_Rule_first h hk]
      by_cases z : le = iV M (30 + 6 * k) 0
      · have e1 := nD_one (P := hol (iV M (30 + 6 * k))) (Q := fun _ => False) (a := le) (b := mo) (x := le) (fun d _ _ => by
          rw [h0, z]
          exact ⟨fun q => Or.inr q, fun q => q.elim (fun w => w.elim) id⟩) ⟨by omega, by omega⟩ id
        rw [nD_0 (P := fun _ => False) (fun _ _ _ q => q)] at e1
        rw [eq_T z, e1]
        rfl
      · rw [eq_F z (by omega) (by omega) (by omega) (by omega), nD_0 (fun d q0 q1 q => by have := (h0 d).mp q; omega)]
        rfl
    by_cases c0 : iV M (30 + 6 * k) 1 = 0
    · rw [eq_T c0]
      exact one c0
    · have st' := st c0
      rw [eq_F c0 (by omega) (by omega) (by omega) (by omega), a_Rule_step h hk, le_T (by omega) (by omega) (by omega), a_Rule_kind h hk]
      by_cases c1 : iV M (30 + 6 * k) 1 = 1
      · have h1 : ∀ e, hol (iV M (30 + 6 * k)) e ↔ (e - iV M (30 + 6 * k) 0) % iV M (30 + 6 * k) 2 = 0 := fun e => by
          unfold hol
          rw [if_neg c0, if_pos c1]
        have tel := nD_tel (P := hol (iV M (30 + 6 * k))) (F := fun d => (d - iV M (30 + 6 * k) 0) / iV M (30 + 6 * k) 2) (a := le) (mo - le + 1).toNat mo (by omega) (fun d q0 q1 => by
          have ds := div_step (u := d - iV M (30 + 6 * k) 0) (s := iV M (30 + 6 * k) 2) (by omega)
          rw [h1]
          refine ⟨fun z => ?_, fun z => ?_⟩
          · rw [if_pos z] at ds
            show (d - iV M (30 + 6 * k) 0) / iV M (30 + 6 * k) 2 = (d - 1 - iV M (30 + 6 * k) 0) / iV M (30 + 6 * k) 2 + 1
            rw [show d - 1 - iV M (30 + 6 * k) 0 = d - iV M (30 + 6 * k) 0 - 1 by omega]
            omega
          · rw [if_neg z] at ds
            show (d - iV M (30 + 6 * k) 0) / iV M (30 + 6 * k) 2 = (d - 1 - iV M (30 + 6 * k) 0) / iV M (30 + 6 * k) 2
            rw [show d - 1 - iV M (30 + 6 * k) 0 = d - iV M (30 + 6 * k) 0 - 1 by omega]
            omega)
        rw [eq_T c1, a_Rule_first h hk, a_Rule_step h hk, xc_of (e_floorDiv (by omega) (by omega) (by omega) (by omega)), a_Rule_first h hk, a_Rule_step h hk, xc_of (e_floorDiv (by omega) (by omega) (by omega) (by omega)), tel]
      · rw [eq_F c1 (by omega) (by omega) (by omega) (by omega), a_Rule_kind h hk]
        by_cases c2 : iV M (30 + 6 * k) 1 = 2
        · have tel := nD_tel (P := hol (iV M (30 + 6 * k))) (F := FW (iV M (30 + 6 * k))) (a := le) (mo - le + 1).toNat mo (by omega) (fun d q0 q1 => FW_step hr c2 (by omega))
          rw [eq_T c2, a_Rule_is h hk, countByWeeks_ok h hk hr c2 (by omega) (by omega), xcl_e, a_Rule_is h hk, countByWeeks_ok h hk hr c2 (by omega) (by omega), xcl_e, tel]
        · have k3 : 3 ≤ iV M (30 + 6 * k) 1 := by omega
          obtain ⟨em, m0, m1⟩ := monthStep_ok (O := O) (f := f) h hk hr k3
          have cf := c_in (d := le) (by omega) (by omega)
          have cg := c_in (d := iV M (30 + 6 * k) 0) (by omega) (by omega)
          have cl := c_in (d := mo) (by omega) (by omega)
          have sm := step_mod (a := cMonth (iV M (30 + 6 * k) 0)) (x := cMonth le) (s := sdR (iV M (30 + 6 * k))) (by omega)
          have e0 := Int.emod_nonneg (cMonth (iV M (30 + 6 * k) 0) - cMonth le) (show sdR (iV M (30 + 6 * k)) ≠ 0 by omega)
          have e1 := Int.emod_lt_of_pos (cMonth (iV M (30 + 6 * k) 0) - cMonth le) (show 0 < sdR (iV M (30 + 6 * k)) by omega)
          have loop := cm_46 (O := O) (f := f) (a := le) (b := mo) (lm := cMonth mo) h hk hr k3 rfl m0 m1 rfl (by omega) g (by omega) rfl (by omega) 4800 f (cMonth le + (cMonth (iV M (30 + 6 * k) 0) - cMonth le) % sdR (iV M (30 + 6 * k))) 0 (by omega) (by omega) (by omega) (by omega) sm.1 (by
            rw [nD_0 (fun d q0 q1 z => ?_)]
            · rfl
            · have mm := c_month_mono (d := le) (e := d) (by omega) q0 (by omega)
              exact sm.2 (cMonth d) mm z.2 ((hol3 k3).mp z.1).1)
          have body : f_Rule_countByMonths O f (30 + 6 * k) le mo M = some (((nD (hol (iV M (30 + 6 * k))) le mo : Nat) : Int), M) := by
            unfold f_Rule_countByMonths
            rw [a_Rule_is h hk, em, xcl_e, xc_of (e_monthOf (by omega) (by omega)), xc_of (e_monthOf (by omega) (by omega)), le_T m0 (by omega) (by omega), a_Rule_first h hk, xc_of (e_monthOf (by omega) (by omega)), xc_of (e_floorMod (by omega) (by omega) (by omega) (by omega))]
            exact loop
          rw [eq_F c2 (by omega) (by omega) (by omega) (by omega), a_Rule_is h hk, body, xcl_e]
  · rw [le_F (by omega) (by omega) (by omega), nD_0 (fun d q0 q1 z => by have := z.1; have := z.2.1; omega)]
    rfl
end CNW
end
/-! draft 656.settleg -/
section
/-! ===== the last day by the end ===== -/
theorem hol_of {r r' : Nat → Int} (h : ∀ j, j ≤ 4 → r' j = r j) : hol r' = hol r := by
  funext d
  unfold hol mcR sdR
  rw [h 0 (by decide), h 1 (by decide), h 2 (by decide), h 3 (by decide), h 4 (by decide)]
/-- the last day is right -/
def SO (r : Nat → Int) : Prop := ∀ d, r 0 ≤ d → d ≤ 146000 → (Dg r d ↔ hol r d ∧ (r 5 = 1 → ((nD (hol r) (r 0) d : Nat) : Int) ≤ r 6) ∧ (r 5 = 2 → d ≤ r 6))
section STG
variable {O : Nat → Option va_E} {f k : Nat} {M : xM} {P : Int → Prop} {a b c w : Int}
theorem nD_mono (h1 : a ≤ b + 1) (h2 : b ≤ c) : nD P a b ≤ nD P a c := by
  rw [nD_add (c := b) (b := c) h1 h2]
  omega
theorem nD_flat (h1 : a ≤ b + 1) (h2 : b ≤ c) (h : ∀ d, b < d → d ≤ c → ¬ P d) : nD P a c = nD P a b := by
  rw [nD_add (c := b) (b := c) h1 h2, nD_0 (a := b + 1) (fun d q0 q1 => h d (by omega) q1)]
  omega
theorem nD_up (h1 : a ≤ b + 1) (h2 : b < c) (hc : P c) (h : ∀ d, b < d → d < c → ¬ P d) : nD P a c = nD P a b + 1 := by
  rw [(nD_last (P := P) (a := a) (b := c) (by omega)).1 hc, nD_flat (c := c - 1) h1 (by omega) (fun d q0 q1 => h d q0 (by omega))]
theorem dbpG_ok (h : Wd M) (hk : k < 12) (hr : RVg (iV M (30 + 6 * k))) (w0 : 0 ≤ w) (w1 : w ≤ 1000) (hf : 10000 ≤ f) : ∃ x, f_Rule_dayByPlace O f (30 + 6 * k) w M = some (x, M) ∧ ((x = -1 ∧ ∀ e, iV M (30 + 6 * k) 0 ≤ e + 1 → ((nD (Dg (iV M (30 + 6 * k))) (iV M (30 + 6 * k) 0) e : Nat) : Int) ≤ w) ∨ (Dg (iV M (30 + 6 * k)) x ∧ ((nD (Dg (iV M (30 + 6 * k))) (iV M (30 + 6 * k) 0) x : Nat) : Int) = w + 1)) := by
  have hr' := hr
  obtain ⟨⟨g0, g1⟩, -, -, -, -, -, -, -, ⟨l0, l1⟩, -⟩ := hr'
  obtain ⟨r, er⟩ : ∃ r, r = iV M (30 + 6 * k) := ⟨_, rfl⟩
  have key : ∀ (n t : Nat) (v2 j : Int), 0 ≤ j → j + n = max j w → j ≤ 1000 → n < t → ((v2 = -1 ∧ ∀ e, r 0 ≤ e + 1 → ((nD (Dg r) (r 0) e : Nat) : Int) ≤ j) ∨ (Dg r v2 ∧ ((nD (Dg r) (r 0) v2 : Nat) : Int) = j + 1)) → j ≤ w → ∃ x, f_Rule_dayByPlace_11 O f t (30 + 6 * k) w v2 j M = some (x, M) ∧ ((x = -1 ∧ ∀ e, r 0 ≤ e + 1 → ((nD (Dg r) (r 0) e : Nat) : Int) ≤ w) ∨ (Dg r x ∧ ((nD (Dg r) (r 0) x : Nat) : Int) = w + 1)) := by
    intro n
    induction n with
    | zero =>
      intro t v2 j j0 j1 j2 ht hv jw
      obtain ⟨t, rfl⟩ : ∃ n', t = n' + 1 := ⟨t - 1, by omega⟩
      have e : j = w := by omega
      refine ⟨v2, ?_, by rw [← e]; exact hv⟩
      show (if yw w ≤ yw j then _ else _) = _
      rw [le_T (by omega) (by omega) (by omega)]
    | succ n ih =>
      intro t v2 j j0 j1 j2 ht hv jw
      obtain ⟨t, rfl⟩ : ∃ n', t = n' + 1 := ⟨t - 1, by omega⟩
      show ∃ x, (if yw w ≤ yw j then _ else _) = _ ∧ _
      rw [le_F (by omega) (by omega) (by omega)]
      rcases hv with ⟨rfl, q⟩ | ⟨q1, q2⟩
      · rw [eq_T rfl]
        exact ⟨-1, rfl, Or.inl ⟨rfl, fun e he => by have := q e he; omega⟩⟩
      · have qb := q1
        rw [er] at qb
        obtain ⟨z0, z1, -⟩ := qb
        obtain ⟨x, ex, ox⟩ := nextG_ok (O := O) (f := f) h hk hr (d := v2 + 1) (by omega) (by omega) hf
        rw [eq_F (by omega) (by omega) (by omega) (by omega) (by omega), a_Rule_is h hk, ex, xcl_e]
        rw [← er] at ox z0
        refine ih t x (j + 1) (by omega) (by omega) (by omega) (by omega) ?_ (by omega)
        rcases ox with ⟨y1, y2⟩ | ⟨y1, y2, y3⟩
        · refine Or.inl ⟨y1, fun e he => ?_⟩
          by_cases c : e ≤ v2
          · have := nD_mono (P := Dg r) (a := r 0) (b := e) (c := v2) he c
            omega
          · rw [nD_flat (b := v2) (by omega) (by omega) (fun d d0 d1 => y2 d (by omega))]
            omega
        · refine Or.inr ⟨y2, ?_⟩
          rw [nD_up (b := v2) (by omega) (by omega) y2 (fun d d0 d1 => y3 d (by omega) d1)]
          omega
  obtain ⟨y, ey, oy⟩ := nextG_ok (O := O) (f := f) h hk hr (d := iV M (30 + 6 * k) 0) (by omega) (by omega) hf
  rw [← er] at oy
  have kk := key w.toNat f y 0 (by omega) (by omega) (by omega) (by omega) (by
    rcases oy with ⟨y1, y2⟩ | ⟨y1, y2, y3⟩
    · refine Or.inl ⟨y1, fun e he => ?_⟩
      rw [nD_0 (fun d d0 d1 => y2 d d0)]
      omega
    · refine Or.inr ⟨y2, ?_⟩
      have := nD_up (P := Dg r) (a := r 0) (b := r 0 - 1) (c := y) (by omega) (by omega) y2 (fun d d0 d1 => y3 d (by omega) d1)
      rw [this, nD_e (by omega)]
      rfl) w0
  rw [er] at kk
  unfold f_Rule_dayByPlace
  rw [a_Rule_first h hk, a_Rule_is h hk, ey, xcl_e]
  exact kk
theorem settleG_ok (h : Wd M) (hk : k < 12) (hr : RVg (fun j => if j = 7 then 146000 else iV M (30 + 6 * k) j)) (hh : (iV M (30 + 6 * k) 5 = 0) ∨ (iV M (30 + 6 * k) 5 = 1 ∧ 1 ≤ iV M (30 + 6 * k) 6 ∧ iV M (30 + 6 * k) 6 ≤ 500) ∨ (iV M (30 + 6 * k) 5 = 2 ∧ -100 ≤ iV M (30 + 6 * k) 6 ∧ iV M (30 + 6 * k) 6 ≤ 146000)) (hf : 10000 ≤ f) : ∃ M', f_Rule_settle O f (30 + 6 * k) M = some ((), M') ∧ Un (fun a => a ≠ 30 + 6 * k) M M' ∧ (∀ j, j ≠ 7 → iV M' (30 + 6 * k) j = iV M (30 + 6 * k) j) ∧ RVg (iV M' (30 + 6 * k)) ∧ SO (iV M' (30 + 6 * k)) := by
  -- a rule by its last day
  have rv : ∀ N : xM, (∀ j, j ≠ 7 → iV N (30 + 6 * k) j = iV M (30 + 6 * k) j) → -100 ≤ iV N (30 + 6 * k) 7 → iV N (30 + 6 * k) 7 ≤ 146000 → RVg (iV N (30 + 6 * k)) := fun N e l0 l1 => by
    obtain ⟨q1, q2, q3, q4, q5, q6, q7, q8, q9, q10⟩ := hr
    unfold RVg
    rw [e 0 (by decide), e 1 (by decide), e 2 (by decide), e 3 (by decide), e 4 (by decide)]
    exact ⟨q1, q2, q3, q4, q5, q6, q7, q8, ⟨l0, l1⟩, q10⟩
  have f0 : 10 ≤ iV M (30 + 6 * k) 0 ∧ iV M (30 + 6 * k) 0 ≤ 146000 := hr.1
  have r5 := iV_r M (30 + 6 * k) 5
  -- the first writing
  have first : ∀ v : Int, -100 ≤ v → v ≤ 146000 → (iV M (30 + 6 * k) 5 = 2 → v = iV M (30 + 6 * k) 6) → (iV M (30 + 6 * k) 5 ≠ 2 → v = 146000) → ∃ M', f_Rule_settle_18 O f (30 + 6 * k) (30 + 6 * k) v M = some ((), M') ∧ Un (fun a => a ≠ 30 + 6 * k) M M' ∧ (∀ j, j ≠ 7 → iV M' (30 + 6 * k) j = iV M (30 + 6 * k) j) ∧ RVg (iV M' (30 + 6 * k)) ∧ SO (iV M' (30 + 6 * k)) := by
    intro v v0 v1 v2 vn
    obtain ⟨N, eN⟩ : ∃ N, N = iS M (30 + 6 * k) 7 v := ⟨_, rfl⟩
    have wN : Wd N := by rw [eN]; exact h
    have uN : Un (fun a => a ≠ 30 + 6 * k) M N := by rw [eN]; exact Un.rf.iS (by (try dsimp only); omega)
    have nv : ∀ j, j ≠ 7 → iV N (30 + 6 * k) j = iV M (30 + 6 * k) j := fun j hj => by rw [eN, iV_o (by omega)]
    have n7 : iV N (30 + 6 * k) 7 = v := by rw [eN, iV_s (by omega) (by omega)]
    have rN := rv N nv (by omega) (by omega)
    unfold f_Rule_settle_18
    rw [p_Rule_last h hk, ← eN, a_Rule_how wN hk, nv 5 (by decide)]
    by_cases c : iV M (30 + 6 * k) 5 = 1
    · have hn : 1 ≤ iV M (30 + 6 * k) 6 ∧ iV M (30 + 6 * k) 6 ≤ 500 := by omega
      have v14 := vn (by omega)
      obtain ⟨x, ex, ox⟩ := dbpG_ok (O := O) (f := f) (w := iV M (30 + 6 * k) 6 - 1) wN hk rN (by omega) (by omega) hf
      -- by the conditions alone
      have dh : ∀ d, iV M (30 + 6 * k) 0 ≤ d → d ≤ 146000 → (Dg (iV N (30 + 6 * k)) d ↔ hol (iV N (30 + 6 * k)) d) := fun d q0 q1 => ⟨fun z => z.2.2, fun z => ⟨by rw [nv 0 (by decide)]; exact q0, by rw [n7]; omega, z⟩⟩
      have cn : ∀ e, e ≤ 146000 → nD (Dg (iV N (30 + 6 * k))) (iV N (30 + 6 * k) 0) e = nD (hol (iV N (30 + 6 * k))) (iV N (30 + 6 * k) 0) e := fun e he => nD_of (fun d q0 q1 => dh d (by rw [← nv 0 (by decide)]; exact q0) (by omega))
      rw [eq_T c, a_Rule_number wN hk, nv 6 (by decide), a_Rule_is wN hk, ex, xcl_e]
      rcases ox with ⟨z1, z2⟩ | ⟨z1, z2⟩
      · rw [eq_T z1]
        refine ⟨N, rfl, uN, nv, rN, fun d q0 q1 => ?_⟩
        rw [nv 0 (by decide)] at q0
        rw [dh d q0 q1, nv 5 (by decide), nv 6 (by decide)]
        have zz := z2 d (by rw [nv 0 (by decide)]; omega)
        rw [cn d q1] at zz
        exact ⟨fun z => ⟨z, fun _ => by omega, fun z2 => by omega⟩, fun z => z.1⟩
      · have zb := z1
        obtain ⟨b0, b1, b2⟩ := zb
        rw [nv 0 (by decide)] at b0
        rw [n7] at b1
        obtain ⟨L, eL⟩ : ∃ L, L = iS N (30 + 6 * k) 7 x := ⟨_, rfl⟩
        have lv : ∀ j, j ≠ 7 → iV L (30 + 6 * k) j = iV M (30 + 6 * k) j := fun j hj => by rw [eL, iV_o (by omega)]; exact nv j hj
        have l7 : iV L (30 + 6 * k) 7 = x := by rw [eL, iV_s (by omega) (by omega)]
        have hl : hol (iV L (30 + 6 * k)) = hol (iV N (30 + 6 * k)) := hol_of (fun j hj => by rw [lv j (by omega), nv j (by omega)])
        rw [eq_F (by omega) (by omega) (by omega) (by omega) (by omega), p_Rule_last wN hk, ← eL]
        refine ⟨L, rfl, by rw [eL]; exact uN.iS (by (try dsimp only); omega), lv, rv L lv (by omega) (by omega), fun d q0 q1 => ?_⟩
        rw [lv 0 (by decide)] at q0
        rw [hl, lv 5 (by decide), lv 6 (by decide), lv 0 (by decide)]
        rw [cn x (by omega), nv 0 (by decide)] at z2
        unfold Dg
        rw [hl, lv 0 (by decide), l7]
        constructor
        · rintro ⟨w0, w1, w2⟩
          refine ⟨w2, fun _ => ?_, fun z => by omega⟩
          have := nD_mono (P := hol (iV N (30 + 6 * k))) (a := iV M (30 + 6 * k) 0) (b := d) (c := x) (by omega) w1
          omega
        · rintro ⟨w0, w1, -⟩
          refine ⟨q0, ?_, w0⟩
          by_cases g : d ≤ x
          · exact g
          · exfalso
            have m1 := nD_mono (P := hol (iV N (30 + 6 * k))) (a := iV M (30 + 6 * k) 0) (b := x) (c := d - 1) (by omega) (by omega)
            have m2 := (nD_last (P := hol (iV N (30 + 6 * k))) (a := iV M (30 + 6 * k) 0) (b := d) q0).1 w0
            have := w1 c
            omega
    · rw [eq_F c (by omega) (by omega) (by omega) (by omega)]
      refine ⟨N, rfl, uN, nv, rN, fun d q0 q1 => ?_⟩
      rw [nv 0 (by decide)] at q0
      unfold Dg
      rw [nv 5 (by decide), nv 6 (by decide), nv 0 (by decide), n7]
      constructor
      · rintro ⟨w0, w1, w2⟩
        exact ⟨w2, fun z => (c z).elim, fun z => by have := v2 z; omega⟩
      · rintro ⟨w0, -, w2⟩
        refine ⟨q0, ?_, w0⟩
        by_cases g : iV M (30 + 6 * k) 5 = 2
        · have := w2 g
          have := v2 g
          omega
        · have := vn g
          omega
  unfold f_Rule_settle
  rw [a_Rule_how h hk]
  by_cases c : iV M (30 + 6 * k) 5 = 2
  · rw [eq_T c, a_Rule_number h hk]
    exact first _ (by omega) (by omega) (fun _ => rfl) (fun z => (z c).elim)
  · rw [eq_F c (by omega) (by omega) (by omega) (by omega)]
    exact first _ (by omega) (by omega) (fun z => (c z).elim) (fun _ => rfl)
end STG
end
