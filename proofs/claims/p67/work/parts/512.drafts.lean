/-! draft 512.calc -/
section
/-! ===== the calendar's texts ===== -/
section CAL
variable {O : Nat → Option va_E} {f : Nat} {M : xM} {γ : Type}
theorem e_weekOf {d : Int} (h0 : -5 ≤ d) (h1 : d ≤ 1000000) : f_Days_weekOf O f d M = some ((d + 5) / 7, M) := by
  unfold f_Days_weekOf
  rw [jdiv_e (by omega) (by omega) (by omega) (by omega)]
theorem c_weekOf {d : Int} (h0 : -5 ≤ d) (h1 : d ≤ 1000000) {δ : Type} {A : _ → xM → Option δ} : xcl (f_Days_weekOf O f d M) A = A ((d + 5) / 7) (M) := xc_of (e_weekOf h0 h1) A
theorem e_weekBegin {d : Int} : f_Days_weekBegin O f d M = some (d * 7 - 5, M) := rfl
theorem c_weekBegin {d : Int} {δ : Type} {A : _ → xM → Option δ} : xcl (f_Days_weekBegin O f d M) A = A (d * 7 - 5) (M) := xc_of (e_weekBegin ) A
theorem e_weekdayOf {d : Int} (h0 : -5 ≤ d) (h1 : d ≤ 1000000) : f_Days_weekdayOf O f d M = some ((d + 5) % 7, M) := by
  unfold f_Days_weekdayOf
  rw [jrem_e (by omega) (by omega) (by omega) (by omega)]
theorem c_weekdayOf {d : Int} (h0 : -5 ≤ d) (h1 : d ≤ 1000000) {δ : Type} {A : _ → xM → Option δ} : xcl (f_Days_weekdayOf O f d M) A = A ((d + 5) % 7) (M) := xc_of (e_weekdayOf h0 h1) A
theorem e_max {a b : Int} (ha : -2147483648 ≤ a) (ha2 : a ≤ 2147483647) (hb : -2147483648 ≤ b) (hb2 : b ≤ 2147483647) : f_Math_max O f a b M = some (max a b, M) := by
  unfold f_Math_max
  rcases Int.lt_or_le a b with h | h
  · rw [lt_T h ha hb2, Int.max_eq_right (by omega)]
  · rw [lt_F h hb ha2, Int.max_eq_left h]
theorem c_max {a b : Int} (ha : -2147483648 ≤ a) (ha2 : a ≤ 2147483647) (hb : -2147483648 ≤ b) (hb2 : b ≤ 2147483647) {δ : Type} {A : _ → xM → Option δ} : xcl (f_Math_max O f a b M) A = A (max a b) (M) := xc_of (e_max ha ha2 hb hb2) A
theorem e_min {a b : Int} (ha : -2147483648 ≤ a) (ha2 : a ≤ 2147483647) (hb : -2147483648 ≤ b) (hb2 : b ≤ 2147483647) : f_Math_min O f a b M = some (min a b, M) := by
  unfold f_Math_min
  rcases Int.lt_or_le b a with h | h
  · rw [lt_T h hb ha2, Int.min_eq_right (by omega)]
  · rw [lt_F h ha hb2, Int.min_eq_left h]
theorem c_min {a b : Int} (ha : -2147483648 ≤ a) (ha2 : a ≤ 2147483647) (hb : -2147483648 ≤ b) (hb2 : b ≤ 2147483647) {δ : Type} {A : _ → xM → Option δ} : xcl (f_Math_min O f a b M) A = A (min a b) (M) := xc_of (e_min ha ha2 hb hb2) A
theorem e_abs {a : Int} (ha : -2147483647 ≤ a) (ha2 : a ≤ 2147483647) : f_Math_abs O f a M = some ((a.natAbs : Int), M) := by
  unfold f_Math_abs
  rcases Int.lt_or_le a 0 with h | h
  · rw [le_F h (by omega) (by omega), show ((a.natAbs : Int)) = -a by omega]
  · rw [le_T h (by omega) ha2, show ((a.natAbs : Int)) = a by omega]
theorem c_abs {a : Int} (ha : -2147483647 ≤ a) (ha2 : a ≤ 2147483647) {δ : Type} {A : _ → xM → Option δ} : xcl (f_Math_abs O f a M) A = A ((a.natAbs : Int)) (M) := xc_of (e_abs ha ha2) A
theorem xor_sign {a b : Int} (ha : -2147483648 ≤ a) (ha2 : a ≤ 2147483647) (hb : 0 < b) (hb2 : b ≤ 2147483647) : -2147483648 ≤ jxor a b ∧ jxor a b ≤ 2147483647 ∧ (0 ≤ jxor a b ↔ 0 ≤ a) := by
  refine ⟨(yr_of _).1, (yr_of _).2, ?_⟩
  unfold jxor
  have e : ∀ x : Int32, 0 ≤ x.toInt ↔ x.toBitVec.msb = false := by
    intro x
    show 0 ≤ x.toBitVec.toInt ↔ _
    rw [BitVec.msb_eq_toInt, decide_eq_false_iff_not]
    omega
  have ea := e (yw a)
  have eb := e (yw b)
  rw [yw_to ⟨ha, ha2⟩] at ea
  rw [yw_to ⟨by omega, hb2⟩] at eb
  rw [e, ea]
  show ((yw a).toBitVec ^^^ (yw b).toBitVec).msb = false ↔ _
  rw [BitVec.msb_xor, eb.mp (by omega)]
  simp
theorem e_floorMod {a b : Int} (ha : -2147483648 < a) (ha2 : a ≤ 2147483647) (hb : 0 < b) (hb2 : b ≤ 2147483647) : f_Math_floorMod O f a b M = some (a % b, M) := by
  unfold f_Math_floorMod
  obtain ⟨x1, x2, x3⟩ := xor_sign (a := a) (by omega) ha2 hb hb2
  have hr := Int.emod_nonneg a (show b ≠ 0 by omega)
  have hr2 := Int.emod_lt_of_pos a hb
  have ht : a - jdiv a b * b = a.tmod b := by
    rw [jdiv_t ha hb ha2 hb2, Int.tmod_def, Int.mul_comm]
  rw [eq_F (by omega) (by omega) (by omega) (by omega) (by omega), xlet_e, ht]
  rcases Int.lt_or_le a 0 with h | h
  · have e1 : a.tmod b = -((-a) % b) := by
      rw [← Int.tmod_eq_emod_of_nonneg (by omega : 0 ≤ -a), Int.neg_tmod, Int.neg_neg]
    have q0 := Int.emod_nonneg (-a) (show b ≠ 0 by omega)
    have q1 := Int.emod_lt_of_pos (-a) hb
    rw [le_F (by omega) (by omega) (by omega), e1]
    have q2 : (-a) % b = 0 ∧ a % b = 0 ∨ (-a) % b ≠ 0 ∧ a % b = b - (-a) % b := by
      have d1 := Int.emod_add_mul_ediv (-a) b
      by_cases hz : (-a) % b = 0
      · refine Or.inl ⟨hz, ?_⟩
        have : b ∣ -a := Int.dvd_of_emod_eq_zero hz
        exact Int.emod_eq_zero_of_dvd ((Int.dvd_neg).mp this)
      · refine Or.inr ⟨hz, ?_⟩
        have e2 : a = (b - (-a) % b) + b * (-((-a) / b) - 1) := by
          rw [Int.mul_sub, Int.mul_neg]
          omega
        have e3 : a % b = (b - (-a) % b) % b := by
          conv => lhs; rw [e2]
          exact Int.add_mul_emod_self_left _ _ _
        rw [e3]
        exact Int.emod_eq_of_lt (by omega) (by omega)
    rcases q2 with ⟨q, q'⟩ | ⟨q, q'⟩
    · rw [eq_T (by omega), q']
      congr 2
      omega
    · rw [eq_F (by omega) (by omega) (by omega) (by omega) (by omega), q']
      congr 2
      omega
  · rw [le_T (by omega) (by omega) (by omega), Int.tmod_eq_emod_of_nonneg h]
theorem c_floorMod {a b : Int} (ha : -2147483648 < a) (ha2 : a ≤ 2147483647) (hb : 0 < b) (hb2 : b ≤ 2147483647) {δ : Type} {A : _ → xM → Option δ} : xcl (f_Math_floorMod O f a b M) A = A (a % b) (M) := xc_of (e_floorMod ha ha2 hb hb2) A
theorem e_floorDiv {a b : Int} (ha : -2147483648 < a) (ha2 : a ≤ 2147483647) (hb : 0 < b) (hb2 : b ≤ 2147483647) : f_Math_floorDiv O f a b M = some (a / b, M) := by
  unfold f_Math_floorDiv
  obtain ⟨x1, x2, x3⟩ := xor_sign (a := a) (by omega) ha2 hb hb2
  rw [eq_F (by omega) (by omega) (by omega) (by omega) (by omega), xlet_e, jdiv_t ha hb ha2 hb2]
  rcases Int.lt_or_le a 0 with h | h
  · have e1 : a.tdiv b = -((-a) / b) := by
      rw [← Int.tdiv_eq_ediv_of_nonneg (by omega : 0 ≤ -a), Int.neg_tdiv, Int.neg_neg]
    have q0 : 0 ≤ (-a) / b := Int.ediv_nonneg (by omega) (by omega)
    have q1 : (-a) / b ≤ -a := Int.ediv_le_self _ (by omega)
    have d1 := Int.emod_add_mul_ediv (-a) b
    have d2 := Int.emod_nonneg (-a) (show b ≠ 0 by omega)
    have d3 := Int.emod_lt_of_pos (-a) hb
    have d4 : -((-a) / b) * b = a + (-a) % b := by
      rw [Int.neg_mul, Int.mul_comm]
      omega
    rw [le_F (by omega) (by omega) (by omega), e1, d4]
    by_cases hz : (-a) % b = 0
    · rw [eq_T (by omega)]
      congr 2
      exact (Int.ediv_eq_of_eq_mul_right (by omega) (by rw [Int.mul_neg]; omega)).symm
    · rw [eq_F (by omega) (by omega) (by omega) (by omega) (by omega)]
      congr 2
      have e2 : a = (b - (-a) % b) + b * (-((-a) / b) - 1) := by
        rw [Int.mul_sub, Int.mul_neg]
        omega
      have e3 : a / b = (b - (-a) % b) / b + (-((-a) / b) - 1) := by
        conv => lhs; rw [e2]
        exact Int.add_mul_ediv_left _ _ (by omega)
      rw [e3, Int.ediv_eq_zero_of_lt (a := b - (-a) % b) (b := b) (by omega) (by omega)]
      omega
  · rw [le_T (by omega) (by omega) (by omega), Int.tdiv_eq_ediv_of_nonneg h]
theorem c_floorDiv {a b : Int} (ha : -2147483648 < a) (ha2 : a ≤ 2147483647) (hb : 0 < b) (hb2 : b ≤ 2147483647) {δ : Type} {A : _ → xM → Option δ} : xcl (f_Math_floorDiv O f a b M) A = A (a / b) (M) := xc_of (e_floorDiv ha ha2 hb hb2) A
theorem e_monthOf {d : Int} (h0 : 0 ≤ d) (h1 : d < 146097) : f_Days_monthOf O f d M = some (cMonth d, M) := by
  have hc0 : 0 ≤ cC d := Int.emod_nonneg _ (by decide)
  have hc1 : cC d < 146097 := Int.emod_lt_of_pos _ (by decide)
  obtain ⟨y0, y1, i0, i1, -, -⟩ := cY_spec hc0 hc1
  unfold f_Days_monthOf
  rw [xlet_e, jrem_e (by omega) (by omega) (by omega) (by omega)]
  show xlet (jdiv (((cC d - (jdiv (cC d) 1460)) + (jdiv (cC d) 36524)) - (jdiv (cC d) 146096)) 365) _ = _
  rw [jdiv_e (a := cC d) (b := 1460) (by omega) (by omega) (by omega) (by omega), jdiv_e (a := cC d) (b := 36524) (by omega) (by omega) (by omega) (by omega), jdiv_e (a := cC d) (b := 146096) (by omega) (by omega) (by omega) (by omega), jdiv_e (b := 365) (by omega) (by omega) (by omega) (by omega), xlet_e]
  show xlet (cC d - (((365 * cY (cC d)) + (jdiv (cY (cC d)) 4)) - (jdiv (cY (cC d)) 100))) _ = _
  rw [jdiv_e (b := 4) (by omega) (by omega) (by omega) (by omega), jdiv_e (b := 100) (by omega) (by omega) (by omega) (by omega), xlet_e]
  show some ((((cY (cC d) * 12) + (jdiv ((5 * cI (cC d)) + 2) 153)) + 2) - (jdiv (((cY (cC d) * 12) + (jdiv ((5 * cI (cC d)) + 2) 153)) + 2) 4800) * 4800, M) = _
  rw [jdiv_e (b := 153) (by omega) (by omega) (by omega) (by omega), jrem_e (by omega) (by omega) (by omega) (by omega)]
  rfl
theorem c_monthOf {d : Int} (h0 : 0 ≤ d) (h1 : d < 146097) {δ : Type} {A : _ → xM → Option δ} : xcl (f_Days_monthOf O f d M) A = A (cMonth d) (M) := xc_of (e_monthOf h0 h1) A
theorem e_monthBegin {m : Int} (h0 : 0 ≤ m) (h1 : m < 100000) : f_Days_monthBegin O f m M = some (cBegin m, M) := by
  have hc0 : 0 ≤ cF m := Int.emod_nonneg _ (by decide)
  have hc1 : cF m < 4800 := Int.emod_lt_of_pos _ (by decide)
  have hy : 0 ≤ yB (cF m / 12) ∧ yB (cF m / 12) ≤ 150000 := by unfold yB; omega
  unfold f_Days_monthBegin
  rw [xlet_e, jrem_e (a := m - 2 + 4800) (b := 4800) (by omega) (by omega) (by omega) (by omega)]
  show xlet (jdiv ((153 * (cF m - (jdiv (cF m) 12) * 12)) + 2) 5) _ = _
  rw [jrem_e (a := cF m) (by omega) (by omega) (by omega) (by omega), jdiv_e (b := 5) (by omega) (by omega) (by omega) (by omega), xlet_e]
  show xlet ((((((365 * (jdiv (cF m) 12)) + (jdiv (jdiv (cF m) 12) 4)) - (jdiv (jdiv (cF m) 12) 100)) + (153 * (cF m % 12) + 2) / 5) + 60) - (jdiv (((((365 * (jdiv (cF m) 12)) + (jdiv (jdiv (cF m) 12) 4)) - (jdiv (jdiv (cF m) 12) 100)) + (153 * (cF m % 12) + 2) / 5) + 60) 146097) * 146097) _ = _
  rw [jdiv_e (a := cF m) (b := 12) (by omega) (by omega) (by omega) (by omega), jdiv_e (b := 4) (by omega) (by omega) (by omega) (by omega), jdiv_e (b := 100) (by omega) (by omega) (by omega) (by omega)]
  show xlet ((yB (cF m / 12) + (153 * (cF m % 12) + 2) / 5 + 60) - (jdiv (yB (cF m / 12) + (153 * (cF m % 12) + 2) / 5 + 60) 146097) * 146097) _ = _
  rw [jrem_e (by omega) (by omega) (by omega) (by omega)]
  rfl
theorem c_monthBegin {m : Int} (h0 : 0 ≤ m) (h1 : m < 100000) {δ : Type} {A : _ → xM → Option δ} : xcl (f_Days_monthBegin O f m M) A = A (cBegin m) (M) := xc_of (e_monthBegin h0 h1) A
theorem e_monthLength {m : Int} (h0 : 0 ≤ m) (h1 : m < 100000) : f_Days_monthLength O f m M = some (cLen m, M) := by
  unfold f_Days_monthLength
  rw [xlet_e, jrem_e (by omega) (by omega) (by omega) (by omega), jdiv_e (a := m) (b := 12) (by omega) (by omega) (by omega) (by omega), jrem_e (a := m / 12) (b := 4) (by omega) (by omega) (by omega) (by omega), jrem_e (a := m / 12) (b := 100) (by omega) (by omega) (by omega) (by omega), jrem_e (a := m / 12) (b := 400) (by omega) (by omega) (by omega) (by omega)]
  unfold cLen
  have hk : m % 12 = 0 ∨ m % 12 = 1 ∨ m % 12 = 2 ∨ m % 12 = 3 ∨ m % 12 = 4 ∨ m % 12 = 5 ∨ m % 12 = 6 ∨ m % 12 = 7 ∨ m % 12 = 8 ∨ m % 12 = 9 ∨ m % 12 = 10 ∨ m % 12 = 11 := by omega
  rcases hk with e | e | e | e | e | e | e | e | e | e | e | e
  case inr.inl =>
    rw [e, eq_T (by decide), if_pos rfl]
    by_cases h4 : m / 12 % 4 = 0
    · rw [eq_T h4, if_pos h4]
      by_cases h1 : m / 12 % 100 = 0
      · rw [eq_T h1, if_pos h1]
        by_cases h5 : m / 12 % 400 = 0
        · rw [eq_T h5, if_pos h5]
        · rw [eq_F h5 (by omega) (by omega) (by omega) (by omega), if_neg h5]
      · rw [eq_F h1 (by omega) (by omega) (by omega) (by omega), if_neg h1]
    · rw [eq_F h4 (by omega) (by omega) (by omega) (by omega), if_neg h4]
  all_goals rw [e]; rfl
theorem c_monthLength {m : Int} (h0 : 0 ≤ m) (h1 : m < 100000) {δ : Type} {A : _ → xM → Option δ} : xcl (f_Days_monthLength O f m M) A = A (cLen m) (M) := xc_of (e_monthLength h0 h1) A
end CAL
end
/-! draft 515.hall -/
section
/-! ===== what has a number, and what calls need ===== -/
section HAL
variable {O : Nat → Option va_E} {f : Nat} {M : xM} {i : Int}
theorem e_anyZone (h : Wd M) (h0 : 0 ≤ i) (h1 : i < 3) : f_Hall_anyZone O f 2 i M = some (12 + 3 * i.toNat, M) := by
  unfold f_Hall_anyZone f_Hall_anyZone_22
  simp (disch := first | assumption | omega) only [↓lt_T, ↓lt_F, ↓le_T, ↓le_F, ↓eq_T, ↓eq_F, ↓eqL_F, ↓xlet_e, ↓xcl_e, ↓bind_e, ↓elim_n, ↓elim_s, ↓a_Hall_zones h, ↓n_Hall_zones h, ↓r_Hall_zones h]
theorem c_anyZone (h : Wd M) (h0 : 0 ≤ i) (h1 : i < 3) {δ : Type} {A : _ → xM → Option δ} : xcl (f_Hall_anyZone O f 2 i M) A = A (12 + 3 * i.toNat) (M) := xc_of (e_anyZone h h0 h1) A
theorem e_anyPerson (h : Wd M) (h0 : 0 ≤ i) (h1 : i < 8) : f_Hall_anyPerson O f 2 i M = some (21 + 1 * i.toNat, M) := by
  unfold f_Hall_anyPerson f_Hall_anyPerson_22
  simp (disch := first | assumption | omega) only [↓lt_T, ↓lt_F, ↓le_T, ↓le_F, ↓eq_T, ↓eq_F, ↓eqL_F, ↓xlet_e, ↓xcl_e, ↓bind_e, ↓elim_n, ↓elim_s, ↓a_Hall_people h, ↓n_Hall_people h, ↓r_Hall_people h]
theorem c_anyPerson (h : Wd M) (h0 : 0 ≤ i) (h1 : i < 8) {δ : Type} {A : _ → xM → Option δ} : xcl (f_Hall_anyPerson O f 2 i M) A = A (21 + 1 * i.toNat) (M) := xc_of (e_anyPerson h h0 h1) A
theorem e_anySeries (h : Wd M) (h0 : 0 ≤ i) (h1 : i < 12) : f_Hall_anySeries O f 2 i M = some (29 + 6 * i.toNat, M) := by
  unfold f_Hall_anySeries f_Hall_anySeries_22
  simp (disch := first | assumption | omega) only [↓lt_T, ↓lt_F, ↓le_T, ↓le_F, ↓eq_T, ↓eq_F, ↓eqL_F, ↓xlet_e, ↓xcl_e, ↓bind_e, ↓elim_n, ↓elim_s, ↓a_Hall_series h, ↓n_Hall_series h, ↓r_Hall_series h]
theorem c_anySeries (h : Wd M) (h0 : 0 ≤ i) (h1 : i < 12) {δ : Type} {A : _ → xM → Option δ} : xcl (f_Hall_anySeries O f 2 i M) A = A (29 + 6 * i.toNat) (M) := xc_of (e_anySeries h h0 h1) A
theorem e_anyDevice (h : Wd M) (h0 : 0 ≤ i) (h1 : i < 2) : f_Hall_anyDevice O f 2 i M = some (101 + 7 * i.toNat, M) := by
  unfold f_Hall_anyDevice f_Hall_anyDevice_22
  simp (disch := first | assumption | omega) only [↓lt_T, ↓lt_F, ↓le_T, ↓le_F, ↓eq_T, ↓eq_F, ↓eqL_F, ↓xlet_e, ↓xcl_e, ↓bind_e, ↓elim_n, ↓elim_s, ↓a_Hall_devices h, ↓n_Hall_devices h, ↓r_Hall_devices h]
theorem c_anyDevice (h : Wd M) (h0 : 0 ≤ i) (h1 : i < 2) {δ : Type} {A : _ → xM → Option δ} : xcl (f_Hall_anyDevice O f 2 i M) A = A (101 + 7 * i.toNat) (M) := xc_of (e_anyDevice h h0 h1) A
theorem e_zoneNumbered (h : Wd M) (h0 : 0 ≤ i) (h1 : i < 3) : f_Calendarhall_zoneNumbered O f 1 i M = some (12 + 3 * i.toNat, M) := by
  unfold f_Calendarhall_zoneNumbered
  simp (disch := first | assumption | omega) only [↓lt_T, ↓lt_F, ↓le_T, ↓le_F, ↓eq_T, ↓eq_F, ↓eqL_F, ↓xlet_e, ↓xcl_e, ↓bind_e, ↓elim_n, ↓elim_s, ↓a_Cal_hall h, ↓a_Hall_is h, ↓c_anyZone h]
theorem c_zoneNumbered (h : Wd M) (h0 : 0 ≤ i) (h1 : i < 3) {δ : Type} {A : _ → xM → Option δ} : xcl (f_Calendarhall_zoneNumbered O f 1 i M) A = A (12 + 3 * i.toNat) (M) := xc_of (e_zoneNumbered h h0 h1) A
theorem e_personNumbered (h : Wd M) (h0 : 0 ≤ i) (h1 : i < 8) : f_Calendarhall_personNumbered O f 1 i M = some (21 + 1 * i.toNat, M) := by
  unfold f_Calendarhall_personNumbered
  simp (disch := first | assumption | omega) only [↓lt_T, ↓lt_F, ↓le_T, ↓le_F, ↓eq_T, ↓eq_F, ↓eqL_F, ↓xlet_e, ↓xcl_e, ↓bind_e, ↓elim_n, ↓elim_s, ↓a_Cal_hall h, ↓a_Hall_is h, ↓c_anyPerson h]
theorem c_personNumbered (h : Wd M) (h0 : 0 ≤ i) (h1 : i < 8) {δ : Type} {A : _ → xM → Option δ} : xcl (f_Calendarhall_personNumbered O f 1 i M) A = A (21 + 1 * i.toNat) (M) := xc_of (e_personNumbered h h0 h1) A
theorem e_deviceNumbered (h : Wd M) (h0 : 0 ≤ i) (h1 : i < 2) : f_Calendarhall_deviceNumbered O f 1 i M = some (101 + 7 * i.toNat, M) := by
  unfold f_Calendarhall_deviceNumbered
  simp (disch := first | assumption | omega) only [↓lt_T, ↓lt_F, ↓le_T, ↓le_F, ↓eq_T, ↓eq_F, ↓eqL_F, ↓xlet_e, ↓xcl_e, ↓bind_e, ↓elim_n, ↓elim_s, ↓a_Cal_hall h, ↓a_Hall_is h, ↓c_anyDevice h]
theorem c_deviceNumbered (h : Wd M) (h0 : 0 ≤ i) (h1 : i < 2) {δ : Type} {A : _ → xM → Option δ} : xcl (f_Calendarhall_deviceNumbered O f 1 i M) A = A (101 + 7 * i.toNat) (M) := xc_of (e_deviceNumbered h h0 h1) A
theorem e_seriesNumbered (h : Wd M) (h0 : 0 ≤ i) (h1 : i < 12) (ht : iV M (29 + 6 * i.toNat) 0 = 1) : f_Calendarhall_seriesNumbered O f 1 i M = some (29 + 6 * i.toNat, M) := by
  unfold f_Calendarhall_seriesNumbered
  simp (disch := first | assumption | omega) only [↓lt_T, ↓lt_F, ↓le_T, ↓le_F, ↓eq_T, ↓eq_F, ↓eqL_F, ↓xlet_e, ↓xcl_e, ↓bind_e, ↓elim_n, ↓elim_s, ↓a_Cal_hall h, ↓a_Hall_is h, ↓c_anySeries h, ↓a_Series_isThere h]
theorem c_seriesNumbered (h : Wd M) (h0 : 0 ≤ i) (h1 : i < 12) (ht : iV M (29 + 6 * i.toNat) 0 = 1) {δ : Type} {A : _ → xM → Option δ} : xcl (f_Calendarhall_seriesNumbered O f 1 i M) A = A (29 + 6 * i.toNat) (M) := xc_of (e_seriesNumbered h h0 h1 ht) A
variable {x a b : Int}
theorem e_needRange (h0 : a ≤ x) (h1 : x ≤ b) (h2 : -2147483648 ≤ a) (h3 : b ≤ 2147483647) : f_Calendarhall_needRange O f x a b M = some ((), M) := by
  unfold f_Calendarhall_needRange
  simp (disch := first | assumption | omega) only [↓lt_T, ↓lt_F, ↓le_T, ↓le_F, ↓eq_T, ↓eq_F, ↓eqL_F, ↓xlet_e, ↓xcl_e, ↓bind_e, ↓elim_n, ↓elim_s]
theorem c_needRange (h0 : a ≤ x) (h1 : x ≤ b) (h2 : -2147483648 ≤ a) (h3 : b ≤ 2147483647) {δ : Type} {A : _ → xM → Option δ} : xcl (f_Calendarhall_needRange O f x a b M) A = A (()) (M) := xc_of (e_needRange h0 h1 h2 h3) A
theorem e_needDay (h0 : 10 ≤ x) (h1 : x ≤ 146000) : f_Calendarhall_needDay O f x M = some ((), M) := by
  unfold f_Calendarhall_needDay
  simp (disch := first | assumption | omega) only [↓lt_T, ↓lt_F, ↓le_T, ↓le_F, ↓eq_T, ↓eq_F, ↓eqL_F, ↓xlet_e, ↓xcl_e, ↓bind_e, ↓elim_n, ↓elim_s]
theorem c_needDay (h0 : 10 ≤ x) (h1 : x ≤ 146000) {δ : Type} {A : _ → xM → Option δ} : xcl (f_Calendarhall_needDay O f x M) A = A (()) (M) := xc_of (e_needDay h0 h1) A
theorem e_needMinute (h0 : 14400 ≤ x) (h1 : x ≤ 210240000) : f_Calendarhall_needMinute O f x M = some ((), M) := by
  unfold f_Calendarhall_needMinute
  simp (disch := first | assumption | omega) only [↓lt_T, ↓lt_F, ↓le_T, ↓le_F, ↓eq_T, ↓eq_F, ↓eqL_F, ↓xlet_e, ↓xcl_e, ↓bind_e, ↓elim_n, ↓elim_s]
theorem c_needMinute (h0 : 14400 ≤ x) (h1 : x ≤ 210240000) {δ : Type} {A : _ → xM → Option δ} : xcl (f_Calendarhall_needMinute O f x M) A = A (()) (M) := xc_of (e_needMinute h0 h1) A
theorem e_needPiece (h0 : 14400 ≤ a) (h1 : b ≤ 210240000) (h2 : a < b) (h3 : b - a ≤ x) (h4 : x ≤ 2147483647) : f_Calendarhall_needPiece O f a b x M = some ((), M) := by
  unfold f_Calendarhall_needPiece
  simp (disch := first | assumption | omega) only [↓lt_T, ↓lt_F, ↓le_T, ↓le_F, ↓eq_T, ↓eq_F, ↓eqL_F, ↓xlet_e, ↓xcl_e, ↓bind_e, ↓elim_n, ↓elim_s, ↓c_needMinute]
theorem c_needPiece (h0 : 14400 ≤ a) (h1 : b ≤ 210240000) (h2 : a < b) (h3 : b - a ≤ x) (h4 : x ≤ 2147483647) {δ : Type} {A : _ → xM → Option δ} : xcl (f_Calendarhall_needPiece O f a b x M) A = A (()) (M) := xc_of (e_needPiece h0 h1 h2 h3 h4) A
end HAL
end
/-! draft 520.start -/
section
/-! ===== where the law's branches begin; new cells ===== -/
def St0 (M : xM) : Prop := Wd M ∧ M.1 = 1044 ∧ M.2.1 ≤ 30000 ∧ (iV M 1 2 = 0 ∧ iV M 1 3 = 0) ∧ (∀ k : Nat, k < 12 → iV M (29 + 6 * k) 0 = 0 ∧ iV M (29 + 6 * k) 5 = 0) ∧ (∀ k : Nat, k < 2 → iV M (101 + 7 * k) 0 = 0 ∧ iV M (101 + 7 * k) 1 = 0 ∧ ∀ p : Nat, p < 48 → iV M (105 + 7 * k) p = -1 ∧ iV M (106 + 7 * k) p = 0 ∧ iV M (107 + 7 * k) p = 0) ∧ (∀ k : Nat, k < 3 → iV M (12 + 3 * k) 0 = 0 ∧ iV M (12 + 3 * k) 1 = 0 ∧ iV M (13 + 3 * k) 0 = 3 ∧ iV M (13 + 3 * k) 1 = 5 ∧ iV M (13 + 3 * k) 2 = 6 ∧ iV M (13 + 3 * k) 3 = 120 ∧ iV M (14 + 3 * k) 0 = 10 ∧ iV M (14 + 3 * k) 1 = 5 ∧ iV M (14 + 3 * k) 2 = 6 ∧ iV M (14 + 3 * k) 3 = 120) ∧ (∀ k : Nat, k < 8 → iV M (21 + k) 0 = 0 ∧ iV M (21 + k) 1 = 31 ∧ iV M (21 + k) 2 = 540 ∧ iV M (21 + k) 3 = 1020) ∧ (∀ k : Nat, k < 4 → iV M 5 k = k) ∧ (iV M 2 5 = 14400 ∧ iV M 2 9 = 0 ∧ iV M 2 11 = 0) ∧ (∀ k : Nat, k < 10 → iV M 8 k = -1) ∧ iV M 134 0 = 0
section STA
variable {O : Nat → Option va_E} {f : Nat} {M N : xM} {a j t : Nat}
theorem St0.sv (h : St0 M) : Sv M := by
  obtain ⟨-, -, -, ⟨a, b⟩, -⟩ := h
  unfold Sv
  omega
theorem St0.bo (h : St0 M) : BoB 2 M := by
  obtain ⟨-, -, -, -, g, -⟩ := h
  intro k hk
  have e : 2 + (27 + 6 * k) = 29 + 6 * k := by omega
  rw [e]
  exact ⟨Or.inl (g k hk).1, Or.inl (g k hk).2⟩
/-- a heap with new cells behind the old ones -/
def Ex (M N : xM) : Prop := M.1 ≤ N.1 ∧ ∀ a, a < M.1 → mS N a = mS M a ∧ mI N a = mI M a ∧ mL N a = mL M a ∧ mR N a = mR M a
theorem Ex.rf : Ex M M := ⟨Nat.le_refl _, fun _ _ => ⟨rfl, rfl, rfl, rfl⟩⟩
theorem Ex.tr {L : xM} (h : Ex M N) (g : Ex N L) : Ex M L := ⟨Nat.le_trans h.1 g.1, fun a ha => by
  obtain ⟨a1, a2, a3, a4⟩ := h.2 a ha
  obtain ⟨b1, b2, b3, b4⟩ := g.2 a (Nat.lt_of_lt_of_le ha h.1)
  exact ⟨b1.trans a1, b2.trans a2, b3.trans a3, b4.trans a4⟩⟩
theorem Ex.new {s : Nat ⊕ Nat × Nat} {w : Nat} : Ex M (mnew M s w) := ⟨Nat.le_succ _, fun a ha => ⟨if_neg (by omega), if_neg (by omega), if_neg (by omega), if_neg (by omega)⟩⟩
theorem Ex.mmk {n k : Nat} : Ex M (mmk M n k) := ⟨Nat.le_add_right _ _, fun a ha => ⟨by
  show (if a = M.1 then _ else if _ then _ else _) = _
  rw [if_neg (by omega), if_neg (by omega)], if_neg (by omega), rfl, if_neg (by omega)⟩⟩
theorem Ex.i (h : Ex M N) (ha : a < M.1) : iV N a j = iV M a j := by
  unfold iV
  rw [(h.2 a ha).2.1]
theorem Ex.l (h : Ex M N) (ha : a < M.1) : lV N a j = lV M a j := by
  unfold lV
  rw [(h.2 a ha).2.2.1]
theorem Ex.wd (h : Ex M N) (w : Wd M) (hb : N.1 ≤ 500000000) : Wd N := by
  obtain ⟨w1, w2, w3, w4⟩ := w
  refine ⟨by have := h.1; omega, hb, fun k hk => ?_, fun k j r hk hr => ?_⟩
  · rw [(h.2 k (by omega)).1]
    exact w3 k hk
  · rw [(h.2 k (by omega)).2.2.2]
    exact w4 k j r hk hr
theorem x_nAJ {n : Int} (h0 : 0 ≤ n) (h1 : n ≤ 60000000) (hM : M.1 + 1 < 1000000000) : nAJ M t n = some (M.1, mnew M (.inr (t, n.toNat)) n.toNat) := by
  unfold nAJ nA
  have e := yw_nat (a := n) ⟨by omega, by omega⟩
  have q : ¬ yw n < 0 := fun q => by have := (yw_lt (a := n) (b := 0) ⟨by omega, by omega⟩ (by decide)).mp q; omega
  rw [e, if_neg (by
    rintro (z | z | z)
    · exact q z
    · omega
    · exact z hM)]
theorem x_nMJ {n k : Int} (h0 : 0 ≤ n) (h1 : n ≤ 60000000) (h2 : 0 ≤ k) (h3 : k ≤ 60000000) (hM : M.1 + (1 + n.toNat) < 1000000000) : nMJ M n k = some (M.1, mmk M n.toNat k.toNat) := by
  unfold nMJ nM
  have e := yw_nat (a := n) ⟨by omega, by omega⟩
  have e2 := yw_nat (a := k) ⟨by omega, by omega⟩
  have q : ¬ yw n < 0 := fun q => by have := (yw_lt (a := n) (b := 0) ⟨by omega, by omega⟩ (by decide)).mp q; omega
  have q2 : ¬ yw k < 0 := fun q => by have := (yw_lt (a := k) (b := 0) ⟨by omega, by omega⟩ (by decide)).mp q; omega
  rw [e, e2, if_neg (by
    rintro (z | z | z | z | z)
    · exact q z
    · exact q2 z
    · omega
    · omega
    · exact z hM)]
end STA
end
/-! draft 521.keep -/
section
/-! ===== a heap that goes on: shapes and references stay, and some cells ===== -/
def Kp (P : Nat → Prop) (M N : xM) : Prop := M.1 ≤ N.1 ∧ (∀ a, a < M.1 → mS N a = mS M a ∧ mR N a = mR M a) ∧ ∀ a, a < M.1 → P a → mI N a = mI M a ∧ mL N a = mL M a
/-- an array of ints of the law's -/
def Ar (a n : Nat) (M : xM) : Prop := a < M.1 ∧ M.1 ≤ 500000000 ∧ mS M a = .inr (0, n) ∧ n ≤ 2147483647
section KEP
variable {O : Nat → Option va_E} {f n a j : Nat} {M N L : xM} {P Q : Nat → Prop} {x ix : Int} {γ : Type}
theorem Kp.rf : Kp P M M := ⟨Nat.le_refl _, fun _ _ => ⟨rfl, rfl⟩, fun _ _ _ => ⟨rfl, rfl⟩⟩
theorem Kp.tr (h : Kp P M N) (g : Kp P N L) : Kp P M L := ⟨Nat.le_trans h.1 g.1, fun a ha => by
  obtain ⟨a1, a2⟩ := h.2.1 a ha
  obtain ⟨b1, b2⟩ := g.2.1 a (Nat.lt_of_lt_of_le ha h.1)
  exact ⟨b1.trans a1, b2.trans a2⟩, fun a ha p => by
  obtain ⟨a1, a2⟩ := h.2.2 a ha p
  obtain ⟨b1, b2⟩ := g.2.2 a (Nat.lt_of_lt_of_le ha h.1) p
  exact ⟨b1.trans a1, b2.trans a2⟩⟩
theorem Kp.le (h : Kp P M N) (g : ∀ a, Q a → P a) : Kp Q M N := ⟨h.1, h.2.1, fun a ha q => h.2.2 a ha (g a q)⟩
theorem Un.kp (h : Un P M N) : Kp P M N := ⟨Nat.le_of_eq h.1.1.symm, fun a _ => ⟨h.1.s a, h.1.r a⟩, fun a _ p => h.2 a p⟩
theorem Ex.kp (h : Ex M N) : Kp P M N := ⟨h.1, fun a ha => ⟨(h.2 a ha).1, (h.2 a ha).2.2.2⟩, fun a ha _ => ⟨(h.2 a ha).2.1, (h.2 a ha).2.2.1⟩⟩
theorem Kp.i (h : Kp P M N) (ha : a < M.1) (p : P a) : iV N a j = iV M a j := by
  unfold iV
  rw [(h.2.2 a ha p).1]
theorem Kp.l (h : Kp P M N) (ha : a < M.1) (p : P a) : lV N a j = lV M a j := by
  unfold lV
  rw [(h.2.2 a ha p).2]
theorem Kp.wd (h : Kp P M N) (w : Wd M) (hb : N.1 ≤ 500000000) : Wd N := by
  obtain ⟨w1, w2, w3, w4⟩ := w
  refine ⟨by have := h.1; omega, hb, fun k hk => ?_, fun k j r hk hr => ?_⟩
  · rw [(h.2.1 k (by omega)).1]
    exact w3 k hk
  · rw [(h.2.1 k (by omega)).2]
    exact w4 k j r hk hr
theorem Ar.kp (h : Ar a n M) (k : Kp P M N) (hb : N.1 ≤ 500000000) : Ar a n N := ⟨Nat.lt_of_lt_of_le h.1 k.1, hb, by rw [(k.2.1 a h.1).1]; exact h.2.2.1, h.2.2.2⟩
theorem Ar.un (h : Ar a n M) (k : Un P M N) : Ar a n N := h.kp k.kp (by rw [k.1.1]; exact h.2.1)
theorem Ar.aJ (h : Ar a n M) (h0 : 0 ≤ ix) (h1 : ix < n) {A : Int → Option γ} : (aJ O M a ix).bind A = A (iV M a ix.toNat) := z_aJ ⟨by have := h.1; have := h.2.1; omega, h.1⟩ h.2.2.1 h0 h1 (by have := h.2.2.2; omega)
theorem Ar.wJ (h : Ar a n M) (h0 : 0 ≤ ix) (h1 : ix < n) {A : xM → Option γ} : (wJ M a ix x).bind A = A (iS M a ix.toNat x) := z_wJ ⟨by have := h.1; have := h.2.1; omega, h.1⟩ h.2.2.1 h0 h1 (by have := h.2.2.2; omega)
theorem Ar.aN (h : Ar a n M) {A : Int → Option γ} : (aJN O M a).bind A = A n := z_aN ⟨by have := h.1; have := h.2.1; omega, h.1⟩ h.2.2.1 (by decide) h.2.2.2
/-- a new array of ints -/
theorem ar_new (h0 : 0 ≤ x) (h1 : x ≤ 60000000) (hM : M.1 ≤ 499999999) : ∃ N, nAJ M 0 x = some (M.1, N) ∧ Ex M N ∧ Ar M.1 x.toNat N ∧ (∀ j, iV N M.1 j = 0) ∧ N.1 = M.1 + 1 ∧ N.2.1 = M.2.1 + x.toNat := by
  refine ⟨_, x_nAJ h0 h1 (by omega), Ex.new, ⟨Nat.lt_succ_self _, ?_, if_pos rfl, by omega⟩, fun j => ?_, rfl, rfl⟩
  · show M.1 + 1 ≤ 500000000
    omega
  · unfold iV
    show ((if M.1 = M.1 then fun _ => 0 else mI M M.1) j).toInt = 0
    rw [if_pos rfl]
    rfl
end KEP
end
/-! draft 530.device -/
section
/-! ===== devices ===== -/
section DEV
variable {O : Nat → Option va_E} {f : Nat} {M : xM} {k : Nat} {p v m c : Int}
theorem e_valueAt (h : Wd M) (hk : k < 2) (h0 : 0 ≤ p) (h1 : p < 48) : f_Device_valueAt O f (101 + 7 * k) p M = some (iV M (105 + 7 * k) p.toNat, M) := by
  unfold f_Device_valueAt
  simp (disch := first | assumption | omega) only [↓lt_T, ↓lt_F, ↓le_T, ↓le_F, ↓eq_T, ↓eq_F, ↓eqL_F, ↓xlet_e, ↓xcl_e, ↓bind_e, ↓elim_n, ↓elim_s, ↓a_Device_shownValues h, ↓n_Device_shownValues h, ↓r_Device_shownValues h]
theorem c_valueAt (h : Wd M) (hk : k < 2) (h0 : 0 ≤ p) (h1 : p < 48) {δ : Type} {A : _ → xM → Option δ} : xcl (f_Device_valueAt O f (101 + 7 * k) p M) A = A (iV M (105 + 7 * k) p.toNat) (M) := xc_of (e_valueAt h hk h0 h1) A
theorem e_shown {d n q : Int} (h : Wd M) (hd : 0 ≤ d) (hd1 : d < 2) (h0 : 0 ≤ n) (h1 : n ≤ 11) (h2 : 0 ≤ q) (h3 : q ≤ 3) : f_Calendarhall_shown O f 1 d n q M = some (iV M (105 + 7 * d.toNat) (n * 4 + q).toNat, M) := by
  unfold f_Calendarhall_shown
  simp (disch := first | assumption | omega) only [↓lt_T, ↓lt_F, ↓le_T, ↓le_F, ↓eq_T, ↓eq_F, ↓eqL_F, ↓xlet_e, ↓xcl_e, ↓bind_e, ↓elim_n, ↓elim_s, ↓a_Cal_is h, ↓c_deviceNumbered h, ↓c_needRange, ↓a_Device_is h, ↓c_valueAt h]
theorem c_shown {d n q : Int} (h : Wd M) (hd : 0 ≤ d) (hd1 : d < 2) (h0 : 0 ≤ n) (h1 : n ≤ 11) (h2 : 0 ≤ q) (h3 : q ≤ 3) {δ : Type} {A : _ → xM → Option δ} : xcl (f_Calendarhall_shown O f 1 d n q M) A = A (iV M (105 + 7 * d.toNat) (n * 4 + q).toNat) (M) := xc_of (e_shown h hd hd1 h0 h1 h2 h3) A
/-- a device shows a change if it isn't an older one -/
def shD (M : xM) (k : Nat) (m p v c : Int) : xM := if c < iV M (106 + 7 * k) p.toNat ∨ (c = iV M (106 + 7 * k) p.toNat ∧ m < iV M (107 + 7 * k) p.toNat) then M else iS (iS (iS M (105 + 7 * k) p.toNat v) (106 + 7 * k) p.toNat c) (107 + 7 * k) p.toNat m
theorem e_show45 (h : Wd M) (hk : k < 2) (h0 : 0 ≤ p) (h1 : p < 48) : f_Device_show_45 O f (101 + 7 * k) m p v c M = some ((), iS (iS (iS M (105 + 7 * k) p.toNat v) (106 + 7 * k) p.toNat c) (107 + 7 * k) p.toNat m) := by
  unfold f_Device_show_45
  rw [a_Device_shownValues h hk, w_Device_shownValues h hk h0 h1, a_Device_shownClocks (M := iS M (105 + 7 * k) p.toNat v) h hk, w_Device_shownClocks (M := iS M (105 + 7 * k) p.toNat v) h hk h0 h1, a_Device_shownMakers (M := iS (iS M (105 + 7 * k) p.toNat v) (106 + 7 * k) p.toNat c) h hk, w_Device_shownMakers (M := iS (iS M (105 + 7 * k) p.toNat v) (106 + 7 * k) p.toNat c) h hk h0 h1]
theorem e_show (h : Wd M) (hk : k < 2) (h0 : 0 ≤ p) (h1 : p < 48) (hc : 0 ≤ c) (hc1 : c ≤ 2147483647) (hm : 0 ≤ m) (hm1 : m ≤ 2147483647) : f_Device_show O f (101 + 7 * k) m p v c M = some ((), shD M k m p v c) := by
  have r1 := iV_r M (106 + 7 * k) p.toNat
  have r2 := iV_r M (107 + 7 * k) p.toNat
  unfold f_Device_show shD
  simp (disch := first | assumption | omega) only [↓lt_T, ↓lt_F, ↓le_T, ↓le_F, ↓eq_T, ↓eq_F, ↓eqL_F, ↓xlet_e, ↓xcl_e, ↓bind_e, ↓elim_n, ↓elim_s, ↓a_Device_shownClocks h, ↓r_Device_shownClocks h, ↓a_Device_shownMakers h, ↓r_Device_shownMakers h]
  by_cases g1 : c < iV M (106 + 7 * k) p.toNat
  · rw [le_F g1 (by omega) (by omega), if_pos (Or.inl g1)]
  · rw [le_T (by omega) (by omega) (by omega)]
    by_cases g2 : c = iV M (106 + 7 * k) p.toNat
    · rw [eq_T g2]
      by_cases g3 : m < iV M (107 + 7 * k) p.toNat
      · rw [le_F g3 (by omega) (by omega), if_pos (Or.inr ⟨g2, g3⟩)]
      · rw [le_T (by omega) (by omega) (by omega), if_neg (by omega), e_show45 h hk h0 h1]
    · rw [eq_F g2 (by omega) (by omega) (by omega) (by omega), if_neg (by omega), e_show45 h hk h0 h1]
theorem shD_un {m p v c : Int} : Un (fun a => a ≠ 105 + 7 * k ∧ a ≠ 106 + 7 * k ∧ a ≠ 107 + 7 * k) M (shD M k m p v c) := by
  unfold shD
  split
  · exact Un.rf
  · exact ((Un.rf.iS (by (try dsimp only); omega)).iS (by (try dsimp only); omega)).iS (by (try dsimp only); omega)
/-- a change made on a device: its row, and what the device shows -/
def mkD (M : xM) (k : Nat) (p v : Int) : xM := iS (iS (iS (iS (iS M (101 + 7 * k) 0 (iV M (101 + 7 * k) 0 + 1)) (102 + 7 * k) (iV M (101 + 7 * k) 1).toNat p) (103 + 7 * k) (iV M (101 + 7 * k) 1).toNat v) (104 + 7 * k) (iV M (101 + 7 * k) 1).toNat (iV M (101 + 7 * k) 0 + 1)) (101 + 7 * k) 1 (iV M (101 + 7 * k) 1 + 1)
theorem wd_mkD : Wd (mkD M k p v) = Wd M := rfl
theorem e_make (h : Wd M) (hk : k < 2) (h0 : 0 ≤ p) (h1 : p < 48) (n0 : 0 ≤ iV M (101 + 7 * k) 1) (n1 : iV M (101 + 7 * k) 1 < 40) (c0 : 0 ≤ iV M (101 + 7 * k) 0) (c1 : iV M (101 + 7 * k) 0 ≤ 1000000) (hm : 0 ≤ m) (hm1 : m ≤ 2147483647) : f_Device_make O f (101 + 7 * k) m p v M = some ((), shD (mkD M k p v) k m p v (iV M (101 + 7 * k) 0 + 1)) := by
  unfold f_Device_make
  simp (disch := first | assumption | omega | (simp only [wd_iS]; assumption)) only [↓lt_T, ↓lt_F, ↓le_T, ↓le_F, ↓eq_T, ↓eq_F, ↓eqL_F, ↓xlet_e, ↓xcl_e, ↓bind_e, ↓elim_n, ↓elim_s, ↓a_Device_count, ↓a_Device_clock, ↓p_Device_count, ↓p_Device_clock, ↓a_Device_places, ↓w_Device_places, ↓a_Device_values, ↓w_Device_values, ↓a_Device_clocks, ↓w_Device_clocks, ↓a_Device_is, iV_o, iV_s]
  have w : Wd (mkD M k p v) := h
  show xcl (f_Device_show O f (101 + 7 * k) m p v (iV M (101 + 7 * k) 0 + 1) (mkD M k p v)) _ = _
  rw [e_show w hk h0 h1 (by omega) (by omega) hm hm1, xcl_e]
theorem e_receive {j : Nat} {i : Int} (h : Wd M) (hk : k < 2) (hj : j < 2) (i0 : 0 ≤ i) (i1 : i < 40) (p0 : 0 ≤ iV M (102 + 7 * j) i.toNat) (p1 : iV M (102 + 7 * j) i.toNat < 48) (c0 : 0 ≤ iV M (104 + 7 * j) i.toNat) (hm : 0 ≤ m) (hm1 : m ≤ 2147483647) : f_Device_receive O f (101 + 7 * k) (101 + 7 * j) m i M = some ((), shD (iS M (101 + 7 * k) 0 (max (iV M (101 + 7 * k) 0) (iV M (104 + 7 * j) i.toNat))) k m (iV M (102 + 7 * j) i.toNat) (iV M (103 + 7 * j) i.toNat) (iV M (104 + 7 * j) i.toNat)) := by
  have r1 := iV_r M (101 + 7 * k) 0
  have r2 := iV_r M (104 + 7 * j) i.toNat
  unfold f_Device_receive
  simp (disch := first | assumption | omega | (simp only [wd_iS]; assumption)) only [↓lt_T, ↓lt_F, ↓le_T, ↓le_F, ↓eq_T, ↓eq_F, ↓eqL_F, ↓xlet_e, ↓xcl_e, ↓bind_e, ↓elim_n, ↓elim_s, ↓a_Device_clock, ↓c_max, ↓p_Device_clock, ↓a_Device_places, ↓r_Device_places, ↓a_Device_values, ↓r_Device_values, ↓a_Device_clocks, ↓r_Device_clocks, ↓a_Device_is, iV_o]
  rw [e_show (M := iS M (101 + 7 * k) 0 (max (iV M (101 + 7 * k) 0) (iV M (104 + 7 * j) i.toNat))) h hk p0 p1 c0 r2.2 hm hm1, xcl_e]
end DEV
/-! ===== what two devices have ===== -/
/-- what a device shows, if it knows of these changes -/
def ShK (M : xM) (d : Nat) (K : Nat → Nat → Prop) : Prop := ∀ p : Nat, p < 48 → ((∃ m i, K m i ∧ iV M (102 + 7 * m) i = p ∧ iV M (105 + 7 * d) p = iV M (103 + 7 * m) i ∧ iV M (106 + 7 * d) p = iV M (104 + 7 * m) i ∧ iV M (107 + 7 * d) p = m) ∨ (iV M (105 + 7 * d) p = -1 ∧ iV M (106 + 7 * d) p = 0 ∧ iV M (107 + 7 * d) p = 0 ∧ ∀ m i, K m i → iV M (102 + 7 * m) i ≠ p)) ∧ ∀ m i, K m i → iV M (102 + 7 * m) i = p → iV M (104 + 7 * m) i < iV M (106 + 7 * d) p ∨ (iV M (104 + 7 * m) i = iV M (106 + 7 * d) p ∧ (m : Int) ≤ iV M (107 + 7 * d) p)
section ALK
variable {M N : xM} {d m i : Nat} {K K' : Nat → Nat → Prop}
theorem ShK.same (h : ShK M d K) (h1 : ∀ m i, K m i → iV N (102 + 7 * m) i = iV M (102 + 7 * m) i ∧ iV N (103 + 7 * m) i = iV M (103 + 7 * m) i ∧ iV N (104 + 7 * m) i = iV M (104 + 7 * m) i) (h2 : ∀ p, p < 48 → iV N (105 + 7 * d) p = iV M (105 + 7 * d) p ∧ iV N (106 + 7 * d) p = iV M (106 + 7 * d) p ∧ iV N (107 + 7 * d) p = iV M (107 + 7 * d) p) : ShK N d K := by
  intro p hp
  obtain ⟨a, b⟩ := h p hp
  obtain ⟨e1, e2, e3⟩ := h2 p hp
  rw [e1, e2, e3]
  refine ⟨?_, fun m i q r => ?_⟩
  · rcases a with ⟨m, i, q, r1, r2, r3, r4⟩ | ⟨q1, q2, q3, q4⟩
    · obtain ⟨g1, g2, g3⟩ := h1 m i q
      exact Or.inl ⟨m, i, q, by rw [g1]; exact r1, by rw [g2]; exact r2, by rw [g3]; exact r3, r4⟩
    · exact Or.inr ⟨q1, q2, q3, fun m i q => by rw [(h1 m i q).1]; exact q4 m i q⟩
  · obtain ⟨g1, g2, g3⟩ := h1 m i q
    rw [g1] at r
    rw [g3]
    exact b m i q r
theorem ShK.put {p : Nat} (h : ShK M d K) (hp : iV M (102 + 7 * m) i = p) (p1 : p < 48) (hc : 1 ≤ iV M (104 + 7 * m) i) (hm2 : m < 2) (hd : d < 2) (hK : ∀ a b, K a b → a < 2) (hK' : ∀ a b, K' a b ↔ K a b ∨ (a = m ∧ b = i)) : ShK (shD M d m (iV M (102 + 7 * m) i) (iV M (103 + 7 * m) i) (iV M (104 + 7 * m) i)) d K' := by
  have hr2 := iV_r M (103 + 7 * m) i
  have hr3 := iV_r M (104 + 7 * m) i
  have ht : (iV M (102 + 7 * m) i).toNat = p := by omega
  have uu := shD_un (M := M) (k := d) (m := m) (p := iV M (102 + 7 * m) i) (v := iV M (103 + 7 * m) i) (c := iV M (104 + 7 * m) i)
  have ho : ∀ a j, a < 2 → iV (shD M d m (iV M (102 + 7 * m) i) (iV M (103 + 7 * m) i) (iV M (104 + 7 * m) i)) (102 + 7 * a) j = iV M (102 + 7 * a) j ∧ iV (shD M d m (iV M (102 + 7 * m) i) (iV M (103 + 7 * m) i) (iV M (104 + 7 * m) i)) (103 + 7 * a) j = iV M (103 + 7 * a) j ∧ iV (shD M d m (iV M (102 + 7 * m) i) (iV M (103 + 7 * m) i) (iV M (104 + 7 * m) i)) (104 + 7 * a) j = iV M (104 + 7 * a) j := fun a j ha => ⟨uu.i (by (try dsimp only); omega), uu.i (by (try dsimp only); omega), uu.i (by (try dsimp only); omega)⟩
  have hKm : ∀ a b, K' a b → a < 2 := fun a b q => by
    rcases (hK' a b).mp q with r | ⟨r, -⟩
    · exact hK a b r
    · omega
  have hsh : shD M d m (iV M (102 + 7 * m) i) (iV M (103 + 7 * m) i) (iV M (104 + 7 * m) i) = if iV M (104 + 7 * m) i < iV M (106 + 7 * d) p ∨ (iV M (104 + 7 * m) i = iV M (106 + 7 * d) p ∧ (m : Int) < iV M (107 + 7 * d) p) then M else iS (iS (iS M (105 + 7 * d) p (iV M (103 + 7 * m) i)) (106 + 7 * d) p (iV M (104 + 7 * m) i)) (107 + 7 * d) p m := by
    unfold shD
    rw [ht]
  intro q hq
  obtain ⟨a, b⟩ := h q hq
  by_cases hqp : q = p
  · subst hqp
    by_cases hg : iV M (104 + 7 * m) i < iV M (106 + 7 * d) q ∨ (iV M (104 + 7 * m) i = iV M (106 + 7 * d) q ∧ (m : Int) < iV M (107 + 7 * d) q)
    · rw [hsh, if_pos hg]
      refine ⟨?_, fun a' b' z r => ?_⟩
      · rcases a with ⟨m', i', z, r⟩ | ⟨q1, q2, q3, q4⟩
        · exact Or.inl ⟨m', i', (hK' m' i').mpr (Or.inl z), r⟩
        · exfalso
          omega
      · rcases (hK' a' b').mp z with z | ⟨rfl, rfl⟩
        · exact b a' b' z r
        · omega
    · rw [hsh, if_neg hg]
      have s5 : iV (iS (iS (iS M (105 + 7 * d) q (iV M (103 + 7 * m) i)) (106 + 7 * d) q (iV M (104 + 7 * m) i)) (107 + 7 * d) q m) (105 + 7 * d) q = iV M (103 + 7 * m) i := by
        rw [iV_o (by omega), iV_o (by omega), iV_sv]
      have s6 : iV (iS (iS (iS M (105 + 7 * d) q (iV M (103 + 7 * m) i)) (106 + 7 * d) q (iV M (104 + 7 * m) i)) (107 + 7 * d) q m) (106 + 7 * d) q = iV M (104 + 7 * m) i := by
        rw [iV_o (by omega), iV_sv]
      have s7 : iV (iS (iS (iS M (105 + 7 * d) q (iV M (103 + 7 * m) i)) (106 + 7 * d) q (iV M (104 + 7 * m) i)) (107 + 7 * d) q m) (107 + 7 * d) q = m := iV_s (by omega) (by omega)
      rw [hsh, if_neg hg] at ho
      rw [s5, s6, s7]
      refine ⟨Or.inl ⟨m, i, (hK' m i).mpr (Or.inr ⟨rfl, rfl⟩), ?_, ?_, ?_, rfl⟩, fun a' b' z r => ?_⟩
      · rw [(ho m i hm2).1]
        exact hp
      · rw [(ho m i hm2).2.1]
      · rw [(ho m i hm2).2.2]
      · have ha := hKm a' b' z
        rw [(ho a' b' ha).1] at r
        rw [(ho a' b' ha).2.2]
        rcases (hK' a' b').mp z with z | ⟨rfl, rfl⟩
        · have := b a' b' z r
          omega
        · omega
  · have o5 : ∀ j, j = 105 ∨ j = 106 ∨ j = 107 → iV (shD M d m (iV M (102 + 7 * m) i) (iV M (103 + 7 * m) i) (iV M (104 + 7 * m) i)) (j + 7 * d) q = iV M (j + 7 * d) q := by
      intro j hj
      rw [hsh]
      split
      · rfl
      · rw [iV_o (by omega), iV_o (by omega), iV_o (by omega)]
    rw [o5 105 (by omega), o5 106 (by omega), o5 107 (by omega)]
    refine ⟨?_, fun a' b' z r => ?_⟩
    · rcases a with ⟨m', i', z, r1, r2, r3, r4⟩ | ⟨q1, q2, q3, q4⟩
      · have h2 := hK m' i' z
        exact Or.inl ⟨m', i', (hK' m' i').mpr (Or.inl z), by rw [(ho m' i' h2).1]; exact r1, by rw [(ho m' i' h2).2.1]; exact r2, by rw [(ho m' i' h2).2.2]; exact r3, r4⟩
      · refine Or.inr ⟨q1, q2, q3, fun m' i' z => ?_⟩
        rcases (hK' m' i').mp z with z | ⟨rfl, rfl⟩
        · rw [(ho m' i' (hK m' i' z)).1]
          exact q4 m' i' z
        · rw [(ho m' i' hm2).1]
          omega
    · rcases (hK' a' b').mp z with z | ⟨rfl, rfl⟩
      · have h2 := hK a' b' z
        rw [(ho a' b' h2).1] at r
        rw [(ho a' b' h2).2.2]
        exact b a' b' z r
      · rw [(ho a' b' hm2).1] at r
        omega
end ALK
end
/-! draft 531.alike -/
section
/-! ===== changes made and delivered ===== -/
/-- a device knows of its own changes, and of the other's that were delivered -/
def KN (M : xM) (G : Nat → Nat → Prop) (d : Nat) : Nat → Nat → Prop := fun m i => m < 2 ∧ (i : Int) < iV M (101 + 7 * m) 1 ∧ (m = d ∨ G m i)
def Al (M : xM) (G : Nat → Nat → Prop) : Prop := ∀ d : Nat, d < 2 → (0 ≤ iV M (101 + 7 * d) 1 ∧ iV M (101 + 7 * d) 1 ≤ 40 ∧ 0 ≤ iV M (101 + 7 * d) 0 ∧ iV M (101 + 7 * d) 0 ≤ iV M 101 1 + iV M 108 1) ∧ (∀ i : Nat, (i : Int) < iV M (101 + 7 * d) 1 → 1 ≤ iV M (104 + 7 * d) i ∧ iV M (104 + 7 * d) i ≤ iV M (101 + 7 * d) 0 ∧ 0 ≤ iV M (102 + 7 * d) i ∧ iV M (102 + 7 * d) i < 48) ∧ (∀ i j : Nat, i < j → (j : Int) < iV M (101 + 7 * d) 1 → iV M (104 + 7 * d) i < iV M (104 + 7 * d) j) ∧ (∀ p : Nat, p < 48 → 0 ≤ iV M (106 + 7 * d) p ∧ iV M (106 + 7 * d) p ≤ iV M (101 + 7 * d) 0) ∧ ShK M d (KN M G d)
/-- what the class has of it -/
def Qd (M : xM) (G : Nat → Nat → Prop) : Prop := Wd M ∧ Sv M ∧ BoB 2 M ∧ Al M G
section ALM
variable {O : Nat → Option va_E} {f : Nat} {M N : xM} {k : Nat} {p v m c : Int} {G : Nat → Nat → Prop}
theorem Al.un (h : Al M G) (u : Un (fun a => 100 < a ∧ a < 115) M N) : Al N G := by
  have e : ∀ a j, 100 < a → a < 115 → iV N a j = iV M a j := fun a j h1 h2 => u.i ⟨h1, h2⟩
  intro d hd
  obtain ⟨a1, a2, a3, a4, a5⟩ := h d hd
  have hK : KN N G d = KN M G d := by
    funext m i
    unfold KN
    by_cases hm : m < 2
    · rw [e _ _ (by omega) (by omega)]
    · exact propext ⟨fun q => absurd q.1 hm, fun q => absurd q.1 hm⟩
  rw [hK, e (101 + 7 * d) _ (by omega) (by omega), e (101 + 7 * d) _ (by omega) (by omega), e 101 _ (by omega) (by omega), e 108 _ (by omega) (by omega)]
  refine ⟨a1, ?_, ?_, ?_, ?_⟩
  · intro i hi
    rw [e _ _ (by omega) (by omega), e _ _ (by omega) (by omega)]
    exact a2 i hi
  · intro i j hi hj
    rw [e _ _ (by omega) (by omega), e _ _ (by omega) (by omega)]
    exact a3 i j hi hj
  · intro q hq
    rw [e _ _ (by omega) (by omega)]
    exact a4 q hq
  · exact a5.same (fun m i q => ⟨e _ _ (by have := q.1; omega) (by have := q.1; omega), e _ _ (by have := q.1; omega) (by have := q.1; omega), e _ _ (by have := q.1; omega) (by have := q.1; omega)⟩) (fun q hq => ⟨e _ _ (by omega) (by omega), e _ _ (by omega) (by omega), e _ _ (by omega) (by omega)⟩)
theorem BoB.un {P : Nat → Prop} (h : BoB 2 M) (u : Un P M N) (hp : ∀ k, k < 12 → P (2 + (27 + 6 * k))) : BoB 2 N := by
  intro k hk
  rw [u.i (hp k hk), u.i (hp k hk)]
  exact h k hk
theorem Sv.un {P : Nat → Prop} (h : Sv M) (u : Un P M N) (hp : P 1) : Sv N := by
  unfold Sv
  rw [u.i hp, u.i hp]
  exact h
/-- a change is delivered to the other device -/
theorem dl_ok {e e' : Nat} {i : Int} (h : Qd M G) (he : e < 2) (he' : e' = 1 - e) (i0 : 0 ≤ i) (i1 : i < iV M (101 + 7 * e) 1) (hf : 20 ≤ f) : ∃ M' r, f_Calendarhall_deliver O f 1 (e : Int) i M = some (r, M') ∧ Un (fun a => a = 0 ∨ 1044 ≤ a ∨ (1 < a ∧ a < 140 ∧ a ≠ 101 + 7 * e' ∧ a ≠ 105 + 7 * e' ∧ a ≠ 106 + 7 * e' ∧ a ≠ 107 + 7 * e')) M M' ∧ Qd M' (fun m j => G m j ∨ (m = e ∧ j = i.toNat)) ∧ iV M' (101 + 7 * e') 1 = iV M (101 + 7 * e') 1 := by
  obtain ⟨hw, hs, hB, hA⟩ := h
  have he2 : e' < 2 := by omega
  obtain ⟨a1, a2, a3, a4, a5⟩ := hA e he
  obtain ⟨b1, b2, b3, b4, b5⟩ := hA e' he2
  have hz : ((e : Int)).toNat = e := by omega
  have hz2 : (1 - (e : Int)).toNat = e' := by omega
  obtain ⟨N, eN, uN, wN, sN, BN⟩ := sv_un (O := O) (f := f) hw hs hB hf
  have AN : Al N G := hA.un (uN.le (fun a q => by (try dsimp only at q ⊢); omega))
  have nv : ∀ a j, 1 < a → a < 140 → iV N a j = iV M a j := fun a j q1 q2 => uN.i (by (try dsimp only); omega)
  have hi := a2 i.toNat (by omega)
  have hrec := e_receive (O := O) (f := f) (M := N) (k := e') (j := e) (i := i) (m := (e : Int)) wN he2 he i0 (by omega) (by rw [nv _ _ (by omega) (by omega)]; omega) (by rw [nv _ _ (by omega) (by omega)]; omega) (by rw [nv _ _ (by omega) (by omega)]; omega) (by omega) (by omega)
  obtain ⟨L, eL⟩ : ∃ L, L = iS N (101 + 7 * e') 0 (max (iV N (101 + 7 * e') 0) (iV N (104 + 7 * e) i.toNat)) := ⟨_, rfl⟩
  rw [← eL] at hrec
  have wL : Wd L := by rw [eL]; exact wN
  have lv : ∀ a j, a ≠ 101 + 7 * e' → iV L a j = iV N a j := fun a j q => by rw [eL, iV_o (Or.inl q)]
  have lc : iV L (101 + 7 * e') 0 = max (iV M (101 + 7 * e') 0) (iV M (104 + 7 * e) i.toNat) := by
    have r1 := iV_r N (101 + 7 * e') 0
    have r2 := iV_r N (104 + 7 * e) i.toNat
    rw [eL, iV_s (by omega) (by omega), nv _ _ (by omega) (by omega), nv _ _ (by omega) (by omega)]
  have lc1 : iV L (101 + 7 * e') 1 = iV M (101 + 7 * e') 1 := by
    rw [eL, iV_o (by omega), nv _ _ (by omega) (by omega)]
  rw [← lv (102 + 7 * e) _ (by omega), ← lv (103 + 7 * e) _ (by omega), ← lv (104 + 7 * e) _ (by omega)] at hrec
  have uL : Un (fun a => a ≠ 101 + 7 * e') N L := by
    rw [eL]
    exact Un.rf.iS (fun q => q rfl)
  obtain ⟨M', eM⟩ : ∃ M', M' = shD L e' (e : Int) (iV L (102 + 7 * e) i.toNat) (iV L (103 + 7 * e) i.toNat) (iV L (104 + 7 * e) i.toNat) := ⟨_, rfl⟩
  have uM : Un (fun a => a ≠ 105 + 7 * e' ∧ a ≠ 106 + 7 * e' ∧ a ≠ 107 + 7 * e') L M' := by
    rw [eM]
    exact shD_un
  rw [← eM] at hrec
  have wM : Wd M' := uM.wd wL
  have uu : Un (fun a => a = 0 ∨ 1044 ≤ a ∨ (1 < a ∧ a < 140 ∧ a ≠ 101 + 7 * e' ∧ a ≠ 105 + 7 * e' ∧ a ≠ 106 + 7 * e' ∧ a ≠ 107 + 7 * e')) M M' := ((uN.le (fun a q => by (try dsimp only at q ⊢); omega)).tr (uL.le (fun a q => by (try dsimp only at q ⊢); omega))).tr (uM.le (fun a q => by (try dsimp only at q ⊢); omega))
  -- what is in M' of M
  have v1 : ∀ d, d < 2 → iV M' (101 + 7 * d) 1 = iV M (101 + 7 * d) 1 := by
    intro d hd
    rw [uM.i (by (try dsimp only); omega)]
    by_cases q : d = e'
    · rw [q]
      exact lc1
    · rw [lv _ _ (by omega), nv _ _ (by omega) (by omega)]
  have vr : ∀ d t j, d < 2 → t = 102 ∨ t = 103 ∨ t = 104 → iV L (t + 7 * d) j = iV M (t + 7 * d) j ∧ iV M' (t + 7 * d) j = iV M (t + 7 * d) j := by
    intro d t j hd ht
    have q : iV L (t + 7 * d) j = iV M (t + 7 * d) j := by rw [lv _ _ (by omega), nv _ _ (by omega) (by omega)]
    exact ⟨q, by rw [uM.i (by (try dsimp only); omega)]; exact q⟩
  have vs : ∀ t j, t = 101 ∨ t = 105 ∨ t = 106 ∨ t = 107 → iV M' (t + 7 * e) j = iV M (t + 7 * e) j := by
    intro t j ht
    rw [uM.i (by (try dsimp only); omega), lv _ _ (by omega), nv _ _ (by omega) (by omega)]
  have vc : iV M' (101 + 7 * e') 0 = max (iV M (101 + 7 * e') 0) (iV M (104 + 7 * e) i.toNat) := by
    rw [uM.i (by (try dsimp only); omega)]
    exact lc
  have sL : ShK L e' (KN M G e') := by
    refine b5.same (fun m j q => ⟨(vr m 102 j q.1 (by omega)).1, (vr m 103 j q.1 (by omega)).1, (vr m 104 j q.1 (by omega)).1⟩) (fun q hq => ⟨?_, ?_, ?_⟩) <;> rw [lv _ _ (by omega), nv _ _ (by omega) (by omega)]
  have hKn : ∀ d, d < 2 → KN M' (fun m j => G m j ∨ (m = e ∧ j = i.toNat)) d = fun m j => KN M G d m j ∨ (m = e ∧ j = i.toNat) := by
    intro d hd
    funext m j
    unfold KN
    apply propext
    constructor
    · rintro ⟨q1, q2, q3⟩
      rw [v1 m q1] at q2
      rcases q3 with q3 | q3 | q3
      · exact Or.inl ⟨q1, q2, Or.inl q3⟩
      · exact Or.inl ⟨q1, q2, Or.inr q3⟩
      · exact Or.inr q3
    · rintro (⟨q1, q2, q3⟩ | ⟨rfl, rfl⟩)
      · rw [v1 m q1]
        exact ⟨q1, q2, q3.imp id Or.inl⟩
      · rw [v1 m he]
        exact ⟨he, by omega, Or.inr (Or.inr ⟨rfl, rfl⟩)⟩
  have shE' : ShK M' e' (KN M' (fun m j => G m j ∨ (m = e ∧ j = i.toNat)) e') := by
    rw [hKn e' he2, eM]
    exact sL.put (p := (iV M (102 + 7 * e) i.toNat).toNat) (by rw [(vr e 102 _ he (by omega)).1]; omega) (by omega) (by rw [(vr e 104 _ he (by omega)).1]; omega) he he2 (fun a b q => q.1) (fun a b => Iff.rfl)
  have shE : ShK M' e (KN M' (fun m j => G m j ∨ (m = e ∧ j = i.toNat)) e) := by
    have q : KN M' (fun m j => G m j ∨ (m = e ∧ j = i.toNat)) e = KN M G e := by
      rw [hKn e he]
      funext m j
      apply propext
      constructor
      · rintro (q | ⟨rfl, rfl⟩)
        · exact q
        · exact ⟨he, by omega, Or.inl rfl⟩
      · exact Or.inl
    rw [q]
    exact a5.same (fun m j q => ⟨(vr m 102 j q.1 (by omega)).2, (vr m 103 j q.1 (by omega)).2, (vr m 104 j q.1 (by omega)).2⟩) (fun q hq => ⟨vs 105 q (by omega), vs 106 q (by omega), vs 107 q (by omega)⟩)
  have hct : iV M' 101 1 = iV M 101 1 ∧ iV M' 108 1 = iV M 108 1 := ⟨v1 0 (by omega), v1 1 (by omega)⟩
  refine ⟨M', iV M' (101 + 7 * e') 0, ?_, uu, ⟨wM, ?_, ?_, ?_⟩, v1 e' he2⟩
  · unfold f_Calendarhall_deliver
    rw [a_Cal_is hw, c_deviceNumbered hw (by omega) (by omega), hz, lt_F i0 (by omega) (by omega), a_Device_count hw he, lt_T i1 (by omega) (by omega), a_Cal_is hw, c_deviceNumbered hw (by omega) (by omega), hz2, a_Cal_is hw, eN, xcl_e, a_Device_is wN he2, hrec, xcl_e, a_Device_clock wM he2]
  · exact (sN.un uL (by (try dsimp only); omega)).un uM (by (try dsimp only); omega)
  · exact (BN.un uL (fun k hk => by (try dsimp only); omega)).un uM (fun k hk => by (try dsimp only); omega)
  · intro d hd
    have hde : d = e ∨ d = e' := by omega
    rw [hct.1, hct.2, v1 d hd]
    rcases hde with rfl | rfl
    · rw [vs 101 0 (by omega)]
      refine ⟨a1, fun j hj => ?_, fun j l hj hl => ?_, fun q hq => ?_, shE⟩
      · rw [(vr d 104 j hd (by omega)).2, (vr d 102 j hd (by omega)).2]
        exact a2 j hj
      · rw [(vr d 104 j hd (by omega)).2, (vr d 104 l hd (by omega)).2]
        exact a3 j l hj hl
      · rw [vs 106 q (by omega)]
        exact a4 q hq
    · rw [vc]
      refine ⟨⟨b1.1, b1.2.1, by omega, by omega⟩, fun j hj => ?_, fun j l hj hl => ?_, fun q hq => ?_, shE'⟩
      · rw [(vr d 104 j hd (by omega)).2, (vr d 102 j hd (by omega)).2]
        have := b2 j hj
        omega
      · rw [(vr d 104 j hd (by omega)).2, (vr d 104 l hd (by omega)).2]
        exact b3 j l hj hl
      · have e6 : iV M' (106 + 7 * d) q = iV M (106 + 7 * d) q ∨ iV M' (106 + 7 * d) q = iV M (104 + 7 * e) i.toNat := by
          have lq : iV L (106 + 7 * d) q = iV M (106 + 7 * d) q := by rw [lv _ _ (by omega), nv _ _ (by omega) (by omega)]
          have l4 := (vr e 104 i.toNat he (by omega)).1
          rw [eM]
          unfold shD
          split
          · exact Or.inl lq
          · by_cases hq2 : q = (iV L (102 + 7 * e) i.toNat).toNat
            · rw [iV_o (by omega), ← hq2, iV_sv]
              exact Or.inr l4
            · rw [iV_o (by omega), iV_o (by omega), iV_o (by omega)]
              exact Or.inl lq
        have := b4 q hq
        omega
end ALM
end
/-! draft 532.change -/
section
/-! ===== a change is made ===== -/
section CHG
variable {O : Nat → Option va_E} {f : Nat} {M N : xM} {k : Nat} {p v m c : Int} {G : Nat → Nat → Prop}
theorem mkD_un : Un (fun a => a ≠ 101 + 7 * k ∧ a ≠ 102 + 7 * k ∧ a ≠ 103 + 7 * k ∧ a ≠ 104 + 7 * k) M (mkD M k p v) := by
  unfold mkD
  exact ((((Un.rf.iS (by (try dsimp only); omega)).iS (by (try dsimp only); omega)).iS (by (try dsimp only); omega)).iS (by (try dsimp only); omega)).iS (by (try dsimp only); omega)
theorem mkD_o {t j : Nat} (ht : t = 102 ∨ t = 103 ∨ t = 104) (hj : j ≠ (iV M (101 + 7 * k) 1).toNat) : iV (mkD M k p v) (t + 7 * k) j = iV M (t + 7 * k) j := by
  unfold mkD
  rw [iV_o (by omega), iV_o (by omega), iV_o (by omega), iV_o (by omega), iV_o (by omega)]
theorem mkD_n (h0 : 0 ≤ p) (h1 : p < 48) (v0 : 0 ≤ v) (v1 : v < 1000) (c0 : 0 ≤ iV M (101 + 7 * k) 0) (c1 : iV M (101 + 7 * k) 0 ≤ 1000000) (n0 : 0 ≤ iV M (101 + 7 * k) 1) (n1 : iV M (101 + 7 * k) 1 < 40) : iV (mkD M k p v) (101 + 7 * k) 0 = iV M (101 + 7 * k) 0 + 1 ∧ iV (mkD M k p v) (101 + 7 * k) 1 = iV M (101 + 7 * k) 1 + 1 ∧ iV (mkD M k p v) (102 + 7 * k) (iV M (101 + 7 * k) 1).toNat = p ∧ iV (mkD M k p v) (103 + 7 * k) (iV M (101 + 7 * k) 1).toNat = v ∧ iV (mkD M k p v) (104 + 7 * k) (iV M (101 + 7 * k) 1).toNat = iV M (101 + 7 * k) 0 + 1 := by
  unfold mkD
  refine ⟨?_, ?_, ?_, ?_, ?_⟩
  · rw [iV_o (by omega), iV_o (by omega), iV_o (by omega), iV_o (by omega), iV_s (by omega) (by omega)]
  · rw [iV_s (by omega) (by omega)]
  · rw [iV_o (by omega), iV_o (by omega), iV_o (by omega), iV_s (by omega) (by omega)]
  · rw [iV_o (by omega), iV_o (by omega), iV_s (by omega) (by omega)]
  · rw [iV_o (by omega), iV_s (by omega) (by omega)]
theorem ch_ok {n q : Int} (h : Qd M G) (hG : ∀ m i, m < 2 → G m i → (i : Int) < iV M (101 + 7 * m) 1) (hk : k < 2) (n0 : 0 ≤ n) (n1 : n ≤ 11) (q0 : 0 ≤ q) (q1 : q ≤ 3) (v0 : 0 ≤ v) (v1 : v < 1000) (ct : iV M (101 + 7 * k) 1 < 40) (hf : 20 ≤ f) : ∃ M', f_Calendarhall_change O f 1 (k : Int) n q v M = some (iV M (101 + 7 * k) 0 + 1, M') ∧ Un (fun a => a = 0 ∨ 1044 ≤ a ∨ (1 < a ∧ a < 140 ∧ (a < 101 + 7 * k ∨ 107 + 7 * k < a))) M M' ∧ Qd M' G ∧ iV M' (101 + 7 * k) 1 = iV M (101 + 7 * k) 1 + 1 ∧ (∀ t j, t = 102 ∨ t = 103 ∨ t = 104 → j ≠ (iV M (101 + 7 * k) 1).toNat → iV M' (t + 7 * k) j = iV M (t + 7 * k) j) ∧ iV M' (102 + 7 * k) (iV M (101 + 7 * k) 1).toNat = n * 4 + q ∧ iV M' (103 + 7 * k) (iV M (101 + 7 * k) 1).toNat = v ∧ iV M' (104 + 7 * k) (iV M (101 + 7 * k) 1).toNat = iV M (101 + 7 * k) 0 + 1 ∧ iV M' (105 + 7 * k) (n * 4 + q).toNat = v := by
  obtain ⟨hw, hs, hB, hA⟩ := h
  obtain ⟨a1, a2, a3, a4, a5⟩ := hA k hk
  have hA0 : 0 ≤ iV M 101 1 ∧ iV M 101 1 ≤ 40 := ⟨(hA 0 (by omega)).1.1, (hA 0 (by omega)).1.2.1⟩
  have hA1 : 0 ≤ iV M 108 1 ∧ iV M 108 1 ≤ 40 := ⟨(hA 1 (by omega)).1.1, (hA 1 (by omega)).1.2.1⟩
  have hz : ((k : Int)).toNat = k := by omega
  obtain ⟨N, eN, uN, wN, sN, BN⟩ := sv_un (O := O) (f := f) hw hs hB hf
  have nv : ∀ a j, 1 < a → a < 140 → iV N a j = iV M a j := fun a j q1 q2 => uN.i (by (try dsimp only); omega)
  have c1 := nv (101 + 7 * k) 0 (by omega) (by omega)
  have c2 := nv (101 + 7 * k) 1 (by omega) (by omega)
  obtain ⟨ci, eci⟩ : ∃ ci, ci = (iV M (101 + 7 * k) 1).toNat := ⟨_, rfl⟩
  obtain ⟨p, ep⟩ : ∃ p, p = n * 4 + q := ⟨_, rfl⟩
  have hmk := e_make (O := O) (f := f) (M := N) (k := k) (p := p) (v := v) (m := (k : Int)) wN hk (by omega) (by omega) (by omega) (by omega) (by omega) (by omega) (by omega) (by omega)
  obtain ⟨g1, g2, g3, g4, g5⟩ := mkD_n (M := N) (k := k) (p := p) (v := v) (by omega) (by omega) v0 v1 (by omega) (by omega) (by omega) (by omega)
  have uL := mkD_un (M := N) (k := k) (p := p) (v := v)
  have lo : ∀ t j, t = 102 ∨ t = 103 ∨ t = 104 → j ≠ ci → iV (mkD N k p v) (t + 7 * k) j = iV M (t + 7 * k) j := by
    intro t j ht hj
    rw [mkD_o ht (by rw [c2]; omega), nv _ _ (by omega) (by omega)]
  have wL : Wd (mkD N k p v) := wN
  obtain ⟨L, eL⟩ : ∃ L, L = mkD N k p v := ⟨_, rfl⟩
  rw [← eL] at hmk g1 g2 g3 g4 g5 uL wL lo
  rw [c1] at g1 g5 hmk
  rw [c2] at g2 g3 g4 g5
  rw [← eci] at g3 g4 g5 ⊢
  obtain ⟨M', eM⟩ : ∃ M', M' = shD L k (k : Int) p v (iV M (101 + 7 * k) 0 + 1) := ⟨_, rfl⟩
  rw [← eM] at hmk
  have uM : Un (fun a => a ≠ 105 + 7 * k ∧ a ≠ 106 + 7 * k ∧ a ≠ 107 + 7 * k) L M' := by
    rw [eM]
    exact shD_un
  have wM : Wd M' := uM.wd wL
  have uu : Un (fun a => a = 0 ∨ 1044 ≤ a ∨ (1 < a ∧ a < 140 ∧ (a < 101 + 7 * k ∨ 107 + 7 * k < a))) M M' := ((uN.le (fun a q => by (try dsimp only at q ⊢); omega)).tr (uL.le (fun a q => by (try dsimp only at q ⊢); omega))).tr (uM.le (fun a q => by (try dsimp only at q ⊢); omega))
  have r1 : ∀ t j, t = 102 ∨ t = 103 ∨ t = 104 → iV M' (t + 7 * k) j = iV L (t + 7 * k) j := fun t j ht => uM.i (by (try dsimp only); omega)
  have k0 : iV M' (101 + 7 * k) 0 = iV M (101 + 7 * k) 0 + 1 := by
    rw [uM.i (by (try dsimp only); omega)]
    exact g1
  have k1 : iV M' (101 + 7 * k) 1 = iV M (101 + 7 * k) 1 + 1 := by
    rw [uM.i (by (try dsimp only); omega)]
    exact g2
  have ro : ∀ t j, t = 102 ∨ t = 103 ∨ t = 104 → j ≠ ci → iV M' (t + 7 * k) j = iV M (t + 7 * k) j := fun t j ht hj => (r1 t j ht).trans (lo t j ht hj)
  have ls : ∀ t j, t = 105 ∨ t = 106 ∨ t = 107 → iV L (t + 7 * k) j = iV M (t + 7 * k) j := by
    intro t j ht
    rw [uL.i (by (try dsimp only); omega), nv _ _ (by omega) (by omega)]
  have b4 := a4 p.toNat (by omega)
  have hsh : M' = iS (iS (iS L (105 + 7 * k) p.toNat v) (106 + 7 * k) p.toNat (iV M (101 + 7 * k) 0 + 1)) (107 + 7 * k) p.toNat k := by
    rw [eM]
    unfold shD
    rw [ls 106 _ (by omega), if_neg (by omega)]
  have s5 : iV M' (105 + 7 * k) p.toNat = v := by
    rw [hsh, iV_o (by omega), iV_o (by omega), iV_s (by omega) (by omega)]
  have s6 : ∀ j, j < 48 → iV M' (106 + 7 * k) j = if j = p.toNat then iV M (101 + 7 * k) 0 + 1 else iV M (106 + 7 * k) j := by
    intro j hj
    rw [hsh]
    by_cases e : j = p.toNat
    · rw [iV_o (by omega), e, iV_s (by omega) (by omega), if_pos rfl]
    · rw [iV_o (by omega), iV_o (by omega), iV_o (by omega), ls 106 _ (by omega), if_neg e]
  -- the other device
  have vo : ∀ d a j, d < 2 → d ≠ k → 101 ≤ a → a ≤ 107 → iV M' (a + 7 * d) j = iV M (a + 7 * d) j := fun d a j hd hdk q1 q2 => uu.i (by (try dsimp only); omega)
  have v1 : ∀ d, d < 2 → iV M' (101 + 7 * d) 1 = if d = k then iV M (101 + 7 * k) 1 + 1 else iV M (101 + 7 * d) 1 := by
    intro d hd
    by_cases e : d = k
    · rw [if_pos e, e]
      exact k1
    · rw [if_neg e]
      exact vo d 101 1 hd e (by omega) (by omega)
  have hKk : KN M' G k = fun m j => KN M G k m j ∨ (m = k ∧ j = ci) := by
    funext m j
    unfold KN
    apply propext
    constructor
    · rintro ⟨q1, q2, q3⟩
      rw [v1 m q1] at q2
      by_cases e : m = k
      · rw [if_pos e] at q2
        by_cases ej : j = ci
        · exact Or.inr ⟨e, ej⟩
        · exact Or.inl ⟨q1, by rw [e]; omega, q3⟩
      · rw [if_neg e] at q2
        exact Or.inl ⟨q1, q2, q3⟩
    · rintro (⟨q1, q2, q3⟩ | ⟨rfl, rfl⟩)
      · refine ⟨q1, ?_, q3⟩
        rw [v1 m q1]
        by_cases e : m = k
        · rw [if_pos e]
          rw [e] at q2
          omega
        · rw [if_neg e]
          exact q2
      · refine ⟨hk, ?_, Or.inl rfl⟩
        rw [v1 m hk, if_pos rfl]
        omega
  have hKo : ∀ d, d < 2 → d ≠ k → KN M' G d = KN M G d := by
    intro d hd hdk
    funext m j
    unfold KN
    apply propext
    by_cases hm : m < 2
    · rw [v1 m hm]
      by_cases e : m = k
      · rw [if_pos e, e]
        constructor
        · rintro ⟨q1, q2, q3⟩
          rcases q3 with q3 | q3
          · exact absurd q3.symm hdk
          · exact ⟨q1, hG k j hk q3, Or.inr q3⟩
        · rintro ⟨q1, q2, q3⟩
          exact ⟨q1, by omega, q3⟩
      · rw [if_neg e]
    · exact ⟨fun q => absurd q.1 hm, fun q => absurd q.1 hm⟩
  have sL : ShK L k (KN M G k) := by
    refine a5.same (fun m j q => ?_) (fun q hq => ⟨ls 105 q (by omega), ls 106 q (by omega), ls 107 q (by omega)⟩)
    by_cases e : m = k
    · have hj : j ≠ ci := by
        have := q.2.1
        rw [e] at this
        omega
      rw [e]
      exact ⟨lo 102 j (by omega) hj, lo 103 j (by omega) hj, lo 104 j (by omega) hj⟩
    · have := q.1
      refine ⟨?_, ?_, ?_⟩ <;> rw [uL.i (by (try dsimp only); omega), nv _ _ (by omega) (by omega)]
  have sMk : ShK M' k (KN M' G k) := by
    rw [hKk, eM]
    have q := sL.put (m := k) (i := ci) (p := p.toNat) (K' := fun m j => KN M G k m j ∨ (m = k ∧ j = ci)) (by rw [g3]; omega) (by omega) (by rw [g5]; omega) hk hk (fun a b q => q.1) (fun a b => Iff.rfl)
    rw [g3, g4, g5] at q
    exact q
  have sMo : ∀ d, d < 2 → d ≠ k → ShK M' d (KN M' G d) := by
    intro d hd hdk
    rw [hKo d hd hdk]
    refine (hA d hd).2.2.2.2.same (fun m j q => ?_) (fun q hq => ⟨vo d 105 q hd hdk (by omega) (by omega), vo d 106 q hd hdk (by omega) (by omega), vo d 107 q hd hdk (by omega) (by omega)⟩)
    by_cases e : m = k
    · have hj : j ≠ ci := by
        have := q.2.1
        rw [e] at this
        omega
      rw [e]
      exact ⟨ro 102 j (by omega) hj, ro 103 j (by omega) hj, ro 104 j (by omega) hj⟩
    · exact ⟨vo m 102 j q.1 e (by omega) (by omega), vo m 103 j q.1 e (by omega) (by omega), vo m 104 j q.1 e (by omega) (by omega)⟩
  have hsum : iV M' 101 1 + iV M' 108 1 = iV M 101 1 + iV M 108 1 + 1 := by
    have x0 : iV M' 101 1 = if 0 = k then iV M (101 + 7 * k) 1 + 1 else iV M 101 1 := v1 0 (by omega)
    have x1 : iV M' 108 1 = if 1 = k then iV M (101 + 7 * k) 1 + 1 else iV M 108 1 := v1 1 (by omega)
    have hk2 : k = 0 ∨ k = 1 := by omega
    rcases hk2 with e | e
    · rw [if_pos e.symm] at x0
      rw [if_neg (by omega)] at x1
      have y : iV M (101 + 7 * k) 1 = iV M 101 1 := by rw [e]
      omega
    · rw [if_neg (by omega)] at x0
      rw [if_pos e.symm] at x1
      have y : iV M (101 + 7 * k) 1 = iV M 108 1 := by rw [e]
      omega
  refine ⟨M', ?_, uu, ⟨wM, ?_, ?_, ?_⟩, k1, ro, ?_, ?_, ?_, by rw [← ep]; exact s5⟩
  · unfold f_Calendarhall_change
    rw [a_Cal_is hw, c_deviceNumbered hw (by omega) (by omega), hz, c_needRange n0 n1 (by omega) (by omega), c_needRange q0 q1 (by omega) (by omega), c_needRange v0 (by omega) (by omega) (by omega), a_Device_count hw hk, lt_T ct (by omega) (by omega), a_Cal_is hw, eN, xcl_e, a_Device_is wN hk, ← ep, hmk, xcl_e, a_Device_clock wM hk, k0]
  · exact (sN.un uL (by (try dsimp only); omega)).un uM (by (try dsimp only); omega)
  · exact (BN.un uL (fun k hk => by (try dsimp only); omega)).un uM (fun k hk => by (try dsimp only); omega)
  · intro d hd
    rw [hsum]
    by_cases e : d = k
    · subst e
      rw [k0, k1]
      refine ⟨⟨by omega, by omega, by omega, by omega⟩, fun j hj => ?_, fun j l hj hl => ?_, fun q hq => ?_, sMk⟩
      · by_cases ej : j = ci
        · rw [ej, r1 104 _ (by omega), r1 102 _ (by omega), g5, g3]
          omega
        · rw [ro 104 j (by omega) ej, ro 102 j (by omega) ej]
          have := a2 j (by omega)
          omega
      · have ej : j ≠ ci := by omega
        rw [ro 104 j (by omega) ej]
        by_cases el : l = ci
        · rw [el, r1 104 _ (by omega), g5]
          have := a2 j (by omega)
          omega
        · rw [ro 104 l (by omega) el]
          exact a3 j l hj (by omega)
      · rw [s6 q hq]
        have := a4 q hq
        split <;> omega
    · obtain ⟨b1, b2, b3, b4, b5⟩ := hA d hd
      rw [vo d 101 1 hd e (by omega) (by omega), vo d 101 0 hd e (by omega) (by omega)]
      refine ⟨⟨b1.1, b1.2.1, b1.2.2.1, by omega⟩, fun j hj => ?_, fun j l hj hl => ?_, fun q hq => ?_, sMo d hd e⟩
      · rw [vo d 104 j hd e (by omega) (by omega), vo d 102 j hd e (by omega) (by omega)]
        exact b2 j hj
      · rw [vo d 104 j hd e (by omega) (by omega), vo d 104 l hd e (by omega) (by omega)]
        exact b3 j l hj hl
      · rw [vo d 106 q hd e (by omega) (by omega)]
        exact b4 q hq
  · rw [r1 102 _ (by omega), g3, ep]
  · rw [r1 103 _ (by omega), g4]
  · rw [r1 104 _ (by omega), g5]
end CHG
end
