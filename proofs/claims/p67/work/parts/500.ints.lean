/-! ===== whole numbers, as the machine's ===== -/
def yw (x : Int) : Int32 := Int32.ofInt x
/-- in the range of the machine's ints -/
abbrev yr (x : Int) : Prop := -2147483648 ≤ x ∧ x ≤ 2147483647
theorem yw_to {x : Int} (h : yr x) : (yw x).toInt = x := by
  unfold yr at h
  exact Int32.toInt_ofInt_of_le (by omega) (by omega)
theorem yw_of (x : Int32) : yw x.toInt = x := Int32.ofInt_toInt x
theorem yr_of (x : Int32) : yr x.toInt := ⟨by have := Int32.minValue_le_toInt x; exact this, by have := Int32.toInt_le x; exact this⟩
theorem yw_add (a b : Int) : yw a + yw b = yw (a + b) := (Int32.ofInt_add a b).symm
theorem yw_sub (a b : Int) : yw a - yw b = yw (a - b) := (Int32.ofInt_sub a b).symm
theorem yw_mul (a b : Int) : yw a * yw b = yw (a * b) := (Int32.ofInt_mul a b).symm
theorem yw_neg (a : Int) : -yw a = yw (-a) := (Int32.ofInt_neg a).symm
theorem yw_eq {a b : Int} (ha : yr a) (hb : yr b) : (yw a = yw b) ↔ a = b := by
  constructor
  · intro h
    rw [← yw_to ha, ← yw_to hb, h]
  · rintro rfl; rfl
theorem yw_lt {a b : Int} (ha : yr a) (hb : yr b) : (yw a < yw b) ↔ a < b := by
  rw [Int32.lt_iff_toInt_lt, yw_to ha, yw_to hb]
theorem yw_le {a b : Int} (ha : yr a) (hb : yr b) : (yw a ≤ yw b) ↔ a ≤ b := by
  rw [Int32.le_iff_toInt_le, yw_to ha, yw_to hb]
theorem yw_div {a b : Int} (ha : yr a) (hb : yr b) (hq : yr (a.tdiv b)) : yw a / yw b = yw (a.tdiv b) := by
  apply Int32.toInt_inj.mp
  rw [Int32.toInt_div, yw_to ha, yw_to hb, yw_to hq]
  unfold yr at hq
  exact Int.bmod_eq_of_le (by omega) (by omega)
theorem yw_nat {a : Int} (ha : yr a) : (yw a).toNatClampNeg = a.toNat := by
  show (yw a).toInt.toNat = _
  rw [yw_to ha]
theorem yl_n720 : (-720 : Int32) = yw (-720) := rfl
theorem yl_n120 : (-120 : Int32) = yw (-120) := rfl
theorem yl_n100 : (-100 : Int32) = yw (-100) := rfl
theorem yl_n30 : (-30 : Int32) = yw (-30) := rfl
theorem yl_n10 : (-10 : Int32) = yw (-10) := rfl
theorem yl_n9 : (-9 : Int32) = yw (-9) := rfl
theorem yl_n1 : (-1 : Int32) = yw (-1) := rfl
theorem yl_0 : (0 : Int32) = yw 0 := rfl
theorem yl_1 : (1 : Int32) = yw 1 := rfl
theorem yl_2 : (2 : Int32) = yw 2 := rfl
theorem yl_3 : (3 : Int32) = yw 3 := rfl
theorem yl_4 : (4 : Int32) = yw 4 := rfl
theorem yl_5 : (5 : Int32) = yw 5 := rfl
theorem yl_6 : (6 : Int32) = yw 6 := rfl
theorem yl_7 : (7 : Int32) = yw 7 := rfl
theorem yl_8 : (8 : Int32) = yw 8 := rfl
theorem yl_9 : (9 : Int32) = yw 9 := rfl
theorem yl_10 : (10 : Int32) = yw 10 := rfl
theorem yl_11 : (11 : Int32) = yw 11 := rfl
theorem yl_12 : (12 : Int32) = yw 12 := rfl
theorem yl_13 : (13 : Int32) = yw 13 := rfl
theorem yl_15 : (15 : Int32) = yw 15 := rfl
theorem yl_16 : (16 : Int32) = yw 16 := rfl
theorem yl_18 : (18 : Int32) = yw 18 := rfl
theorem yl_19 : (19 : Int32) = yw 19 := rfl
theorem yl_20 : (20 : Int32) = yw 20 := rfl
theorem yl_23 : (23 : Int32) = yw 23 := rfl
theorem yl_28 : (28 : Int32) = yw 28 := rfl
theorem yl_29 : (29 : Int32) = yw 29 := rfl
theorem yl_30 : (30 : Int32) = yw 30 := rfl
theorem yl_31 : (31 : Int32) = yw 31 := rfl
theorem yl_32 : (32 : Int32) = yw 32 := rfl
theorem yl_33 : (33 : Int32) = yw 33 := rfl
theorem yl_40 : (40 : Int32) = yw 40 := rfl
theorem yl_45 : (45 : Int32) = yw 45 := rfl
theorem yl_48 : (48 : Int32) = yw 48 := rfl
theorem yl_56 : (56 : Int32) = yw 56 := rfl
theorem yl_57 : (57 : Int32) = yw 57 := rfl
theorem yl_60 : (60 : Int32) = yw 60 := rfl
theorem yl_64 : (64 : Int32) = yw 64 := rfl
theorem yl_97 : (97 : Int32) = yw 97 := rfl
theorem yl_99 : (99 : Int32) = yw 99 := rfl
theorem yl_100 : (100 : Int32) = yw 100 := rfl
theorem yl_105 : (105 : Int32) = yw 105 := rfl
theorem yl_120 : (120 : Int32) = yw 120 := rfl
theorem yl_122 : (122 : Int32) = yw 122 := rfl
theorem yl_127 : (127 : Int32) = yw 127 := rfl
theorem yl_130 : (130 : Int32) = yw 130 := rfl
theorem yl_153 : (153 : Int32) = yw 153 := rfl
theorem yl_200 : (200 : Int32) = yw 200 := rfl
theorem yl_255 : (255 : Int32) = yw 255 := rfl
theorem yl_256 : (256 : Int32) = yw 256 := rfl
theorem yl_300 : (300 : Int32) = yw 300 := rfl
theorem yl_320 : (320 : Int32) = yw 320 := rfl
theorem yl_365 : (365 : Int32) = yw 365 := rfl
theorem yl_400 : (400 : Int32) = yw 400 := rfl
theorem yl_480 : (480 : Int32) = yw 480 := rfl
theorem yl_500 : (500 : Int32) = yw 500 := rfl
theorem yl_540 : (540 : Int32) = yw 540 := rfl
theorem yl_600 : (600 : Int32) = yw 600 := rfl
theorem yl_672 : (672 : Int32) = yw 672 := rfl
theorem yl_700 : (700 : Int32) = yw 700 := rfl
theorem yl_730 : (730 : Int32) = yw 730 := rfl
theorem yl_799 : (799 : Int32) = yw 799 := rfl
theorem yl_800 : (800 : Int32) = yw 800 := rfl
theorem yl_840 : (840 : Int32) = yw 840 := rfl
theorem yl_900 : (900 : Int32) = yw 900 := rfl
theorem yl_999 : (999 : Int32) = yw 999 := rfl
theorem yl_1000 : (1000 : Int32) = yw 1000 := rfl
theorem yl_1020 : (1020 : Int32) = yw 1020 := rfl
theorem yl_1439 : (1439 : Int32) = yw 1439 := rfl
theorem yl_1440 : (1440 : Int32) = yw 1440 := rfl
theorem yl_1441 : (1441 : Int32) = yw 1441 := rfl
theorem yl_1460 : (1460 : Int32) = yw 1460 := rfl
theorem yl_1500 : (1500 : Int32) = yw 1500 := rfl
theorem yl_2000 : (2000 : Int32) = yw 2000 := rfl
theorem yl_2001 : (2001 : Int32) = yw 2001 := rfl
theorem yl_3000 : (3000 : Int32) = yw 3000 := rfl
theorem yl_4095 : (4095 : Int32) = yw 4095 := rfl
theorem yl_4800 : (4800 : Int32) = yw 4800 := rfl
theorem yl_6000 : (6000 : Int32) = yw 6000 := rfl
theorem yl_9216 : (9216 : Int32) = yw 9216 := rfl
theorem yl_10080 : (10080 : Int32) = yw 10080 := rfl
theorem yl_14400 : (14400 : Int32) = yw 14400 := rfl
theorem yl_20160 : (20160 : Int32) = yw 20160 := rfl
theorem yl_36524 : (36524 : Int32) = yw 36524 := rfl
theorem yl_146000 : (146000 : Int32) = yw 146000 := rfl
theorem yl_146096 : (146096 : Int32) = yw 146096 := rfl
theorem yl_146097 : (146097 : Int32) = yw 146097 := rfl
theorem yl_200000 : (200000 : Int32) = yw 200000 := rfl
theorem yl_262143 : (262143 : Int32) = yw 262143 := rfl
theorem yl_525600 : (525600 : Int32) = yw 525600 := rfl
theorem yl_1000000 : (1000000 : Int32) = yw 1000000 := rfl
theorem yl_210240000 : (210240000 : Int32) = yw 210240000 := rfl
theorem yl_1000000000 : (1000000000 : Int32) = yw 1000000000 := rfl
