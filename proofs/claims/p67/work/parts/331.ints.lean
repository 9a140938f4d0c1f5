/-! ===== whole numbers, as the machine's ===== -/
def yw (x : Int) : Int32 := Int32.ofInt x
/-- in the range of the machine's ints -/
abbrev yr (x : Int) : Prop := -2147483648 ≤ x ∧ x ≤ 2147483647
theorem yw_to {x : Int} (h : yr x) : (yw x).toInt = x := by
  unfold yr at h
  exact Int32.toInt_ofInt_of_le (by omega) (by omega)
theorem yw_of (x : Int32) : yw x.toInt = x := Int32.ofInt_toInt x
theorem yr_of (x : Int32) : yr x.toInt := ⟨by have := Int32.minValue_le_toInt x; exact this, by have := Int32.toInt_le x; exact this⟩
theorem yw_add (a b : Int) : yw a + yw b = yw (a + b) := (Int32.ofInt_add a b).symm
theorem yw_sub (a b : Int) : yw a - yw b = yw (a - b) := (Int32.ofInt_sub a b).symm
theorem yw_mul (a b : Int) : yw a * yw b = yw (a * b) := (Int32.ofInt_mul a b).symm
theorem yw_neg (a : Int) : -yw a = yw (-a) := (Int32.ofInt_neg a).symm
theorem yw_eq {a b : Int} (ha : yr a) (hb : yr b) : (yw a = yw b) ↔ a = b := by
  constructor
  · intro h
    rw [← yw_to ha, ← yw_to hb, h]
  · rintro rfl; rfl
theorem yw_lt {a b : Int} (ha : yr a) (hb : yr b) : (yw a < yw b) ↔ a < b := by
  rw [Int32.lt_iff_toInt_lt, yw_to ha, yw_to hb]
theorem yw_le {a b : Int} (ha : yr a) (hb : yr b) : (yw a ≤ yw b) ↔ a ≤ b := by
  rw [Int32.le_iff_toInt_le, yw_to ha, yw_to hb]
theorem yw_div {a b : Int} (ha : yr a) (hb : yr b) (hq : yr (a.tdiv b)) : yw a / yw b = yw (a.tdiv b) := by
  apply Int32.toInt_inj.mp
  rw [Int32.toInt_div, yw_to ha, yw_to hb, yw_to hq]
  unfold yr at hq
  exact Int.bmod_eq_of_le (by omega) (by omega)
theorem yw_nat {a : Int} (ha : yr a) : (yw a).toNatClampNeg = a.toNat := by
  show (yw a).toInt.toNat = _
  rw [yw_to ha]
theorem yl_lit (n : Nat) : (no_index (OfNat.ofNat n) : Int32) = yw (no_index (OfNat.ofNat n)) := by
  show Int32.ofNat n = Int32.ofInt (Int.ofNat n)
  apply Int32.toBitVec_inj.mp
  show BitVec.ofNat 32 n = BitVec.ofInt 32 (Int.ofNat n)
  exact (BitVec.ofInt_natCast 32 n).symm
theorem yl_0 : (0 : Int32) = yw 0 := rfl
def yl (x : Int) : Int64 := Int64.ofInt x
abbrev yrl (x : Int) : Prop := -9223372036854775808 ≤ x ∧ x ≤ 9223372036854775807
theorem yl_to {x : Int} (h : yrl x) : (yl x).toInt = x := by
  unfold yrl at h
  exact Int64.toInt_ofInt_of_le (by omega) (by omega)
theorem yl_of (x : Int64) : yl x.toInt = x := Int64.ofInt_toInt x
theorem yL_lit (n : Nat) : (no_index (OfNat.ofNat n) : Int64) = yl (no_index (OfNat.ofNat n)) := by
  show Int64.ofNat n = Int64.ofInt (Int.ofNat n)
  apply Int64.toBitVec_inj.mp
  show BitVec.ofNat 64 n = BitVec.ofInt 64 (Int.ofNat n)
  exact (BitVec.ofInt_natCast 64 n).symm
theorem yl_add (a b : Int) : yl a + yl b = yl (a + b) := (Int64.ofInt_add a b).symm
theorem yl_sub (a b : Int) : yl a - yl b = yl (a - b) := (Int64.ofInt_sub a b).symm
theorem yl_mul (a b : Int) : yl a * yl b = yl (a * b) := (Int64.ofInt_mul a b).symm
theorem yl_div {a b : Int} (ha : yrl a) (hb : yrl b) (hq : yrl (a.tdiv b)) : yl a / yl b = yl (a.tdiv b) := by
  apply Int64.toInt_inj.mp
  rw [Int64.toInt_div, yl_to ha, yl_to hb, yl_to hq]
  unfold yrl at hq
  exact Int.bmod_eq_of_le (by omega) (by omega)
theorem yl_eq {a b : Int} (ha : yrl a) (hb : yrl b) : (yl a = yl b) ↔ a = b := by
  constructor
  · intro h
    rw [← yl_to ha, ← yl_to hb, h]
  · rintro rfl; rfl
theorem yl_lt {a b : Int} (ha : yrl a) (hb : yrl b) : (yl a < yl b) ↔ a < b := by
  rw [Int64.lt_iff_toInt_lt, yl_to ha, yl_to hb]
theorem yw_long {a : Int} (ha : yr a) : Int32.toInt64 (yw a) = yl a := by
  apply Int64.toInt_inj.mp
  rw [Int32.toInt_toInt64, yw_to ha, yl_to]
  unfold yr at ha
  unfold yrl
  omega
theorem yl_int (a : Int) : Int64.toInt32 (yl a) = yw a := Int64.toInt32_ofInt
/-- what the machine's other reckonings come to, as whole numbers -/
def jdiv (a b : Int) : Int := (yw a / yw b).toInt
def jand (a b : Int) : Int := (yw a &&& yw b).toInt
def jor (a b : Int) : Int := (yw a ||| yw b).toInt
def jxor (a b : Int) : Int := (yw a ^^^ yw b).toInt
def jshl (a b : Int) : Int := (yw a <<< yw b).toInt
def jshr (a b : Int) : Int := (yw a >>> yw b).toInt
def jushr (a b : Int) : Int := ((Int32.toUInt32 (yw a) >>> (Int32.toUInt32 (yw b) &&& Int32.toUInt32 (yw 31))).toInt32).toInt
def ji2c (a : Int) : Int := ((Int32.toUInt32 (yw a) % 65536).toInt32).toInt
def ji2b (a : Int) : Int := ((Int32.toInt8 (yw a)).toInt32).toInt
def jdc (x y : UInt64) (k : CmpOp) : Int := (Op.cmpValue (FP.dcmp x y) k).toInt
def kdiv (a b : Int) : Int := (yl a / yl b).toInt
def kand (a b : Int) : Int := (yl a &&& yl b).toInt
def kor (a b : Int) : Int := (yl a ||| yl b).toInt
def kxor (a b : Int) : Int := (yl a ^^^ yl b).toInt
def kshl (a b : Int) : Int := (yl a <<< yl b).toInt
def kshr (a b : Int) : Int := (yl a >>> yl b).toInt
def kushr (a b : Int) : Int := ((Int64.toUInt64 (yl a) >>> ((yl b).toUInt64 &&& Int64.toUInt64 (yl 63))).toInt64).toInt
def ki2l (a : Int) : Int := (Int32.toInt64 (yw a)).toInt
def kcmp (a b : Int) : Int := (lg_cmp (yl a) (yl b)).toInt
theorem cj_div (a b : Int) : yw a / yw b = yw (jdiv a b) := (yw_of _).symm
theorem cj_and (a b : Int) : yw a &&& yw b = yw (jand a b) := (yw_of _).symm
theorem cj_or (a b : Int) : yw a ||| yw b = yw (jor a b) := (yw_of _).symm
theorem cj_xor (a b : Int) : yw a ^^^ yw b = yw (jxor a b) := (yw_of _).symm
theorem cj_shl (a b : Int) : yw a <<< yw b = yw (jshl a b) := (yw_of _).symm
theorem cj_shr (a b : Int) : yw a >>> yw b = yw (jshr a b) := (yw_of _).symm
theorem cj_ushr (a b : Int) : (Int32.toUInt32 (yw a) >>> (Int32.toUInt32 (yw b) &&& Int32.toUInt32 (yw 31))).toInt32 = yw (jushr a b) := (yw_of _).symm
theorem cj_i2c (a : Int) : (Int32.toUInt32 (yw a) % 65536).toInt32 = yw (ji2c a) := (yw_of _).symm
theorem cj_i2b (a : Int) : (Int32.toInt8 (yw a)).toInt32 = yw (ji2b a) := (yw_of _).symm
theorem cj_dc (x y : UInt64) (k : CmpOp) : Op.cmpValue (FP.dcmp x y) k = yw (jdc x y k) := (yw_of _).symm
theorem ck_div (a b : Int) : yl a / yl b = yl (kdiv a b) := (yl_of _).symm
theorem ck_and (a b : Int) : yl a &&& yl b = yl (kand a b) := (yl_of _).symm
theorem ck_or (a b : Int) : yl a ||| yl b = yl (kor a b) := (yl_of _).symm
theorem ck_xor (a b : Int) : yl a ^^^ yl b = yl (kxor a b) := (yl_of _).symm
theorem ck_shl (a b : Int) : yl a <<< yl b = yl (kshl a b) := (yl_of _).symm
theorem ck_shr (a b : Int) : yl a >>> yl b = yl (kshr a b) := (yl_of _).symm
theorem ck_ushr (a b : Int) : (Int64.toUInt64 (yl a) >>> ((yl b).toUInt64 &&& Int64.toUInt64 (yl 63))).toInt64 = yl (kushr a b) := (yl_of _).symm
theorem ck_i2l (a : Int) : Int32.toInt64 (yw a) = yl (ki2l a) := (yl_of _).symm
theorem ck_l2i (a : Int) : Int64.toInt32 (yl a) = yw a := yl_int a
theorem ck_cmp (a b : Int) : lg_cmp (yl a) (yl b) = yw (kcmp a b) := (yw_of _).symm
