/-! draft 500.base -/
section
/-! ===== comparisons, reckonings, state as whole numbers ===== -/
section CMP
variable {α : Type} {a b : Int} {x y : α}
theorem lt_T {dp : Decidable (yw a < yw b)} (h : a < b) (ha : -2147483648 ≤ a) (hb : b ≤ 2147483647) : (if yw a < yw b then x else y) = x := if_pos ((yw_lt ⟨ha, by omega⟩ ⟨by omega, hb⟩).mpr h)
theorem lt_F {dp : Decidable (yw a < yw b)} (h : b ≤ a) (hb : -2147483648 ≤ b) (ha : a ≤ 2147483647) : (if yw a < yw b then x else y) = y := if_neg (fun q => by have := (yw_lt ⟨by omega, ha⟩ ⟨hb, by omega⟩).mp q; omega)
theorem le_T {dp : Decidable (yw a ≤ yw b)} (h : a ≤ b) (ha : -2147483648 ≤ a) (hb : b ≤ 2147483647) : (if yw a ≤ yw b then x else y) = x := if_pos ((yw_le ⟨ha, by omega⟩ ⟨by omega, hb⟩).mpr h)
theorem le_F {dp : Decidable (yw a ≤ yw b)} (h : b < a) (hb : -2147483648 ≤ b) (ha : a ≤ 2147483647) : (if yw a ≤ yw b then x else y) = y := if_neg (fun q => by have := (yw_le ⟨by omega, ha⟩ ⟨hb, by omega⟩).mp q; omega)
theorem eq_T {dp : Decidable (yw a = yw b)} (h : a = b) : (if yw a = yw b then x else y) = x := if_pos (by rw [h])
theorem eq_F {dp : Decidable (yw a = yw b)} (h : a ≠ b) (ha : -2147483648 ≤ a) (ha2 : a ≤ 2147483647) (hb : -2147483648 ≤ b) (hb2 : b ≤ 2147483647) : (if yw a = yw b then x else y) = y := if_neg (fun q => h ((yw_eq ⟨ha, ha2⟩ ⟨hb, hb2⟩).mp q))
theorem eqL_F {dp : Decidable (yl a = yl b)} (h : a ≠ b) (ha : -9223372036854775808 ≤ a) (ha2 : a ≤ 9223372036854775807) (hb : -9223372036854775808 ≤ b) (hb2 : b ≤ 9223372036854775807) : (if yl a = yl b then x else y) = y := if_neg (fun q => h ((yl_eq ⟨ha, ha2⟩ ⟨hb, hb2⟩).mp q))
end CMP
theorem xlet_e {α β : Type} (v : α) (f : α → β) : xlet v f = f v := rfl
theorem xcl_e {β γ : Type} (a : β) (M : xM) (A : β → xM → Option γ) : xcl (some (a, M)) A = A a M := rfl
theorem bind_e {α β : Type} (a : α) (A : α → Option β) : (some a).bind A = A a := rfl
theorem xc_of {β γ : Type} {G : Option (β × xM)} {a : β} {M : xM} (h : G = some (a, M)) (A : β → xM → Option γ) : xcl G A = A a M := by rw [h]; rfl
theorem elim_n {α β : Type} (x : β) (f : α → β) : Option.elim none x f = x := rfl
theorem elim_s {α β : Type} (a : α) (x : β) (f : α → β) : Option.elim (some a) x f = f a := rfl
theorem jdiv_e {a b : Int} (h0 : 0 ≤ a) (h1 : 0 < b) (ha : a ≤ 2147483647) (hb : b ≤ 2147483647) : jdiv a b = a / b := by
  have h6 : 0 ≤ a / b := Int.ediv_nonneg h0 (by omega)
  have h7 : a / b ≤ a := Int.ediv_le_self _ h0
  unfold jdiv
  rw [yw_div ⟨by omega, ha⟩ ⟨by omega, hb⟩ (by rw [Int.tdiv_eq_ediv_of_nonneg h0]; exact ⟨by omega, by omega⟩), Int.tdiv_eq_ediv_of_nonneg h0, yw_to ⟨by omega, by omega⟩]
theorem jdiv_t {a b : Int} (h0 : -2147483648 < a) (h1 : 0 < b) (ha : a ≤ 2147483647) (hb : b ≤ 2147483647) : jdiv a b = a.tdiv b := by
  have h6 : -2147483647 ≤ a.tdiv b ∧ a.tdiv b ≤ 2147483647 := by
    rcases Int.le_total 0 a with h | h
    · rw [Int.tdiv_eq_ediv_of_nonneg h]
      have h6 : 0 ≤ a / b := Int.ediv_nonneg h (by omega)
      have h7 : a / b ≤ a := Int.ediv_le_self _ h
      omega
    · have e : a.tdiv b = -((-a).tdiv b) := by rw [Int.neg_tdiv, Int.neg_neg]
      rw [e, Int.tdiv_eq_ediv_of_nonneg (by omega : 0 ≤ -a)]
      have h6 : 0 ≤ (-a) / b := Int.ediv_nonneg (by omega) (by omega)
      have h7 : (-a) / b ≤ -a := Int.ediv_le_self _ (by omega)
      omega
  unfold jdiv
  rw [yw_div ⟨by omega, ha⟩ ⟨by omega, hb⟩ ⟨by omega, by omega⟩, yw_to ⟨by omega, by omega⟩]
theorem jrem_e {a b : Int} (h0 : 0 ≤ a) (h1 : 0 < b) (ha : a ≤ 2147483647) (hb : b ≤ 2147483647) : a - jdiv a b * b = a % b := by
  rw [jdiv_e h0 h1 ha hb, Int.emod_def, Int.mul_comm]
theorem ki2l_e {a : Int} (h0 : -2147483648 ≤ a) (h1 : a ≤ 2147483647) : ki2l a = a := by
  unfold ki2l
  rw [yw_long ⟨h0, h1⟩, yl_to (by unfold yrl; omega)]
theorem yw_natv {a : Int} (h0 : 0 ≤ a) (h1 : a ≤ 2147483647) : (yw a).toBitVec.toNat = a.toNat := by
  have h := yw_to (x := a) ⟨by omega, h1⟩
  have h2 : (yw a).toBitVec.toInt = a := h
  rw [BitVec.toInt_eq_toNat_cond] at h2
  have h3 := (yw a).toBitVec.isLt
  split at h2 <;> omega
theorem toI_nat {x : Int32} {n : Nat} (h : x.toBitVec.toNat = n) (hn : n ≤ 2147483647) : x.toInt = (n : Int) := by
  show x.toBitVec.toInt = _
  rw [BitVec.toInt_eq_toNat_cond, h]
  rw [if_pos (by omega)]
theorem jand_e {a b : Int} (h0 : 0 ≤ a) (h1 : a ≤ 2147483647) (h2 : 0 ≤ b) (h3 : b ≤ 2147483647) : jand a b = ((a.toNat &&& b.toNat : Nat) : Int) := by
  unfold jand
  have hle : a.toNat &&& b.toNat ≤ a.toNat := Nat.and_le_left
  refine toI_nat ?_ (by omega)
  show ((yw a).toBitVec &&& (yw b).toBitVec).toNat = _
  rw [BitVec.toNat_and, yw_natv h0 h1, yw_natv h2 h3]
theorem jor_e {a b : Int} (h0 : 0 ≤ a) (h1 : a ≤ 2147483647) (h2 : 0 ≤ b) (h3 : b ≤ 2147483647) : jor a b = ((a.toNat ||| b.toNat : Nat) : Int) := by
  unfold jor
  have hle : a.toNat ||| b.toNat < 2 ^ 31 := Nat.or_lt_two_pow (by omega) (by omega)
  refine toI_nat ?_ (by omega)
  show ((yw a).toBitVec ||| (yw b).toBitVec).toNat = _
  rw [BitVec.toNat_or, yw_natv h0 h1, yw_natv h2 h3]
theorem sh_amt {b : Int} (h0 : 0 ≤ b) (h1 : b < 32) : jand b 31 = b := by
  rw [jand_e h0 (by omega) (by omega) (by omega)]
  have : ∀ n : Nat, n < 32 → n &&& 31 = n := by decide
  have h := this b.toNat (by omega)
  show ((b.toNat &&& 31 : Nat) : Int) = b
  rw [h]
  omega
theorem jshr_e {a b : Int} (h0 : 0 ≤ a) (h1 : a ≤ 2147483647) (h2 : 0 ≤ b) (h3 : b < 32) : jshr a b = ((a.toNat / 2 ^ b.toNat : Nat) : Int) := by
  unfold jshr
  have hle : a.toNat / 2 ^ b.toNat ≤ a.toNat := Nat.div_le_self _ _
  have hb : (yw b).toBitVec.toNat = b.toNat := yw_natv h2 (by omega)
  have e : (yw a >>> yw b).toBitVec = (yw a).toBitVec.sshiftRight' (yw b).toBitVec := by
    rw [Int32.toBitVec_shiftRight]
    congr 1
    apply BitVec.eq_of_toNat_eq
    rw [show (yw b).toBitVec.smod 32 = (yw b).toBitVec % 32 from ?_]
    · rw [BitVec.toNat_umod, hb]
      show b.toNat % 32 = b.toNat
      omega
    · have hm : (yw b).toBitVec.msb = false := by
        rw [BitVec.msb_eq_decide, decide_eq_false_iff_not, hb]
        omega
      rw [BitVec.smod_eq, hm]
      rfl
  refine toI_nat ?_ (by omega)
  have hm : (yw a).toBitVec.msb = false := by
    rw [BitVec.msb_eq_decide, decide_eq_false_iff_not, yw_natv h0 h1]
    omega
  rw [e, BitVec.sshiftRight_eq', BitVec.sshiftRight_eq_of_msb_false hm, BitVec.toNat_ushiftRight, yw_natv h0 h1, hb, Nat.shiftRight_eq_div_pow]
/-- a bit of a set -/
def bitz (x : Int) (k : Int) : Int := x / 2 ^ k.toNat % 2
theorem bit_e {x k : Int} (h0 : 0 ≤ x) (h1 : x ≤ 2147483647) (h2 : 0 ≤ k) (h3 : k < 32) : jand (jshr x (jand k 31)) 1 = bitz x k := by
  rw [sh_amt h2 h3, jshr_e h0 h1 h2 h3]
  have hle : x.toNat / 2 ^ k.toNat ≤ x.toNat := Nat.div_le_self _ _
  have hq : ∀ q : Nat, q ≤ x.toNat → jand (q : Int) 1 = ((q % 2 : Nat) : Int) := by
    intro q hq
    rw [jand_e (by omega) (by omega) (by omega) (by omega)]
    show ((q &&& 1 : Nat) : Int) = _
    rw [Nat.and_one_is_mod]
  rw [hq _ hle]
  unfold bitz
  obtain ⟨n, rfl⟩ := Int.eq_ofNat_of_zero_le h0
  simp only [Int.toNat_natCast, Int.natCast_emod, Int.natCast_ediv, Int.natCast_pow]
  rfl
theorem bitz_lt {x k : Int} : 0 ≤ bitz x k ∧ bitz x k < 2 := ⟨Int.emod_nonneg _ (by decide), Int.emod_lt_of_pos _ (by decide)⟩
/-- 1 shifted -/
theorem jshl_one {k : Int} (h2 : 0 ≤ k) (h3 : k < 31) : jshl 1 (jand k 31) = 2 ^ k.toNat := by
  rw [sh_amt h2 (by omega)]
  obtain ⟨n, rfl⟩ := Int.eq_ofNat_of_zero_le h2
  have : ∀ n : Nat, n < 31 → jshl 1 (n : Int) = 2 ^ n := by decide +kernel
  exact this n (by omega)
end
/-! draft 501.cells -/
section
/-! ===== what the small reads and writes answer ===== -/
theorem hp_new_at {O : Nat → Option va_E} {M : xM} {k : Nat} (h1 : k < 1000000000) (h2 : k < M.1) : xrd O (hp M) k = some (mcell (mS M k) (mI M k) (mL M k) (mR M k)) := by
  unfold xrd
  rw [if_pos h1, if_pos (show k < (hp M).1 from h2)]
  rfl
theorem hp_old_at {O : Nat → Option va_E} {M : xM} {j : Nat} : xrd O (hp M) (1000000000 + j) = O j := by
  unfold xrd
  rw [if_neg (by omega), Nat.add_sub_cancel_left]
theorem xfv_I {ty : FieldType} {i : Int32} {l : Int64} {r : Option Nat} (h : xkI ty = true) : xfv ty i l r = .int i := by
  revert h
  cases ty <;> intro h <;> first | rfl | (cases h; done)
theorem xfv_R {ty : FieldType} {i : Int32} {l : Int64} {r : Option Nat} (h : xkR ty = true) : xfv ty i l r = va_rf r := by
  revert h
  cases ty <;> intro h <;> first | rfl | (cases h; done)
section CEL
variable {O : Nat → Option va_E} {M : xM} {k ci j n : Nat}
theorem c_gI (h1 : k < 1000000000) (h2 : k < M.1) (hs : mS M k = .inl ci) (hj : j < xNf ci) (ht : xkI (xTy ci j) = true) : gI O M k ci j = some (mI M k j) := by
  unfold gI
  rw [hp_new_at h1 h2, hs]
  unfold mcell
  dsimp only
  rw [if_pos rfl]
  simp only [List.getElem?_map, List.getElem?_range hj, Option.map_some, xfv_I ht]
theorem c_gL (h1 : k < 1000000000) (h2 : k < M.1) (hs : mS M k = .inl ci) (hj : j < xNf ci) (ht : xTy ci j = .long) : gL O M k ci j = some (mL M k j) := by
  unfold gL
  rw [hp_new_at h1 h2, hs]
  unfold mcell
  dsimp only
  rw [if_pos rfl]
  simp only [List.getElem?_map, List.getElem?_range hj, Option.map_some, ht]
  rfl
theorem c_gR {r : Nat} (h1 : k < 1000000000) (h2 : k < M.1) (hs : mS M k = .inl ci) (hj : j < xNf ci) (ht : xkR (xTy ci j) = true) (hr : mR M k j = some r) : gR O M k ci j = some r := by
  unfold gR
  rw [hp_new_at h1 h2, hs]
  unfold mcell
  dsimp only
  rw [if_pos rfl]
  simp only [List.getElem?_map, List.getElem?_range hj, Option.map_some, xfv_R ht, hr]
  rfl
theorem c_isO (h1 : k < 1000000000) (h2 : k < M.1) (hs : mS M k = .inl ci) : isO O M k ci = some () := by
  unfold isO
  rw [hp_new_at h1 h2, hs]
  unfold mcell
  dsimp only
  rw [if_pos rfl]
theorem c_pI {x : Int32} (h1 : k < 1000000000) (h2 : k < M.1) (hs : mS M k = .inl ci) (hj : j < xNf ci) (ht : xkI (xTy ci j) = true) (hf : xfit (xTy ci j) (.int x) = true) : pI M k ci j x = some (msI M k (mup (mI M k) j x)) := if_pos ⟨⟨h1, h2⟩, hs, hj, ht, hf⟩
theorem c_pL {x : Int64} (h1 : k < 1000000000) (h2 : k < M.1) (hs : mS M k = .inl ci) (hj : j < xNf ci) (ht : xTy ci j = .long) : pL M k ci j x = some (msL M k (mup (mL M k) j x)) := if_pos ⟨⟨h1, h2⟩, hs, hj, ht⟩
theorem c_pR {x : Option Nat} (h1 : k < 1000000000) (h2 : k < M.1) (hs : mS M k = .inl ci) (hj : j < xNf ci) (ht : xkR (xTy ci j) = true) : pR M k ci j x = some (msR M k (mup (mR M k) j x)) := if_pos ⟨⟨h1, h2⟩, hs, hj, ht⟩
theorem c_aN {t : Nat} (h1 : k < 1000000000) (h2 : k < M.1) (hs : mS M k = .inr (t, n)) (ht : t < 12) : aN O M k = some (Int32.ofNat n) := by
  unfold aN
  rw [hp_new_at h1 h2, hs]
  unfold mcell
  dsimp only
  rw [if_pos ht]
theorem ix_in {i : Int} (h0 : 0 ≤ i) (h1 : i < n) (hr : yr i) : ¬ (yw i < 0 ∨ n ≤ (yw i).toNatClampNeg) := by
  rw [yw_nat hr, yl_0, yw_lt hr (by decide)]
  omega
theorem ix_in2 {i : Int} (h0 : 0 ≤ i) (h1 : i < n) (hr : yr i) : ¬ (yw i < 0 ∨ n ≤ i.toNat) := by
  have h := ix_in h0 h1 hr
  rwa [yw_nat hr] at h
theorem c_aI {i : Int} (h1 : k < 1000000000) (h2 : k < M.1) (hs : mS M k = .inr (0, n)) (hi0 : 0 ≤ i) (hi : i < n) (hr : yr i) : aI O M k (yw i) = some (mI M k i.toNat) := by
  unfold aI
  rw [hp_new_at h1 h2, hs]
  unfold mcell
  simp only [if_true, show ¬ (0 = 1) from by decide, if_false, show 0 < 5 from by decide, yw_nat hr, if_neg (ix_in2 hi0 hi hr)]
theorem c_aB {i : Int} {t : Nat} (h1 : k < 1000000000) (h2 : k < M.1) (hs : mS M k = .inr (t, n)) (ht : t = 2 ∨ t = 3) (hi0 : 0 ≤ i) (hi : i < n) (hr : yr i) : aB O M k (yw i) = some (mI M k i.toNat) := by
  unfold aB
  rw [hp_new_at h1 h2, hs]
  unfold mcell
  simp only [if_neg (show ¬ (t = 1) by omega), if_pos (show t < 5 by omega), if_pos ht, yw_nat hr, if_neg (ix_in2 hi0 hi hr)]
theorem c_aC {i : Int} (h1 : k < 1000000000) (h2 : k < M.1) (hs : mS M k = .inr (4, n)) (hi0 : 0 ≤ i) (hi : i < n) (hr : yr i) : aC O M k (yw i) = some (mI M k i.toNat) := by
  unfold aC
  rw [hp_new_at h1 h2, hs]
  unfold mcell
  simp only [if_true, show ¬ (4 = 1) from by decide, if_false, show 4 < 5 from by decide, yw_nat hr, if_neg (ix_in2 hi0 hi hr)]
theorem c_aL {i : Int} (h1 : k < 1000000000) (h2 : k < M.1) (hs : mS M k = .inr (1, n)) (hi0 : 0 ≤ i) (hi : i < n) (hr : yr i) : aL O M k (yw i) = some (mL M k i.toNat) := by
  unfold aL
  rw [hp_new_at h1 h2, hs]
  unfold mcell
  simp only [if_true, yw_nat hr, if_neg (ix_in2 hi0 hi hr)]
theorem c_aR {i : Int} {t : Nat} (h1 : k < 1000000000) (h2 : k < M.1) (hs : mS M k = .inr (t, n)) (ht : 5 ≤ t ∧ t < 12) (hi0 : 0 ≤ i) (hi : i < n) (hr : yr i) : aR O M k (yw i) = mR M k i.toNat := by
  unfold aR
  rw [hp_new_at h1 h2, hs]
  unfold mcell
  simp only [if_neg (show ¬ (t = 1) by omega), if_neg (show ¬ (t < 5) by omega), if_pos ht, yw_nat hr, if_neg (ix_in2 hi0 hi hr)]
theorem c_wX {i : Int} {t : Nat} (h1 : k < 1000000000) (h2 : k < M.1) (hs : mS M k = .inr (t, n)) (hi0 : 0 ≤ i) (hi : i < n) (hr : yr i) : wX M k t (yw i) = true := by
  have h3 := ix_in hi0 hi hr
  unfold wX
  rw [hs]
  simp only [h1, h2, decide_true, Bool.and_self, Bool.true_and, Bool.not_eq_true', Bool.or_eq_false_iff, decide_eq_false_iff_not]
  exact ⟨fun z => h3 (Or.inl z), fun z => h3 (Or.inr z)⟩
theorem c_wI {i : Int} {x : Int32} (h1 : k < 1000000000) (h2 : k < M.1) (hs : mS M k = .inr (0, n)) (hi0 : 0 ≤ i) (hi : i < n) (hr : yr i) : wI M k (yw i) x = some (msI M k (mup (mI M k) i.toNat x)) := by
  unfold wI
  rw [if_pos (c_wX h1 h2 hs hi0 hi hr), yw_nat hr]
theorem c_wC {i : Int} {x : Int32} (h1 : k < 1000000000) (h2 : k < M.1) (hs : mS M k = .inr (4, n)) (hi0 : 0 ≤ i) (hi : i < n) (hr : yr i) : wC M k (yw i) x = some (msI M k (mup (mI M k) i.toNat (vp_nar .char x))) := by
  unfold wC
  rw [if_pos (c_wX h1 h2 hs hi0 hi hr), yw_nat hr]
theorem c_wB {i : Int} {x : Int32} (h1 : k < 1000000000) (h2 : k < M.1) (hs : mS M k = .inr (2, n)) (hi0 : 0 ≤ i) (hi : i < n) (hr : yr i) : wB M k (yw i) x = some (msI M k (mup (mI M k) i.toNat (vp_nar .boolean x))) := by
  unfold wB
  rw [if_pos (c_wX h1 h2 hs hi0 hi hr), yw_nat hr]
theorem c_wL {i : Int} {x : Int64} (h1 : k < 1000000000) (h2 : k < M.1) (hs : mS M k = .inr (1, n)) (hi0 : 0 ≤ i) (hi : i < n) (hr : yr i) : wL M k (yw i) x = some (msL M k (mup (mL M k) i.toNat x)) := by
  unfold wL
  rw [if_pos (c_wX h1 h2 hs hi0 hi hr), yw_nat hr]
end CEL
/-! ===== cells as whole numbers ===== -/
def iV (M : xM) (a j : Nat) : Int := (mI M a j).toInt
def lV (M : xM) (a j : Nat) : Int := (mL M a j).toInt
def iS (M : xM) (a j : Nat) (x : Int) : xM := msI M a (mup (mI M a) j (yw x))
def lS (M : xM) (a j : Nat) (x : Int) : xM := msL M a (mup (mL M a) j (yl x))
def cS (M : xM) (a0 sp a1 dp n : Nat) : xM := msI M a1 (va_cpy (mI M a0) (mI M a1) sp dp n)
def cL (M : xM) (a0 sp a1 dp n : Nat) : xM := msL M a1 (va_cpy (mL M a0) (mL M a1) sp dp n)
theorem iV_r (M : xM) (a j : Nat) : -2147483648 ≤ iV M a j ∧ iV M a j ≤ 2147483647 := yr_of _
theorem lV_r (M : xM) (a j : Nat) : -9223372036854775808 ≤ lV M a j ∧ lV M a j ≤ 9223372036854775807 := ⟨Int64.minValue_le_toInt _, Int64.toInt_le _⟩
section CIV
variable {M : xM} {a j b i : Nat} {x : Int}
theorem iV_s (h0 : -2147483648 ≤ x) (h1 : x ≤ 2147483647) : iV (iS M a j x) a j = x := by
  show ((if a = a then mup (mI M a) j (yw x) else mI M a) j).toInt = x
  rw [if_pos rfl]
  show (if j = j then yw x else mI M a j).toInt = x
  rw [if_pos rfl, yw_to ⟨h0, h1⟩]
theorem iV_o (h : b ≠ a ∨ i ≠ j) : iV (iS M a j x) b i = iV M b i := by
  show ((if b = a then mup (mI M a) j (yw x) else mI M b) i).toInt = _
  by_cases h1 : b = a
  · subst h1
    rw [if_pos rfl]
    show (if i = j then yw x else mI M b i).toInt = _
    rw [if_neg (h.resolve_left (fun q => q rfl))]
    rfl
  · rw [if_neg h1]
    rfl
theorem lV_s (h0 : -9223372036854775808 ≤ x) (h1 : x ≤ 9223372036854775807) : lV (lS M a j x) a j = x := by
  show ((if a = a then mup (mL M a) j (yl x) else mL M a) j).toInt = x
  rw [if_pos rfl]
  show (if j = j then yl x else mL M a j).toInt = x
  rw [if_pos rfl, yl_to ⟨h0, h1⟩]
theorem lV_o (h : b ≠ a ∨ i ≠ j) : lV (lS M a j x) b i = lV M b i := by
  show ((if b = a then mup (mL M a) j (yl x) else mL M b) i).toInt = _
  by_cases h1 : b = a
  · subst h1
    rw [if_pos rfl]
    show (if i = j then yl x else mL M b i).toInt = _
    rw [if_neg (h.resolve_left (fun q => q rfl))]
    rfl
  · rw [if_neg h1]
    rfl
theorem iV_lS : iV (lS M a j x) b i = iV M b i := rfl
theorem lV_iS : lV (iS M a j x) b i = lV M b i := rfl
variable {a0 sp a1 dp n : Nat}
theorem iV_cL : iV (cL M a0 sp a1 dp n) b i = iV M b i := rfl
theorem lV_cS : lV (cS M a0 sp a1 dp n) b i = lV M b i := rfl
theorem iV_co (h : b ≠ a1 ∨ i < dp ∨ dp + n ≤ i) : iV (cS M a0 sp a1 dp n) b i = iV M b i := by
  show ((if b = a1 then va_cpy (mI M a0) (mI M a1) sp dp n else mI M b) i).toInt = _
  by_cases h1 : b = a1
  · subst h1
    rw [if_pos rfl]
    unfold va_cpy
    rw [if_neg (by omega)]
    rfl
  · rw [if_neg h1]
    rfl
theorem iV_cs (h : dp ≤ i) (h2 : i < dp + n) : iV (cS M a0 sp a1 dp n) a1 i = iV M a0 (sp + (i - dp)) := by
  show ((if a1 = a1 then va_cpy (mI M a0) (mI M a1) sp dp n else mI M a1) i).toInt = _
  rw [if_pos rfl]
  unfold va_cpy
  rw [if_pos (by omega)]
  rfl
theorem lV_co (h : b ≠ a1 ∨ i < dp ∨ dp + n ≤ i) : lV (cL M a0 sp a1 dp n) b i = lV M b i := by
  show ((if b = a1 then va_cpy (mL M a0) (mL M a1) sp dp n else mL M b) i).toInt = _
  by_cases h1 : b = a1
  · subst h1
    rw [if_pos rfl]
    unfold va_cpy
    rw [if_neg (by omega)]
    rfl
  · rw [if_neg h1]
    rfl
theorem lV_cs (h : dp ≤ i) (h2 : i < dp + n) : lV (cL M a0 sp a1 dp n) a1 i = lV M a0 (sp + (i - dp)) := by
  show ((if a1 = a1 then va_cpy (mL M a0) (mL M a1) sp dp n else mL M a1) i).toInt = _
  rw [if_pos rfl]
  unfold va_cpy
  rw [if_pos (by omega)]
  rfl
theorem S_iS : mS (iS M a j x) = mS M := rfl
theorem S_lS : mS (lS M a j x) = mS M := rfl
theorem S_cS : mS (cS M a0 sp a1 dp n) = mS M := rfl
theorem S_cL : mS (cL M a0 sp a1 dp n) = mS M := rfl
end CIV
/-! ===== what the reads and writes answer, by the shape of the cell ===== -/
section CEJ
variable {O : Nat → Option va_E} {M : xM} {k ci j n : Nat} {γ : Type}
/-- the cell is there -/
def inM (M : xM) (k : Nat) : Prop := k < 1000000000 ∧ k < M.1
theorem z_gJ {A : Int → Option γ} (hb : inM M k) (hs : mS M k = .inl ci) (hj : j < xNf ci) (ht : xkI (xTy ci j) = true) : (gJ O M k ci j).bind A = A (iV M k j) := by
  unfold gJ
  rw [c_gI hb.1 hb.2 hs hj ht]
  rfl
theorem z_gK {A : Int → Option γ} (hb : inM M k) (hs : mS M k = .inl ci) (hj : j < xNf ci) (ht : xTy ci j = .long) : (gK O M k ci j).bind A = A (lV M k j) := by
  unfold gK
  rw [c_gL hb.1 hb.2 hs hj ht]
  rfl
theorem z_gR {r : Nat} {A : Nat → Option γ} (hb : inM M k) (hs : mS M k = .inl ci) (hj : j < xNf ci) (ht : xkR (xTy ci j) = true) (hr : mR M k j = some r) : (gR O M k ci j).bind A = A r := by
  rw [c_gR hb.1 hb.2 hs hj ht hr]
  rfl
theorem z_is {A : Unit → Option γ} (hb : inM M k) (hs : mS M k = .inl ci) : (isO O M k ci).bind A = A () := by
  rw [c_isO hb.1 hb.2 hs]
  rfl
theorem z_pJ {x : Int} {A : xM → Option γ} (hb : inM M k) (hs : mS M k = .inl ci) (hj : j < xNf ci) (ht : xkI (xTy ci j) = true) (hf : xfit (xTy ci j) (.int (yw x)) = true) : (pJ M k ci j x).bind A = A (iS M k j x) := by
  unfold pJ
  rw [c_pI hb.1 hb.2 hs hj ht hf]
  rfl
theorem z_pK {x : Int} {A : xM → Option γ} (hb : inM M k) (hs : mS M k = .inl ci) (hj : j < xNf ci) (ht : xTy ci j = .long) : (pK M k ci j x).bind A = A (lS M k j x) := by
  unfold pK
  rw [c_pL hb.1 hb.2 hs hj ht]
  rfl
theorem z_aN {t : Nat} {A : Int → Option γ} (hb : inM M k) (hs : mS M k = .inr (t, n)) (ht : t < 12) (hn : n ≤ 2147483647) : (aJN O M k).bind A = A (n : Int) := by
  unfold aJN
  rw [c_aN hb.1 hb.2 hs ht]
  show A (Int32.ofNat n).toInt = _
  rw [show (Int32.ofNat n).toInt = (n : Int) from Int32.toInt_ofNat_of_lt (by omega)]
variable {i x : Int}
theorem z_aJ {A : Int → Option γ} (hb : inM M k) (hs : mS M k = .inr (0, n)) (h0 : 0 ≤ i) (h1 : i < n) (h2 : i ≤ 2147483647) : (aJ O M k i).bind A = A (iV M k i.toNat) := by
  unfold aJ
  rw [c_aI hb.1 hb.2 hs h0 h1 ⟨by omega, h2⟩]
  rfl
theorem z_aJB {t : Nat} {A : Int → Option γ} (hb : inM M k) (hs : mS M k = .inr (t, n)) (ht : t = 2 ∨ t = 3) (h0 : 0 ≤ i) (h1 : i < n) (h2 : i ≤ 2147483647) : (aJB O M k i).bind A = A (iV M k i.toNat) := by
  unfold aJB
  rw [c_aB hb.1 hb.2 hs ht h0 h1 ⟨by omega, h2⟩]
  rfl
theorem z_aJC {A : Int → Option γ} (hb : inM M k) (hs : mS M k = .inr (4, n)) (h0 : 0 ≤ i) (h1 : i < n) (h2 : i ≤ 2147483647) : (aJC O M k i).bind A = A (iV M k i.toNat) := by
  unfold aJC
  rw [c_aC hb.1 hb.2 hs h0 h1 ⟨by omega, h2⟩]
  rfl
theorem z_aK {A : Int → Option γ} (hb : inM M k) (hs : mS M k = .inr (1, n)) (h0 : 0 ≤ i) (h1 : i < n) (h2 : i ≤ 2147483647) : (aK O M k i).bind A = A (lV M k i.toNat) := by
  unfold aK
  rw [c_aL hb.1 hb.2 hs h0 h1 ⟨by omega, h2⟩]
  rfl
theorem z_aJR {t r : Nat} {A : Nat → Option γ} (hb : inM M k) (hs : mS M k = .inr (t, n)) (ht : 5 ≤ t ∧ t < 12) (h0 : 0 ≤ i) (h1 : i < n) (h2 : i ≤ 2147483647) (hr : mR M k i.toNat = some r) : (aJR O M k i).bind A = A r := by
  unfold aJR
  rw [c_aR hb.1 hb.2 hs ht h0 h1 ⟨by omega, h2⟩, hr]
  rfl
theorem z_wJ {A : xM → Option γ} (hb : inM M k) (hs : mS M k = .inr (0, n)) (h0 : 0 ≤ i) (h1 : i < n) (h2 : i ≤ 2147483647) : (wJ M k i x).bind A = A (iS M k i.toNat x) := by
  unfold wJ
  rw [c_wI hb.1 hb.2 hs h0 h1 ⟨by omega, h2⟩]
  rfl
theorem z_wK {A : xM → Option γ} (hb : inM M k) (hs : mS M k = .inr (1, n)) (h0 : 0 ≤ i) (h1 : i < n) (h2 : i ≤ 2147483647) : (wK M k i x).bind A = A (lS M k i.toNat x) := by
  unfold wK
  rw [c_wL hb.1 hb.2 hs h0 h1 ⟨by omega, h2⟩]
  rfl
theorem cpY_0 {a0 a1 n0 : Nat} {sp dp n : Int32} (hb : inM M a0) (hs : mS M a0 = .inr (0, n0)) : cpY O M a0 sp a1 dp n = cpX M a0 sp a1 dp n := by
  have e : xrd O (hp M) a0 = some (.inl (0, n0, .inl (mI M a0))) := by
    have hb2 : a0 < (hp M).1 := hb.2
    unfold xrd
    rw [if_pos hb.1, if_pos hb2, mrow_cI hs (by decide) (by decide)]
  unfold cpY
  rw [e]
  split
  · rename_i t0 n0 f t1 n1 w0 w1
    cases w0
    rw [if_neg (fun z => absurd z.1 (by decide))]
  · rfl
theorem cpY_1 {a0 a1 n0 : Nat} {sp dp n : Int32} (hb : inM M a0) (hs : mS M a0 = .inr (1, n0)) : cpY O M a0 sp a1 dp n = cpX M a0 sp a1 dp n := by
  have e : xrd O (hp M) a0 = some (.inl (1, n0, .inr (.inl (mL M a0)))) := by
    have hb2 : a0 < (hp M).1 := hb.2
    unfold xrd
    rw [if_pos hb.1, if_pos hb2, hp_cell, hs]
    rfl
  unfold cpY
  rw [e]
theorem z_cS {a0 a1 n0 n1 : Nat} {sp dp c : Int} {A : xM → Option γ} (hb0 : inM M a0) (hb1 : inM M a1) (hs0 : mS M a0 = .inr (0, n0)) (hs1 : mS M a1 = .inr (0, n1)) (h0 : 0 ≤ sp) (h1 : 0 ≤ dp) (h2 : 0 ≤ c) (h3 : sp + c ≤ n0) (h4 : dp + c ≤ n1) (h5 : n0 ≤ 2147483647) (h6 : n1 ≤ 2147483647) : (cpJ O M a0 sp a1 dp c).bind A = A (cS M a0 sp.toNat a1 dp.toNat c.toNat) := by
  have e1 := yw_nat (a := sp) ⟨by omega, by omega⟩
  have e2 := yw_nat (a := dp) ⟨by omega, by omega⟩
  have e3 := yw_nat (a := c) ⟨by omega, by omega⟩
  have q1 : ¬ yw sp < 0 := fun q => by have := (yw_lt (a := sp) (b := 0) ⟨by omega, by omega⟩ (by decide)).mp q; omega
  have q2 : ¬ yw dp < 0 := fun q => by have := (yw_lt (a := dp) (b := 0) ⟨by omega, by omega⟩ (by decide)).mp q; omega
  have q3 : ¬ yw c < 0 := fun q => by have := (yw_lt (a := c) (b := 0) ⟨by omega, by omega⟩ (by decide)).mp q; omega
  unfold cpJ
  rw [cpY_0 hb0 hs0]
  unfold cpX
  rw [if_pos ⟨hb0.1, hb0.2, hb1.1, hb1.2⟩, hs0, hs1]
  dsimp only
  rw [e1, e2, e3, if_pos ⟨rfl, q1, q2, q3, by omega, by omega⟩, if_pos rfl]
  rfl
theorem z_cL {a0 a1 n0 n1 : Nat} {sp dp c : Int} {A : xM → Option γ} (hb0 : inM M a0) (hb1 : inM M a1) (hs0 : mS M a0 = .inr (1, n0)) (hs1 : mS M a1 = .inr (1, n1)) (h0 : 0 ≤ sp) (h1 : 0 ≤ dp) (h2 : 0 ≤ c) (h3 : sp + c ≤ n0) (h4 : dp + c ≤ n1) (h5 : n0 ≤ 2147483647) (h6 : n1 ≤ 2147483647) : (cpJ O M a0 sp a1 dp c).bind A = A (cL M a0 sp.toNat a1 dp.toNat c.toNat) := by
  have e1 := yw_nat (a := sp) ⟨by omega, by omega⟩
  have e2 := yw_nat (a := dp) ⟨by omega, by omega⟩
  have e3 := yw_nat (a := c) ⟨by omega, by omega⟩
  have q1 : ¬ yw sp < 0 := fun q => by have := (yw_lt (a := sp) (b := 0) ⟨by omega, by omega⟩ (by decide)).mp q; omega
  have q2 : ¬ yw dp < 0 := fun q => by have := (yw_lt (a := dp) (b := 0) ⟨by omega, by omega⟩ (by decide)).mp q; omega
  have q3 : ¬ yw c < 0 := fun q => by have := (yw_lt (a := c) (b := 0) ⟨by omega, by omega⟩ (by decide)).mp q; omega
  unfold cpJ
  rw [cpY_1 hb0 hs0]
  unfold cpX
  rw [if_pos ⟨hb0.1, hb0.2, hb1.1, hb1.2⟩, hs0, hs1]
  dsimp only
  rw [e1, e2, e3, if_pos ⟨rfl, q1, q2, q3, by omega, by omega⟩, if_neg (by decide), if_pos rfl]
  rfl
end CEJ
end
/-! draft 502.world -/
section
/-! ===== the world after the constructor (printed by wip/p67/gen_world.py) ===== -/
def hbS : List (Nat ⊕ Nat × Nat) := [.inl 4, .inr (7, 3), .inr (8, 8), .inr (0, 4), .inr (9, 12), .inr (10, 2), .inr (0, 10), .inr (0, 10), .inr (1, 30), .inr (1, 10), .inl 11, .inr (0, 4), .inr (0, 4), .inl 11, .inr (0, 4), .inr (0, 4), .inl 11, .inr (0, 4), .inr (0, 4), .inl 6, .inl 6, .inl 6, .inl 6, .inl 6, .inl 6, .inl 6, .inl 6, .inl 10, .inl 9, .inr (0, 10), .inr (0, 10), .inr (0, 8), .inr (0, 8), .inl 10, .inl 9, .inr (0, 10), .inr (0, 10), .inr (0, 8), .inr (0, 8), .inl 10, .inl 9, .inr (0, 10), .inr (0, 10), .inr (0, 8), .inr (0, 8), .inl 10, .inl 9, .inr (0, 10), .inr (0, 10), .inr (0, 8), .inr (0, 8), .inl 10, .inl 9, .inr (0, 10), .inr (0, 10), .inr (0, 8), .inr (0, 8), .inl 10, .inl 9, .inr (0, 10), .inr (0, 10), .inr (0, 8), .inr (0, 8), .inl 10, .inl 9, .inr (0, 10), .inr (0, 10), .inr (0, 8), .inr (0, 8), .inl 10, .inl 9, .inr (0, 10), .inr (0, 10), .inr (0, 8), .inr (0, 8), .inl 10, .inl 9, .inr (0, 10), .inr (0, 10), .inr (0, 8), .inr (0, 8), .inl 10, .inl 9, .inr (0, 10), .inr (0, 10), .inr (0, 8), .inr (0, 8), .inl 10, .inl 9, .inr (0, 10), .inr (0, 10), .inr (0, 8), .inr (0, 8), .inl 10, .inl 9, .inr (0, 10), .inr (0, 10), .inr (0, 8), .inr (0, 8), .inl 3, .inr (0, 40), .inr (0, 40), .inr (0, 40), .inr (0, 48), .inr (0, 48), .inr (0, 48), .inl 3, .inr (0, 40), .inr (0, 40), .inr (0, 40), .inr (0, 48), .inr (0, 48), .inr (0, 48)]
def hbR : List (List (Option Nat)) := [[some 1, some 2, some 3, some 4, some 5, none, some 6, some 7, some 8, none, some 9, none], [some 10, some 13, some 16], [some 19, some 20, some 21, some 22, some 23, some 24, some 25, some 26], [], [some 27, some 33, some 39, some 45, some 51, some 57, some 63, some 69, some 75, some 81, some 87, some 93], [some 99, some 106], [], [], [], [], [none, none, some 11, some 12], [], [], [none, none, some 14, some 15], [], [], [none, none, some 17, some 18], [], [], [none, none, none, none], [none, none, none, none], [none, none, none, none], [none, none, none, none], [none, none, none, none], [none, none, none, none], [none, none, none, none], [none, none, none, none], [none, none, none, none, none, none, some 28, none, some 29, some 30, some 31, some 32], [none, none, none, none, none, none, none, none], [], [], [], [], [none, none, none, none, none, none, some 34, none, some 35, some 36, some 37, some 38], [none, none, none, none, none, none, none, none], [], [], [], [], [none, none, none, none, none, none, some 40, none, some 41, some 42, some 43, some 44], [none, none, none, none, none, none, none, none], [], [], [], [], [none, none, none, none, none, none, some 46, none, some 47, some 48, some 49, some 50], [none, none, none, none, none, none, none, none], [], [], [], [], [none, none, none, none, none, none, some 52, none, some 53, some 54, some 55, some 56], [none, none, none, none, none, none, none, none], [], [], [], [], [none, none, none, none, none, none, some 58, none, some 59, some 60, some 61, some 62], [none, none, none, none, none, none, none, none], [], [], [], [], [none, none, none, none, none, none, some 64, none, some 65, some 66, some 67, some 68], [none, none, none, none, none, none, none, none], [], [], [], [], [none, none, none, none, none, none, some 70, none, some 71, some 72, some 73, some 74], [none, none, none, none, none, none, none, none], [], [], [], [], [none, none, none, none, none, none, some 76, none, some 77, some 78, some 79, some 80], [none, none, none, none, none, none, none, none], [], [], [], [], [none, none, none, none, none, none, some 82, none, some 83, some 84, some 85, some 86], [none, none, none, none, none, none, none, none], [], [], [], [], [none, none, none, none, none, none, some 88, none, some 89, some 90, some 91, some 92], [none, none, none, none, none, none, none, none], [], [], [], [], [none, none, none, none, none, none, some 94, none, some 95, some 96, some 97, some 98], [none, none, none, none, none, none, none, none], [], [], [], [], [none, none, some 100, some 101, some 102, some 103, some 104, some 105], [], [], [], [], [], [], [none, none, some 107, some 108, some 109, some 110, some 111, some 112], [], [], [], [], [], []]
def mdS : List (Nat ⊕ Nat × Nat) := [.inr (6, 8), .inl 2, .inr (1, 320), .inr (0, 16), .inl 5, .inr (0, 256), .inr (0, 256), .inr (0, 256), .inr (0, 4), .inr (1, 256), .inr (0, 256), .inr (0, 9216), .inl 7, .inr (1, 5), .inr (0, 5), .inr (0, 5), .inr (0, 5), .inr (0, 5), .inr (0, 5), .inl 8, .inl 9, .inr (4, 120), .inl 1, .inr (3, 16), .inr (0, 672)]
def mdR : List (List (Option Nat)) := [[some 140, some 253, some 366, some 479, some 592, some 705, some 818, some 931], [none, some 117, some 118], [], [], [none, some 120, some 121, some 122, some 123, none, some 124, some 125, some 126], [], [], [], [], [], [], [], [none, none, some 128, some 129, some 130, some 131, some 132, some 133, none], [], [], [], [], [], [], [none, some 135, some 136, none, none, none, none], [none, none, none, none, none, none, none, none], [], [some 138, none, none, none], [], []]
def shp (k : Nat) : Nat ⊕ Nat × Nat := if k = 0 then .inl 15 else if k = 1 then .inl 12 else if k < 115 then hbS.getD (k - 2) (.inl 99) else if k < 140 then mdS.getD (k - 115) (.inl 99) else hbS.getD ((k - 140) % 113) (.inl 99)
def rfs (k j : Nat) : Option Nat := if k = 0 then none else if k = 1 then ([some 2, some 115, none, none, some 116, some 119, some 127, some 134, some 137, some 139] : List (Option Nat)).getD j none else if k < 115 then ((hbR.getD (k - 2) []).getD j none).map (fun r => 2 + r) else if k = 137 then none else if k < 140 then (mdR.getD (k - 115) []).getD j none else ((hbR.getD ((k - 140) % 113) []).getD j none).map (fun r => k - (k - 140) % 113 + r)
/-- the world: the objects are there, and refer to each other as the constructor left them -/
def Wd (M : xM) : Prop := 1044 ≤ M.1 ∧ M.1 ≤ 500000000 ∧ (∀ k, k < 1044 → mS M k = shp k) ∧ (∀ k j r, k < 1044 → rfs k j = some r → mR M k j = some r)
section WLD
variable {O : Nat → Option va_E} {M : xM} {k a j : Nat} {γ : Type} {x : Int}
theorem wd_iS : Wd (iS M a j x) = Wd M := rfl
theorem wd_lS : Wd (lS M a j x) = Wd M := rfl
theorem wd_cS {a0 sp a1 dp n : Nat} : Wd (cS M a0 sp a1 dp n) = Wd M := rfl
theorem wd_cL {a0 sp a1 dp n : Nat} : Wd (cL M a0 sp a1 dp n) = Wd M := rfl
theorem Wd.s (h : Wd M) {k : Nat} (hk : k < 1044) : mS M k = shp k := h.2.2.1 k hk
theorem Wd.b (h : Wd M) {k : Nat} (hk : k < 1044) : inM M k := ⟨by omega, Nat.lt_of_lt_of_le hk h.1⟩
theorem Wd.gJ (h : Wd M) {ci j : Nat} {A : Int → Option γ} (hk : k < 1044) (hs : shp k = .inl ci) (hj : j < xNf ci) (ht : xkI (xTy ci j) = true) : (gJ O M k ci j).bind A = A (iV M k j) := z_gJ (h.b hk) ((h.s hk).trans hs) hj ht
theorem Wd.gK (h : Wd M) {ci j : Nat} {A : Int → Option γ} (hk : k < 1044) (hs : shp k = .inl ci) (hj : j < xNf ci) (ht : xTy ci j = .long) : (gK O M k ci j).bind A = A (lV M k j) := z_gK (h.b hk) ((h.s hk).trans hs) hj ht
theorem Wd.gR (h : Wd M) {ci j r : Nat} {A : Nat → Option γ} (hk : k < 1044) (hs : shp k = .inl ci) (hj : j < xNf ci) (ht : xkR (xTy ci j) = true) (hr : rfs k j = some r) : (gR O M k ci j).bind A = A r := z_gR (h.b hk) ((h.s hk).trans hs) hj ht (h.2.2.2 k j r hk hr)
theorem Wd.is (h : Wd M) {ci : Nat} {A : Unit → Option γ} (hk : k < 1044) (hs : shp k = .inl ci) : (isO O M k ci).bind A = A () := z_is (h.b hk) ((h.s hk).trans hs)
theorem Wd.pJ (h : Wd M) {ci j : Nat} {A : xM → Option γ} (hk : k < 1044) (hs : shp k = .inl ci) (hj : j < xNf ci) (ht : xkI (xTy ci j) = true) (hf : xfit (xTy ci j) (.int (yw x)) = true) : (pJ M k ci j x).bind A = A (iS M k j x) := z_pJ (h.b hk) ((h.s hk).trans hs) hj ht hf
theorem Wd.pK (h : Wd M) {ci j : Nat} {A : xM → Option γ} (hk : k < 1044) (hs : shp k = .inl ci) (hj : j < xNf ci) (ht : xTy ci j = .long) : (pK M k ci j x).bind A = A (lS M k j x) := z_pK (h.b hk) ((h.s hk).trans hs) hj ht
theorem Wd.aN (h : Wd M) {t n : Nat} {A : Int → Option γ} (hk : k < 1044) (hs : shp k = .inr (t, n)) (ht : t < 12) (hn : n ≤ 2147483647) : (aJN O M k).bind A = A (n : Int) := z_aN (h.b hk) ((h.s hk).trans hs) ht hn
variable {i : Int}
theorem Wd.aJ (h : Wd M) {n : Nat} {A : Int → Option γ} (hk : k < 1044) (hs : shp k = .inr (0, n)) (h0 : 0 ≤ i) (h1 : i < n) (h2 : i ≤ 2147483647) : (aJ O M k i).bind A = A (iV M k i.toNat) := z_aJ (h.b hk) ((h.s hk).trans hs) h0 h1 h2
theorem Wd.aK (h : Wd M) {n : Nat} {A : Int → Option γ} (hk : k < 1044) (hs : shp k = .inr (1, n)) (h0 : 0 ≤ i) (h1 : i < n) (h2 : i ≤ 2147483647) : (aK O M k i).bind A = A (lV M k i.toNat) := z_aK (h.b hk) ((h.s hk).trans hs) h0 h1 h2
theorem Wd.aJC (h : Wd M) {n : Nat} {A : Int → Option γ} (hk : k < 1044) (hs : shp k = .inr (4, n)) (h0 : 0 ≤ i) (h1 : i < n) (h2 : i ≤ 2147483647) : (aJC O M k i).bind A = A (iV M k i.toNat) := z_aJC (h.b hk) ((h.s hk).trans hs) h0 h1 h2
theorem Wd.aJR (h : Wd M) {t n r : Nat} {A : Nat → Option γ} (hk : k < 1044) (hs : shp k = .inr (t, n)) (ht : 5 ≤ t ∧ t < 12) (h0 : 0 ≤ i) (h1 : i < n) (h2 : i ≤ 2147483647) (hf : rfs k i.toNat = some r) : (aJR O M k i).bind A = A r := z_aJR (h.b hk) ((h.s hk).trans hs) ht h0 h1 h2 (h.2.2.2 k _ r hk hf)
theorem Wd.wJ (h : Wd M) {n : Nat} {A : xM → Option γ} (hk : k < 1044) (hs : shp k = .inr (0, n)) (h0 : 0 ≤ i) (h1 : i < n) (h2 : i ≤ 2147483647) : (wJ M k i x).bind A = A (iS M k i.toNat x) := z_wJ (h.b hk) ((h.s hk).trans hs) h0 h1 h2
theorem Wd.wK (h : Wd M) {n : Nat} {A : xM → Option γ} (hk : k < 1044) (hs : shp k = .inr (1, n)) (h0 : 0 ≤ i) (h1 : i < n) (h2 : i ≤ 2147483647) : (wK M k i x).bind A = A (lS M k i.toNat x) := z_wK (h.b hk) ((h.s hk).trans hs) h0 h1 h2
theorem shp_Zone : k < 3 → shp (12 + 3 * k) = .inl 11 := by
  revert k
  decide
theorem a_Zone_is (h : Wd M) (hk : k < 3) {A : Unit → Option γ} : (isO O M (12 + 3 * k) 11).bind A = A () := h.is (by omega) (shp_Zone hk)
theorem a_Zone_offset (h : Wd M) (hk : k < 3) {A : Int → Option γ} : (gJ O M (12 + 3 * k) 11 0).bind A = A (iV M (12 + 3 * k) 0) := h.gJ (by omega) (shp_Zone hk) (by decide) (by decide)
theorem p_Zone_offset (h : Wd M) (hk : k < 3) {A : xM → Option γ} : (pJ M (12 + 3 * k) 11 0 x).bind A = A (iS M (12 + 3 * k) 0 x) := h.pJ (by omega) (shp_Zone hk) (by decide) (by decide) rfl
theorem a_Zone_shift (h : Wd M) (hk : k < 3) {A : Int → Option γ} : (gJ O M (12 + 3 * k) 11 1).bind A = A (iV M (12 + 3 * k) 1) := h.gJ (by omega) (shp_Zone hk) (by decide) (by decide)
theorem p_Zone_shift (h : Wd M) (hk : k < 3) {A : xM → Option γ} : (pJ M (12 + 3 * k) 11 1 x).bind A = A (iS M (12 + 3 * k) 1 x) := h.pJ (by omega) (shp_Zone hk) (by decide) (by decide) rfl
theorem rfs_Zone_forth : k < 3 → rfs (12 + 3 * k) 2 = some (13 + 3 * k) := by
  revert k
  decide
theorem a_Zone_forth (h : Wd M) (hk : k < 3) {A : Nat → Option γ} : (gR O M (12 + 3 * k) 11 2).bind A = A (13 + 3 * k) := h.gR (by omega) (shp_Zone hk) (by decide) (by decide) (rfs_Zone_forth hk)
theorem shp_Zone_forth : k < 3 → shp (13 + 3 * k) = .inr (0, 4) := by
  revert k
  decide
theorem n_Zone_forth (h : Wd M) (hk : k < 3) {A : Int → Option γ} : (aJN O M (13 + 3 * k)).bind A = A 4 := h.aN (by omega) (shp_Zone_forth hk) (by decide) (by decide)
theorem r_Zone_forth (h : Wd M) (hk : k < 3) (h0 : 0 ≤ i) (h1 : i < 4) {A : Int → Option γ} : (aJ O M (13 + 3 * k) i).bind A = A (iV M (13 + 3 * k) i.toNat) := h.aJ (by omega) (shp_Zone_forth hk) h0 h1 (by omega)
theorem w_Zone_forth (h : Wd M) (hk : k < 3) (h0 : 0 ≤ i) (h1 : i < 4) {A : xM → Option γ} : (wJ M (13 + 3 * k) i x).bind A = A (iS M (13 + 3 * k) i.toNat x) := h.wJ (by omega) (shp_Zone_forth hk) h0 h1 (by omega)
theorem rfs_Zone_back : k < 3 → rfs (12 + 3 * k) 3 = some (14 + 3 * k) := by
  revert k
  decide
theorem a_Zone_back (h : Wd M) (hk : k < 3) {A : Nat → Option γ} : (gR O M (12 + 3 * k) 11 3).bind A = A (14 + 3 * k) := h.gR (by omega) (shp_Zone hk) (by decide) (by decide) (rfs_Zone_back hk)
theorem shp_Zone_back : k < 3 → shp (14 + 3 * k) = .inr (0, 4) := by
  revert k
  decide
theorem n_Zone_back (h : Wd M) (hk : k < 3) {A : Int → Option γ} : (aJN O M (14 + 3 * k)).bind A = A 4 := h.aN (by omega) (shp_Zone_back hk) (by decide) (by decide)
theorem r_Zone_back (h : Wd M) (hk : k < 3) (h0 : 0 ≤ i) (h1 : i < 4) {A : Int → Option γ} : (aJ O M (14 + 3 * k) i).bind A = A (iV M (14 + 3 * k) i.toNat) := h.aJ (by omega) (shp_Zone_back hk) h0 h1 (by omega)
theorem w_Zone_back (h : Wd M) (hk : k < 3) (h0 : 0 ≤ i) (h1 : i < 4) {A : xM → Option γ} : (wJ M (14 + 3 * k) i x).bind A = A (iS M (14 + 3 * k) i.toNat x) := h.wJ (by omega) (shp_Zone_back hk) h0 h1 (by omega)
theorem shp_Person : k < 8 → shp (21 + k) = .inl 6 := by
  revert k
  decide
theorem a_Person_is (h : Wd M) (hk : k < 8) {A : Unit → Option γ} : (isO O M (21 + k) 6).bind A = A () := h.is (by omega) (shp_Person hk)
theorem a_Person_zone (h : Wd M) (hk : k < 8) {A : Int → Option γ} : (gJ O M (21 + k) 6 0).bind A = A (iV M (21 + k) 0) := h.gJ (by omega) (shp_Person hk) (by decide) (by decide)
theorem p_Person_zone (h : Wd M) (hk : k < 8) {A : xM → Option γ} : (pJ M (21 + k) 6 0 x).bind A = A (iS M (21 + k) 0 x) := h.pJ (by omega) (shp_Person hk) (by decide) (by decide) rfl
theorem a_Person_days (h : Wd M) (hk : k < 8) {A : Int → Option γ} : (gJ O M (21 + k) 6 1).bind A = A (iV M (21 + k) 1) := h.gJ (by omega) (shp_Person hk) (by decide) (by decide)
theorem p_Person_days (h : Wd M) (hk : k < 8) {A : xM → Option γ} : (pJ M (21 + k) 6 1 x).bind A = A (iS M (21 + k) 1 x) := h.pJ (by omega) (shp_Person hk) (by decide) (by decide) rfl
theorem a_Person_from (h : Wd M) (hk : k < 8) {A : Int → Option γ} : (gJ O M (21 + k) 6 2).bind A = A (iV M (21 + k) 2) := h.gJ (by omega) (shp_Person hk) (by decide) (by decide)
theorem p_Person_from (h : Wd M) (hk : k < 8) {A : xM → Option γ} : (pJ M (21 + k) 6 2 x).bind A = A (iS M (21 + k) 2 x) := h.pJ (by omega) (shp_Person hk) (by decide) (by decide) rfl
theorem a_Person_to (h : Wd M) (hk : k < 8) {A : Int → Option γ} : (gJ O M (21 + k) 6 3).bind A = A (iV M (21 + k) 3) := h.gJ (by omega) (shp_Person hk) (by decide) (by decide)
theorem p_Person_to (h : Wd M) (hk : k < 8) {A : xM → Option γ} : (pJ M (21 + k) 6 3 x).bind A = A (iS M (21 + k) 3 x) := h.pJ (by omega) (shp_Person hk) (by decide) (by decide) rfl
theorem shp_Series : k < 12 → shp (29 + 6 * k) = .inl 10 := by
  revert k
  decide
theorem a_Series_is (h : Wd M) (hk : k < 12) {A : Unit → Option γ} : (isO O M (29 + 6 * k) 10).bind A = A () := h.is (by omega) (shp_Series hk)
theorem a_Series_isThere (h : Wd M) (hk : k < 12) {A : Int → Option γ} : (gJ O M (29 + 6 * k) 10 0).bind A = A (iV M (29 + 6 * k) 0) := h.gJ (by omega) (shp_Series hk) (by decide) (by decide)
theorem p_Series_isThere (h : Wd M) (hk : k < 12) (hx : x = 0 ∨ x = 1) {A : xM → Option γ} : (pJ M (29 + 6 * k) 10 0 x).bind A = A (iS M (29 + 6 * k) 0 x) := h.pJ (by omega) (shp_Series hk) (by decide) (by decide) (by rcases hx with e | e <;> subst e <;> rfl)
theorem a_Series_zone (h : Wd M) (hk : k < 12) {A : Int → Option γ} : (gJ O M (29 + 6 * k) 10 1).bind A = A (iV M (29 + 6 * k) 1) := h.gJ (by omega) (shp_Series hk) (by decide) (by decide)
theorem p_Series_zone (h : Wd M) (hk : k < 12) {A : xM → Option γ} : (pJ M (29 + 6 * k) 10 1 x).bind A = A (iS M (29 + 6 * k) 1 x) := h.pJ (by omega) (shp_Series hk) (by decide) (by decide) rfl
theorem a_Series_minute (h : Wd M) (hk : k < 12) {A : Int → Option γ} : (gJ O M (29 + 6 * k) 10 2).bind A = A (iV M (29 + 6 * k) 2) := h.gJ (by omega) (shp_Series hk) (by decide) (by decide)
theorem p_Series_minute (h : Wd M) (hk : k < 12) {A : xM → Option γ} : (pJ M (29 + 6 * k) 10 2 x).bind A = A (iS M (29 + 6 * k) 2 x) := h.pJ (by omega) (shp_Series hk) (by decide) (by decide) rfl
theorem a_Series_length (h : Wd M) (hk : k < 12) {A : Int → Option γ} : (gJ O M (29 + 6 * k) 10 3).bind A = A (iV M (29 + 6 * k) 3) := h.gJ (by omega) (shp_Series hk) (by decide) (by decide)
theorem p_Series_length (h : Wd M) (hk : k < 12) {A : xM → Option γ} : (pJ M (29 + 6 * k) 10 3 x).bind A = A (iS M (29 + 6 * k) 3 x) := h.pJ (by omega) (shp_Series hk) (by decide) (by decide) rfl
theorem a_Series_people (h : Wd M) (hk : k < 12) {A : Int → Option γ} : (gJ O M (29 + 6 * k) 10 4).bind A = A (iV M (29 + 6 * k) 4) := h.gJ (by omega) (shp_Series hk) (by decide) (by decide)
theorem p_Series_people (h : Wd M) (hk : k < 12) {A : xM → Option γ} : (pJ M (29 + 6 * k) 10 4 x).bind A = A (iS M (29 + 6 * k) 4 x) := h.pJ (by omega) (shp_Series hk) (by decide) (by decide) rfl
theorem a_Series_needsRoom (h : Wd M) (hk : k < 12) {A : Int → Option γ} : (gJ O M (29 + 6 * k) 10 5).bind A = A (iV M (29 + 6 * k) 5) := h.gJ (by omega) (shp_Series hk) (by decide) (by decide)
theorem p_Series_needsRoom (h : Wd M) (hk : k < 12) (hx : x = 0 ∨ x = 1) {A : xM → Option γ} : (pJ M (29 + 6 * k) 10 5 x).bind A = A (iS M (29 + 6 * k) 5 x) := h.pJ (by omega) (shp_Series hk) (by decide) (by decide) (by rcases hx with e | e <;> subst e <;> rfl)
theorem rfs_Series_rule : k < 12 → rfs (29 + 6 * k) 6 = some (30 + 6 * k) := by
  revert k
  decide
theorem a_Series_rule (h : Wd M) (hk : k < 12) {A : Nat → Option γ} : (gR O M (29 + 6 * k) 10 6).bind A = A (30 + 6 * k) := h.gR (by omega) (shp_Series hk) (by decide) (by decide) (rfs_Series_rule hk)
theorem a_Series_exceptions (h : Wd M) (hk : k < 12) {A : Int → Option γ} : (gJ O M (29 + 6 * k) 10 7).bind A = A (iV M (29 + 6 * k) 7) := h.gJ (by omega) (shp_Series hk) (by decide) (by decide)
theorem p_Series_exceptions (h : Wd M) (hk : k < 12) {A : xM → Option γ} : (pJ M (29 + 6 * k) 10 7 x).bind A = A (iS M (29 + 6 * k) 7 x) := h.pJ (by omega) (shp_Series hk) (by decide) (by decide) rfl
theorem rfs_Series_exceptionDays : k < 12 → rfs (29 + 6 * k) 8 = some (31 + 6 * k) := by
  revert k
  decide
theorem a_Series_exceptionDays (h : Wd M) (hk : k < 12) {A : Nat → Option γ} : (gR O M (29 + 6 * k) 10 8).bind A = A (31 + 6 * k) := h.gR (by omega) (shp_Series hk) (by decide) (by decide) (rfs_Series_exceptionDays hk)
theorem shp_Series_exceptionDays : k < 12 → shp (31 + 6 * k) = .inr (0, 10) := by
  revert k
  decide
theorem n_Series_exceptionDays (h : Wd M) (hk : k < 12) {A : Int → Option γ} : (aJN O M (31 + 6 * k)).bind A = A 10 := h.aN (by omega) (shp_Series_exceptionDays hk) (by decide) (by decide)
theorem r_Series_exceptionDays (h : Wd M) (hk : k < 12) (h0 : 0 ≤ i) (h1 : i < 10) {A : Int → Option γ} : (aJ O M (31 + 6 * k) i).bind A = A (iV M (31 + 6 * k) i.toNat) := h.aJ (by omega) (shp_Series_exceptionDays hk) h0 h1 (by omega)
theorem w_Series_exceptionDays (h : Wd M) (hk : k < 12) (h0 : 0 ≤ i) (h1 : i < 10) {A : xM → Option γ} : (wJ M (31 + 6 * k) i x).bind A = A (iS M (31 + 6 * k) i.toNat x) := h.wJ (by omega) (shp_Series_exceptionDays hk) h0 h1 (by omega)
theorem rfs_Series_exceptionTos : k < 12 → rfs (29 + 6 * k) 9 = some (32 + 6 * k) := by
  revert k
  decide
theorem a_Series_exceptionTos (h : Wd M) (hk : k < 12) {A : Nat → Option γ} : (gR O M (29 + 6 * k) 10 9).bind A = A (32 + 6 * k) := h.gR (by omega) (shp_Series hk) (by decide) (by decide) (rfs_Series_exceptionTos hk)
theorem shp_Series_exceptionTos : k < 12 → shp (32 + 6 * k) = .inr (0, 10) := by
  revert k
  decide
theorem n_Series_exceptionTos (h : Wd M) (hk : k < 12) {A : Int → Option γ} : (aJN O M (32 + 6 * k)).bind A = A 10 := h.aN (by omega) (shp_Series_exceptionTos hk) (by decide) (by decide)
theorem r_Series_exceptionTos (h : Wd M) (hk : k < 12) (h0 : 0 ≤ i) (h1 : i < 10) {A : Int → Option γ} : (aJ O M (32 + 6 * k) i).bind A = A (iV M (32 + 6 * k) i.toNat) := h.aJ (by omega) (shp_Series_exceptionTos hk) h0 h1 (by omega)
theorem w_Series_exceptionTos (h : Wd M) (hk : k < 12) (h0 : 0 ≤ i) (h1 : i < 10) {A : xM → Option γ} : (wJ M (32 + 6 * k) i x).bind A = A (iS M (32 + 6 * k) i.toNat x) := h.wJ (by omega) (shp_Series_exceptionTos hk) h0 h1 (by omega)
theorem rfs_Series_answers : k < 12 → rfs (29 + 6 * k) 10 = some (33 + 6 * k) := by
  revert k
  decide
theorem a_Series_answers (h : Wd M) (hk : k < 12) {A : Nat → Option γ} : (gR O M (29 + 6 * k) 10 10).bind A = A (33 + 6 * k) := h.gR (by omega) (shp_Series hk) (by decide) (by decide) (rfs_Series_answers hk)
theorem shp_Series_answers : k < 12 → shp (33 + 6 * k) = .inr (0, 8) := by
  revert k
  decide
theorem n_Series_answers (h : Wd M) (hk : k < 12) {A : Int → Option γ} : (aJN O M (33 + 6 * k)).bind A = A 8 := h.aN (by omega) (shp_Series_answers hk) (by decide) (by decide)
theorem r_Series_answers (h : Wd M) (hk : k < 12) (h0 : 0 ≤ i) (h1 : i < 8) {A : Int → Option γ} : (aJ O M (33 + 6 * k) i).bind A = A (iV M (33 + 6 * k) i.toNat) := h.aJ (by omega) (shp_Series_answers hk) h0 h1 (by omega)
theorem w_Series_answers (h : Wd M) (hk : k < 12) (h0 : 0 ≤ i) (h1 : i < 8) {A : xM → Option γ} : (wJ M (33 + 6 * k) i x).bind A = A (iS M (33 + 6 * k) i.toNat x) := h.wJ (by omega) (shp_Series_answers hk) h0 h1 (by omega)
theorem rfs_Series_counters : k < 12 → rfs (29 + 6 * k) 11 = some (34 + 6 * k) := by
  revert k
  decide
theorem a_Series_counters (h : Wd M) (hk : k < 12) {A : Nat → Option γ} : (gR O M (29 + 6 * k) 10 11).bind A = A (34 + 6 * k) := h.gR (by omega) (shp_Series hk) (by decide) (by decide) (rfs_Series_counters hk)
theorem shp_Series_counters : k < 12 → shp (34 + 6 * k) = .inr (0, 8) := by
  revert k
  decide
theorem n_Series_counters (h : Wd M) (hk : k < 12) {A : Int → Option γ} : (aJN O M (34 + 6 * k)).bind A = A 8 := h.aN (by omega) (shp_Series_counters hk) (by decide) (by decide)
theorem r_Series_counters (h : Wd M) (hk : k < 12) (h0 : 0 ≤ i) (h1 : i < 8) {A : Int → Option γ} : (aJ O M (34 + 6 * k) i).bind A = A (iV M (34 + 6 * k) i.toNat) := h.aJ (by omega) (shp_Series_counters hk) h0 h1 (by omega)
theorem w_Series_counters (h : Wd M) (hk : k < 12) (h0 : 0 ≤ i) (h1 : i < 8) {A : xM → Option γ} : (wJ M (34 + 6 * k) i x).bind A = A (iS M (34 + 6 * k) i.toNat x) := h.wJ (by omega) (shp_Series_counters hk) h0 h1 (by omega)
theorem shp_Rule : k < 12 → shp (30 + 6 * k) = .inl 9 := by
  revert k
  decide
theorem a_Rule_is (h : Wd M) (hk : k < 12) {A : Unit → Option γ} : (isO O M (30 + 6 * k) 9).bind A = A () := h.is (by omega) (shp_Rule hk)
theorem a_Rule_first (h : Wd M) (hk : k < 12) {A : Int → Option γ} : (gJ O M (30 + 6 * k) 9 0).bind A = A (iV M (30 + 6 * k) 0) := h.gJ (by omega) (shp_Rule hk) (by decide) (by decide)
theorem p_Rule_first (h : Wd M) (hk : k < 12) {A : xM → Option γ} : (pJ M (30 + 6 * k) 9 0 x).bind A = A (iS M (30 + 6 * k) 0 x) := h.pJ (by omega) (shp_Rule hk) (by decide) (by decide) rfl
theorem a_Rule_kind (h : Wd M) (hk : k < 12) {A : Int → Option γ} : (gJ O M (30 + 6 * k) 9 1).bind A = A (iV M (30 + 6 * k) 1) := h.gJ (by omega) (shp_Rule hk) (by decide) (by decide)
theorem p_Rule_kind (h : Wd M) (hk : k < 12) {A : xM → Option γ} : (pJ M (30 + 6 * k) 9 1 x).bind A = A (iS M (30 + 6 * k) 1 x) := h.pJ (by omega) (shp_Rule hk) (by decide) (by decide) rfl
theorem a_Rule_step (h : Wd M) (hk : k < 12) {A : Int → Option γ} : (gJ O M (30 + 6 * k) 9 2).bind A = A (iV M (30 + 6 * k) 2) := h.gJ (by omega) (shp_Rule hk) (by decide) (by decide)
theorem p_Rule_step (h : Wd M) (hk : k < 12) {A : xM → Option γ} : (pJ M (30 + 6 * k) 9 2 x).bind A = A (iS M (30 + 6 * k) 2 x) := h.pJ (by omega) (shp_Rule hk) (by decide) (by decide) rfl
theorem a_Rule_days (h : Wd M) (hk : k < 12) {A : Int → Option γ} : (gJ O M (30 + 6 * k) 9 3).bind A = A (iV M (30 + 6 * k) 3) := h.gJ (by omega) (shp_Rule hk) (by decide) (by decide)
theorem p_Rule_days (h : Wd M) (hk : k < 12) {A : xM → Option γ} : (pJ M (30 + 6 * k) 9 3 x).bind A = A (iS M (30 + 6 * k) 3 x) := h.pJ (by omega) (shp_Rule hk) (by decide) (by decide) rfl
theorem a_Rule_place (h : Wd M) (hk : k < 12) {A : Int → Option γ} : (gJ O M (30 + 6 * k) 9 4).bind A = A (iV M (30 + 6 * k) 4) := h.gJ (by omega) (shp_Rule hk) (by decide) (by decide)
theorem p_Rule_place (h : Wd M) (hk : k < 12) {A : xM → Option γ} : (pJ M (30 + 6 * k) 9 4 x).bind A = A (iS M (30 + 6 * k) 4 x) := h.pJ (by omega) (shp_Rule hk) (by decide) (by decide) rfl
theorem a_Rule_how (h : Wd M) (hk : k < 12) {A : Int → Option γ} : (gJ O M (30 + 6 * k) 9 5).bind A = A (iV M (30 + 6 * k) 5) := h.gJ (by omega) (shp_Rule hk) (by decide) (by decide)
theorem p_Rule_how (h : Wd M) (hk : k < 12) {A : xM → Option γ} : (pJ M (30 + 6 * k) 9 5 x).bind A = A (iS M (30 + 6 * k) 5 x) := h.pJ (by omega) (shp_Rule hk) (by decide) (by decide) rfl
theorem a_Rule_number (h : Wd M) (hk : k < 12) {A : Int → Option γ} : (gJ O M (30 + 6 * k) 9 6).bind A = A (iV M (30 + 6 * k) 6) := h.gJ (by omega) (shp_Rule hk) (by decide) (by decide)
theorem p_Rule_number (h : Wd M) (hk : k < 12) {A : xM → Option γ} : (pJ M (30 + 6 * k) 9 6 x).bind A = A (iS M (30 + 6 * k) 6 x) := h.pJ (by omega) (shp_Rule hk) (by decide) (by decide) rfl
theorem a_Rule_last (h : Wd M) (hk : k < 12) {A : Int → Option γ} : (gJ O M (30 + 6 * k) 9 7).bind A = A (iV M (30 + 6 * k) 7) := h.gJ (by omega) (shp_Rule hk) (by decide) (by decide)
theorem p_Rule_last (h : Wd M) (hk : k < 12) {A : xM → Option γ} : (pJ M (30 + 6 * k) 9 7 x).bind A = A (iS M (30 + 6 * k) 7 x) := h.pJ (by omega) (shp_Rule hk) (by decide) (by decide) rfl
theorem shp_Device : k < 2 → shp (101 + 7 * k) = .inl 3 := by
  revert k
  decide
theorem a_Device_is (h : Wd M) (hk : k < 2) {A : Unit → Option γ} : (isO O M (101 + 7 * k) 3).bind A = A () := h.is (by omega) (shp_Device hk)
theorem a_Device_clock (h : Wd M) (hk : k < 2) {A : Int → Option γ} : (gJ O M (101 + 7 * k) 3 0).bind A = A (iV M (101 + 7 * k) 0) := h.gJ (by omega) (shp_Device hk) (by decide) (by decide)
theorem p_Device_clock (h : Wd M) (hk : k < 2) {A : xM → Option γ} : (pJ M (101 + 7 * k) 3 0 x).bind A = A (iS M (101 + 7 * k) 0 x) := h.pJ (by omega) (shp_Device hk) (by decide) (by decide) rfl
theorem a_Device_count (h : Wd M) (hk : k < 2) {A : Int → Option γ} : (gJ O M (101 + 7 * k) 3 1).bind A = A (iV M (101 + 7 * k) 1) := h.gJ (by omega) (shp_Device hk) (by decide) (by decide)
theorem p_Device_count (h : Wd M) (hk : k < 2) {A : xM → Option γ} : (pJ M (101 + 7 * k) 3 1 x).bind A = A (iS M (101 + 7 * k) 1 x) := h.pJ (by omega) (shp_Device hk) (by decide) (by decide) rfl
theorem rfs_Device_places : k < 2 → rfs (101 + 7 * k) 2 = some (102 + 7 * k) := by
  revert k
  decide
theorem a_Device_places (h : Wd M) (hk : k < 2) {A : Nat → Option γ} : (gR O M (101 + 7 * k) 3 2).bind A = A (102 + 7 * k) := h.gR (by omega) (shp_Device hk) (by decide) (by decide) (rfs_Device_places hk)
theorem shp_Device_places : k < 2 → shp (102 + 7 * k) = .inr (0, 40) := by
  revert k
  decide
theorem n_Device_places (h : Wd M) (hk : k < 2) {A : Int → Option γ} : (aJN O M (102 + 7 * k)).bind A = A 40 := h.aN (by omega) (shp_Device_places hk) (by decide) (by decide)
theorem r_Device_places (h : Wd M) (hk : k < 2) (h0 : 0 ≤ i) (h1 : i < 40) {A : Int → Option γ} : (aJ O M (102 + 7 * k) i).bind A = A (iV M (102 + 7 * k) i.toNat) := h.aJ (by omega) (shp_Device_places hk) h0 h1 (by omega)
theorem w_Device_places (h : Wd M) (hk : k < 2) (h0 : 0 ≤ i) (h1 : i < 40) {A : xM → Option γ} : (wJ M (102 + 7 * k) i x).bind A = A (iS M (102 + 7 * k) i.toNat x) := h.wJ (by omega) (shp_Device_places hk) h0 h1 (by omega)
theorem rfs_Device_values : k < 2 → rfs (101 + 7 * k) 3 = some (103 + 7 * k) := by
  revert k
  decide
theorem a_Device_values (h : Wd M) (hk : k < 2) {A : Nat → Option γ} : (gR O M (101 + 7 * k) 3 3).bind A = A (103 + 7 * k) := h.gR (by omega) (shp_Device hk) (by decide) (by decide) (rfs_Device_values hk)
theorem shp_Device_values : k < 2 → shp (103 + 7 * k) = .inr (0, 40) := by
  revert k
  decide
theorem n_Device_values (h : Wd M) (hk : k < 2) {A : Int → Option γ} : (aJN O M (103 + 7 * k)).bind A = A 40 := h.aN (by omega) (shp_Device_values hk) (by decide) (by decide)
theorem r_Device_values (h : Wd M) (hk : k < 2) (h0 : 0 ≤ i) (h1 : i < 40) {A : Int → Option γ} : (aJ O M (103 + 7 * k) i).bind A = A (iV M (103 + 7 * k) i.toNat) := h.aJ (by omega) (shp_Device_values hk) h0 h1 (by omega)
theorem w_Device_values (h : Wd M) (hk : k < 2) (h0 : 0 ≤ i) (h1 : i < 40) {A : xM → Option γ} : (wJ M (103 + 7 * k) i x).bind A = A (iS M (103 + 7 * k) i.toNat x) := h.wJ (by omega) (shp_Device_values hk) h0 h1 (by omega)
theorem rfs_Device_clocks : k < 2 → rfs (101 + 7 * k) 4 = some (104 + 7 * k) := by
  revert k
  decide
theorem a_Device_clocks (h : Wd M) (hk : k < 2) {A : Nat → Option γ} : (gR O M (101 + 7 * k) 3 4).bind A = A (104 + 7 * k) := h.gR (by omega) (shp_Device hk) (by decide) (by decide) (rfs_Device_clocks hk)
theorem shp_Device_clocks : k < 2 → shp (104 + 7 * k) = .inr (0, 40) := by
  revert k
  decide
theorem n_Device_clocks (h : Wd M) (hk : k < 2) {A : Int → Option γ} : (aJN O M (104 + 7 * k)).bind A = A 40 := h.aN (by omega) (shp_Device_clocks hk) (by decide) (by decide)
theorem r_Device_clocks (h : Wd M) (hk : k < 2) (h0 : 0 ≤ i) (h1 : i < 40) {A : Int → Option γ} : (aJ O M (104 + 7 * k) i).bind A = A (iV M (104 + 7 * k) i.toNat) := h.aJ (by omega) (shp_Device_clocks hk) h0 h1 (by omega)
theorem w_Device_clocks (h : Wd M) (hk : k < 2) (h0 : 0 ≤ i) (h1 : i < 40) {A : xM → Option γ} : (wJ M (104 + 7 * k) i x).bind A = A (iS M (104 + 7 * k) i.toNat x) := h.wJ (by omega) (shp_Device_clocks hk) h0 h1 (by omega)
theorem rfs_Device_shownValues : k < 2 → rfs (101 + 7 * k) 5 = some (105 + 7 * k) := by
  revert k
  decide
theorem a_Device_shownValues (h : Wd M) (hk : k < 2) {A : Nat → Option γ} : (gR O M (101 + 7 * k) 3 5).bind A = A (105 + 7 * k) := h.gR (by omega) (shp_Device hk) (by decide) (by decide) (rfs_Device_shownValues hk)
theorem shp_Device_shownValues : k < 2 → shp (105 + 7 * k) = .inr (0, 48) := by
  revert k
  decide
theorem n_Device_shownValues (h : Wd M) (hk : k < 2) {A : Int → Option γ} : (aJN O M (105 + 7 * k)).bind A = A 48 := h.aN (by omega) (shp_Device_shownValues hk) (by decide) (by decide)
theorem r_Device_shownValues (h : Wd M) (hk : k < 2) (h0 : 0 ≤ i) (h1 : i < 48) {A : Int → Option γ} : (aJ O M (105 + 7 * k) i).bind A = A (iV M (105 + 7 * k) i.toNat) := h.aJ (by omega) (shp_Device_shownValues hk) h0 h1 (by omega)
theorem w_Device_shownValues (h : Wd M) (hk : k < 2) (h0 : 0 ≤ i) (h1 : i < 48) {A : xM → Option γ} : (wJ M (105 + 7 * k) i x).bind A = A (iS M (105 + 7 * k) i.toNat x) := h.wJ (by omega) (shp_Device_shownValues hk) h0 h1 (by omega)
theorem rfs_Device_shownClocks : k < 2 → rfs (101 + 7 * k) 6 = some (106 + 7 * k) := by
  revert k
  decide
theorem a_Device_shownClocks (h : Wd M) (hk : k < 2) {A : Nat → Option γ} : (gR O M (101 + 7 * k) 3 6).bind A = A (106 + 7 * k) := h.gR (by omega) (shp_Device hk) (by decide) (by decide) (rfs_Device_shownClocks hk)
theorem shp_Device_shownClocks : k < 2 → shp (106 + 7 * k) = .inr (0, 48) := by
  revert k
  decide
theorem n_Device_shownClocks (h : Wd M) (hk : k < 2) {A : Int → Option γ} : (aJN O M (106 + 7 * k)).bind A = A 48 := h.aN (by omega) (shp_Device_shownClocks hk) (by decide) (by decide)
theorem r_Device_shownClocks (h : Wd M) (hk : k < 2) (h0 : 0 ≤ i) (h1 : i < 48) {A : Int → Option γ} : (aJ O M (106 + 7 * k) i).bind A = A (iV M (106 + 7 * k) i.toNat) := h.aJ (by omega) (shp_Device_shownClocks hk) h0 h1 (by omega)
theorem w_Device_shownClocks (h : Wd M) (hk : k < 2) (h0 : 0 ≤ i) (h1 : i < 48) {A : xM → Option γ} : (wJ M (106 + 7 * k) i x).bind A = A (iS M (106 + 7 * k) i.toNat x) := h.wJ (by omega) (shp_Device_shownClocks hk) h0 h1 (by omega)
theorem rfs_Device_shownMakers : k < 2 → rfs (101 + 7 * k) 7 = some (107 + 7 * k) := by
  revert k
  decide
theorem a_Device_shownMakers (h : Wd M) (hk : k < 2) {A : Nat → Option γ} : (gR O M (101 + 7 * k) 3 7).bind A = A (107 + 7 * k) := h.gR (by omega) (shp_Device hk) (by decide) (by decide) (rfs_Device_shownMakers hk)
theorem shp_Device_shownMakers : k < 2 → shp (107 + 7 * k) = .inr (0, 48) := by
  revert k
  decide
theorem n_Device_shownMakers (h : Wd M) (hk : k < 2) {A : Int → Option γ} : (aJN O M (107 + 7 * k)).bind A = A 48 := h.aN (by omega) (shp_Device_shownMakers hk) (by decide) (by decide)
theorem r_Device_shownMakers (h : Wd M) (hk : k < 2) (h0 : 0 ≤ i) (h1 : i < 48) {A : Int → Option γ} : (aJ O M (107 + 7 * k) i).bind A = A (iV M (107 + 7 * k) i.toNat) := h.aJ (by omega) (shp_Device_shownMakers hk) h0 h1 (by omega)
theorem w_Device_shownMakers (h : Wd M) (hk : k < 2) (h0 : 0 ≤ i) (h1 : i < 48) {A : xM → Option γ} : (wJ M (107 + 7 * k) i x).bind A = A (iS M (107 + 7 * k) i.toNat x) := h.wJ (by omega) (shp_Device_shownMakers hk) h0 h1 (by omega)
theorem a_Hall_is (h : Wd M) {A : Unit → Option γ} : (isO O M (2) 4).bind A = A () := h.is (by decide) (by decide)
theorem a_Hall_zones (h : Wd M) {A : Nat → Option γ} : (gR O M 2 4 0).bind A = A 3 := h.gR (by decide) (by decide) (by decide) (by decide) (by decide)
theorem n_Hall_zones (h : Wd M) {A : Int → Option γ} : (aJN O M (3)).bind A = A 3 := h.aN (by decide) rfl (by decide) (by decide)
theorem r_Hall_zones (h : Wd M) (h0 : 0 ≤ i) (h1 : i < 3) {A : Nat → Option γ} : (aJR O M (3) i).bind A = A (12 + 3 * i.toNat) := h.aJR (by decide) rfl (by decide) h0 h1 (by omega) (by
  have q : ∀ z, z < 3 → rfs 3 z = some (12 + 3 * z) := by decide
  exact q i.toNat (by omega))
theorem a_Hall_people (h : Wd M) {A : Nat → Option γ} : (gR O M 2 4 1).bind A = A 4 := h.gR (by decide) (by decide) (by decide) (by decide) (by decide)
theorem n_Hall_people (h : Wd M) {A : Int → Option γ} : (aJN O M (4)).bind A = A 8 := h.aN (by decide) rfl (by decide) (by decide)
theorem r_Hall_people (h : Wd M) (h0 : 0 ≤ i) (h1 : i < 8) {A : Nat → Option γ} : (aJR O M (4) i).bind A = A (21 + 1 * i.toNat) := h.aJR (by decide) rfl (by decide) h0 h1 (by omega) (by
  have q : ∀ z, z < 8 → rfs 4 z = some (21 + 1 * z) := by decide
  exact q i.toNat (by omega))
theorem a_Hall_buildings (h : Wd M) {A : Nat → Option γ} : (gR O M 2 4 2).bind A = A 5 := h.gR (by decide) (by decide) (by decide) (by decide) (by decide)
theorem n_Hall_buildings (h : Wd M) {A : Int → Option γ} : (aJN O M (5)).bind A = A 4 := h.aN (by decide) rfl (by decide) (by decide)
theorem r_Hall_buildings (h : Wd M) (h0 : 0 ≤ i) (h1 : i < 4) {A : Int → Option γ} : (aJ O M (5) i).bind A = A (iV M (5) i.toNat) := h.aJ (by decide) (by decide) h0 h1 (by omega)
theorem w_Hall_buildings (h : Wd M) (h0 : 0 ≤ i) (h1 : i < 4) {A : xM → Option γ} : (wJ M (5) i x).bind A = A (iS M (5) i.toNat x) := h.wJ (by decide) (by decide) h0 h1 (by omega)
theorem a_Hall_series (h : Wd M) {A : Nat → Option γ} : (gR O M 2 4 3).bind A = A 6 := h.gR (by decide) (by decide) (by decide) (by decide) (by decide)
theorem n_Hall_series (h : Wd M) {A : Int → Option γ} : (aJN O M (6)).bind A = A 12 := h.aN (by decide) rfl (by decide) (by decide)
theorem r_Hall_series (h : Wd M) (h0 : 0 ≤ i) (h1 : i < 12) {A : Nat → Option γ} : (aJR O M (6) i).bind A = A (29 + 6 * i.toNat) := h.aJR (by decide) rfl (by decide) h0 h1 (by omega) (by
  have q : ∀ z, z < 12 → rfs 6 z = some (29 + 6 * z) := by decide
  exact q i.toNat (by omega))
theorem a_Hall_devices (h : Wd M) {A : Nat → Option γ} : (gR O M 2 4 4).bind A = A 7 := h.gR (by decide) (by decide) (by decide) (by decide) (by decide)
theorem n_Hall_devices (h : Wd M) {A : Int → Option γ} : (aJN O M (7)).bind A = A 2 := h.aN (by decide) rfl (by decide) (by decide)
theorem r_Hall_devices (h : Wd M) (h0 : 0 ≤ i) (h1 : i < 2) {A : Nat → Option γ} : (aJR O M (7) i).bind A = A (101 + 7 * i.toNat) := h.aJR (by decide) rfl (by decide) h0 h1 (by omega) (by
  have q : ∀ z, z < 2 → rfs 7 z = some (101 + 7 * z) := by decide
  exact q i.toNat (by omega))
theorem a_Hall_clock (h : Wd M) {A : Int → Option γ} : (gJ O M (2) 4 5).bind A = A (iV M (2) 5) := h.gJ (by decide) (by decide) (by decide) (by decide)
theorem p_Hall_clock (h : Wd M) {A : xM → Option γ} : (pJ M (2) 4 5 x).bind A = A (iS M (2) 5 x) := h.pJ (by decide) (by decide) (by decide) (by decide) rfl
theorem a_Hall_reminderSeries (h : Wd M) {A : Nat → Option γ} : (gR O M 2 4 6).bind A = A 8 := h.gR (by decide) (by decide) (by decide) (by decide) (by decide)
theorem n_Hall_reminderSeries (h : Wd M) {A : Int → Option γ} : (aJN O M (8)).bind A = A 10 := h.aN (by decide) rfl (by decide) (by decide)
theorem r_Hall_reminderSeries (h : Wd M) (h0 : 0 ≤ i) (h1 : i < 10) {A : Int → Option γ} : (aJ O M (8) i).bind A = A (iV M (8) i.toNat) := h.aJ (by decide) (by decide) h0 h1 (by omega)
theorem w_Hall_reminderSeries (h : Wd M) (h0 : 0 ≤ i) (h1 : i < 10) {A : xM → Option γ} : (wJ M (8) i x).bind A = A (iS M (8) i.toNat x) := h.wJ (by decide) (by decide) h0 h1 (by omega)
theorem a_Hall_reminderAheads (h : Wd M) {A : Nat → Option γ} : (gR O M 2 4 7).bind A = A 9 := h.gR (by decide) (by decide) (by decide) (by decide) (by decide)
theorem n_Hall_reminderAheads (h : Wd M) {A : Int → Option γ} : (aJN O M (9)).bind A = A 10 := h.aN (by decide) rfl (by decide) (by decide)
theorem r_Hall_reminderAheads (h : Wd M) (h0 : 0 ≤ i) (h1 : i < 10) {A : Int → Option γ} : (aJ O M (9) i).bind A = A (iV M (9) i.toNat) := h.aJ (by decide) (by decide) h0 h1 (by omega)
theorem w_Hall_reminderAheads (h : Wd M) (h0 : 0 ≤ i) (h1 : i < 10) {A : xM → Option γ} : (wJ M (9) i x).bind A = A (iS M (9) i.toNat x) := h.wJ (by decide) (by decide) h0 h1 (by omega)
theorem a_Hall_rings (h : Wd M) {A : Nat → Option γ} : (gR O M 2 4 8).bind A = A 10 := h.gR (by decide) (by decide) (by decide) (by decide) (by decide)
theorem n_Hall_rings (h : Wd M) {A : Int → Option γ} : (aJN O M (10)).bind A = A 30 := h.aN (by decide) rfl (by decide) (by decide)
theorem r_Hall_rings (h : Wd M) (h0 : 0 ≤ i) (h1 : i < 30) {A : Int → Option γ} : (aK O M (10) i).bind A = A (lV M (10) i.toNat) := h.aK (by decide) (by decide) h0 h1 (by omega)
theorem w_Hall_rings (h : Wd M) (h0 : 0 ≤ i) (h1 : i < 30) {A : xM → Option γ} : (wK M (10) i x).bind A = A (lS M (10) i.toNat x) := h.wK (by decide) (by decide) h0 h1 (by omega)
theorem a_Hall_ringCount (h : Wd M) {A : Int → Option γ} : (gJ O M (2) 4 9).bind A = A (iV M (2) 9) := h.gJ (by decide) (by decide) (by decide) (by decide)
theorem p_Hall_ringCount (h : Wd M) {A : xM → Option γ} : (pJ M (2) 4 9 x).bind A = A (iS M (2) 9 x) := h.pJ (by decide) (by decide) (by decide) (by decide) rfl
theorem a_Hall_snoozes (h : Wd M) {A : Nat → Option γ} : (gR O M 2 4 10).bind A = A 11 := h.gR (by decide) (by decide) (by decide) (by decide) (by decide)
theorem n_Hall_snoozes (h : Wd M) {A : Int → Option γ} : (aJN O M (11)).bind A = A 10 := h.aN (by decide) rfl (by decide) (by decide)
theorem r_Hall_snoozes (h : Wd M) (h0 : 0 ≤ i) (h1 : i < 10) {A : Int → Option γ} : (aK O M (11) i).bind A = A (lV M (11) i.toNat) := h.aK (by decide) (by decide) h0 h1 (by omega)
theorem w_Hall_snoozes (h : Wd M) (h0 : 0 ≤ i) (h1 : i < 10) {A : xM → Option γ} : (wK M (11) i x).bind A = A (lS M (11) i.toNat x) := h.wK (by decide) (by decide) h0 h1 (by omega)
theorem a_Hall_snoozeCount (h : Wd M) {A : Int → Option γ} : (gJ O M (2) 4 11).bind A = A (iV M (2) 11) := h.gJ (by decide) (by decide) (by decide) (by decide)
theorem p_Hall_snoozeCount (h : Wd M) {A : xM → Option γ} : (pJ M (2) 4 11 x).bind A = A (iS M (2) 11 x) := h.pJ (by decide) (by decide) (by decide) (by decide) rfl
theorem a_Cal_is (h : Wd M) {A : Unit → Option γ} : (isO O M (1) 12).bind A = A () := h.is (by decide) (by decide)
theorem a_Cal_hall (h : Wd M) {A : Nat → Option γ} : (gR O M 1 12 0).bind A = A 2 := h.gR (by decide) (by decide) (by decide) (by decide) (by decide)
theorem a_Cal_saved (h : Wd M) {A : Nat → Option γ} : (gR O M 1 12 1).bind A = A 115 := h.gR (by decide) (by decide) (by decide) (by decide) (by decide)
theorem n_Cal_saved (h : Wd M) {A : Int → Option γ} : (aJN O M (115)).bind A = A 8 := h.aN (by decide) rfl (by decide) (by decide)
theorem r_Cal_saved (h : Wd M) (h0 : 0 ≤ i) (h1 : i < 8) {A : Nat → Option γ} : (aJR O M (115) i).bind A = A (140 + 113 * i.toNat) := h.aJR (by decide) rfl (by decide) h0 h1 (by omega) (by
  have q : ∀ z, z < 8 → rfs 115 z = some (140 + 113 * z) := by decide
  exact q i.toNat (by omega))
theorem a_Cal_savedNext (h : Wd M) {A : Int → Option γ} : (gJ O M (1) 12 2).bind A = A (iV M (1) 2) := h.gJ (by decide) (by decide) (by decide) (by decide)
theorem p_Cal_savedNext (h : Wd M) {A : xM → Option γ} : (pJ M (1) 12 2 x).bind A = A (iS M (1) 2 x) := h.pJ (by decide) (by decide) (by decide) (by decide) rfl
theorem a_Cal_savedCount (h : Wd M) {A : Int → Option γ} : (gJ O M (1) 12 3).bind A = A (iV M (1) 3) := h.gJ (by decide) (by decide) (by decide) (by decide)
theorem p_Cal_savedCount (h : Wd M) {A : xM → Option γ} : (pJ M (1) 12 3 x).bind A = A (iS M (1) 3 x) := h.pJ (by decide) (by decide) (by decide) (by decide) rfl
theorem a_Cal_dates (h : Wd M) {A : Nat → Option γ} : (gR O M 1 12 4).bind A = A 116 := h.gR (by decide) (by decide) (by decide) (by decide) (by decide)
theorem a_Cal_meetings (h : Wd M) {A : Nat → Option γ} : (gR O M 1 12 5).bind A = A 119 := h.gR (by decide) (by decide) (by decide) (by decide) (by decide)
theorem a_Cal_planner (h : Wd M) {A : Nat → Option γ} : (gR O M 1 12 6).bind A = A 127 := h.gR (by decide) (by decide) (by decide) (by decide) (by decide)
theorem a_Cal_reader (h : Wd M) {A : Nat → Option γ} : (gR O M 1 12 7).bind A = A 134 := h.gR (by decide) (by decide) (by decide) (by decide) (by decide)
theorem a_Cal_written (h : Wd M) {A : Nat → Option γ} : (gR O M 1 12 8).bind A = A 137 := h.gR (by decide) (by decide) (by decide) (by decide) (by decide)
theorem a_Cal_costs (h : Wd M) {A : Nat → Option γ} : (gR O M 1 12 9).bind A = A 139 := h.gR (by decide) (by decide) (by decide) (by decide) (by decide)
theorem n_Cal_costs (h : Wd M) {A : Int → Option γ} : (aJN O M (139)).bind A = A 672 := h.aN (by decide) rfl (by decide) (by decide)
theorem r_Cal_costs (h : Wd M) (h0 : 0 ≤ i) (h1 : i < 672) {A : Int → Option γ} : (aJ O M (139) i).bind A = A (iV M (139) i.toNat) := h.aJ (by decide) (by decide) h0 h1 (by omega)
theorem w_Cal_costs (h : Wd M) (h0 : 0 ≤ i) (h1 : i < 672) {A : xM → Option γ} : (wJ M (139) i x).bind A = A (iS M (139) i.toNat x) := h.wJ (by decide) (by decide) h0 h1 (by omega)
theorem a_Dates_is (h : Wd M) {A : Unit → Option γ} : (isO O M (116) 2).bind A = A () := h.is (by decide) (by decide)
theorem a_Dates_count (h : Wd M) {A : Int → Option γ} : (gJ O M (116) 2 0).bind A = A (iV M (116) 0) := h.gJ (by decide) (by decide) (by decide) (by decide)
theorem p_Dates_count (h : Wd M) {A : xM → Option γ} : (pJ M (116) 2 0 x).bind A = A (iS M (116) 0 x) := h.pJ (by decide) (by decide) (by decide) (by decide) rfl
theorem a_Dates_rows (h : Wd M) {A : Nat → Option γ} : (gR O M 116 2 1).bind A = A 117 := h.gR (by decide) (by decide) (by decide) (by decide) (by decide)
theorem n_Dates_rows (h : Wd M) {A : Int → Option γ} : (aJN O M (117)).bind A = A 320 := h.aN (by decide) rfl (by decide) (by decide)
theorem r_Dates_rows (h : Wd M) (h0 : 0 ≤ i) (h1 : i < 320) {A : Int → Option γ} : (aK O M (117) i).bind A = A (lV M (117) i.toNat) := h.aK (by decide) (by decide) h0 h1 (by omega)
theorem w_Dates_rows (h : Wd M) (h0 : 0 ≤ i) (h1 : i < 320) {A : xM → Option γ} : (wK M (117) i x).bind A = A (lS M (117) i.toNat x) := h.wK (by decide) (by decide) h0 h1 (by omega)
theorem a_Dates_lengths (h : Wd M) {A : Nat → Option γ} : (gR O M 116 2 2).bind A = A 118 := h.gR (by decide) (by decide) (by decide) (by decide) (by decide)
theorem n_Dates_lengths (h : Wd M) {A : Int → Option γ} : (aJN O M (118)).bind A = A 16 := h.aN (by decide) rfl (by decide) (by decide)
theorem r_Dates_lengths (h : Wd M) (h0 : 0 ≤ i) (h1 : i < 16) {A : Int → Option γ} : (aJ O M (118) i).bind A = A (iV M (118) i.toNat) := h.aJ (by decide) (by decide) h0 h1 (by omega)
theorem w_Dates_lengths (h : Wd M) (h0 : 0 ≤ i) (h1 : i < 16) {A : xM → Option γ} : (wJ M (118) i x).bind A = A (iS M (118) i.toNat x) := h.wJ (by decide) (by decide) h0 h1 (by omega)
theorem a_Meetings_is (h : Wd M) {A : Unit → Option γ} : (isO O M (119) 5).bind A = A () := h.is (by decide) (by decide)
theorem a_Meetings_laid (h : Wd M) {A : Int → Option γ} : (gJ O M (119) 5 0).bind A = A (iV M (119) 0) := h.gJ (by decide) (by decide) (by decide) (by decide)
theorem p_Meetings_laid (h : Wd M) {A : xM → Option γ} : (pJ M (119) 5 0 x).bind A = A (iS M (119) 0 x) := h.pJ (by decide) (by decide) (by decide) (by decide) rfl
theorem a_Meetings_laidSeries (h : Wd M) {A : Nat → Option γ} : (gR O M 119 5 1).bind A = A 120 := h.gR (by decide) (by decide) (by decide) (by decide) (by decide)
theorem n_Meetings_laidSeries (h : Wd M) {A : Int → Option γ} : (aJN O M (120)).bind A = A 256 := h.aN (by decide) rfl (by decide) (by decide)
theorem r_Meetings_laidSeries (h : Wd M) (h0 : 0 ≤ i) (h1 : i < 256) {A : Int → Option γ} : (aJ O M (120) i).bind A = A (iV M (120) i.toNat) := h.aJ (by decide) (by decide) h0 h1 (by omega)
theorem w_Meetings_laidSeries (h : Wd M) (h0 : 0 ≤ i) (h1 : i < 256) {A : xM → Option γ} : (wJ M (120) i x).bind A = A (iS M (120) i.toNat x) := h.wJ (by decide) (by decide) h0 h1 (by omega)
theorem a_Meetings_laidDays (h : Wd M) {A : Nat → Option γ} : (gR O M 119 5 2).bind A = A 121 := h.gR (by decide) (by decide) (by decide) (by decide) (by decide)
theorem n_Meetings_laidDays (h : Wd M) {A : Int → Option γ} : (aJN O M (121)).bind A = A 256 := h.aN (by decide) rfl (by decide) (by decide)
theorem r_Meetings_laidDays (h : Wd M) (h0 : 0 ≤ i) (h1 : i < 256) {A : Int → Option γ} : (aJ O M (121) i).bind A = A (iV M (121) i.toNat) := h.aJ (by decide) (by decide) h0 h1 (by omega)
theorem w_Meetings_laidDays (h : Wd M) (h0 : 0 ≤ i) (h1 : i < 256) {A : xM → Option γ} : (wJ M (121) i x).bind A = A (iS M (121) i.toNat x) := h.wJ (by decide) (by decide) h0 h1 (by omega)
theorem a_Meetings_laidRooms (h : Wd M) {A : Nat → Option γ} : (gR O M 119 5 3).bind A = A 122 := h.gR (by decide) (by decide) (by decide) (by decide) (by decide)
theorem n_Meetings_laidRooms (h : Wd M) {A : Int → Option γ} : (aJN O M (122)).bind A = A 256 := h.aN (by decide) rfl (by decide) (by decide)
theorem r_Meetings_laidRooms (h : Wd M) (h0 : 0 ≤ i) (h1 : i < 256) {A : Int → Option γ} : (aJ O M (122) i).bind A = A (iV M (122) i.toNat) := h.aJ (by decide) (by decide) h0 h1 (by omega)
theorem w_Meetings_laidRooms (h : Wd M) (h0 : 0 ≤ i) (h1 : i < 256) {A : xM → Option γ} : (wJ M (122) i x).bind A = A (iS M (122) i.toNat x) := h.wJ (by decide) (by decide) h0 h1 (by omega)
theorem a_Meetings_roomEnds (h : Wd M) {A : Nat → Option γ} : (gR O M 119 5 4).bind A = A 123 := h.gR (by decide) (by decide) (by decide) (by decide) (by decide)
theorem n_Meetings_roomEnds (h : Wd M) {A : Int → Option γ} : (aJN O M (123)).bind A = A 4 := h.aN (by decide) rfl (by decide) (by decide)
theorem r_Meetings_roomEnds (h : Wd M) (h0 : 0 ≤ i) (h1 : i < 4) {A : Int → Option γ} : (aJ O M (123) i).bind A = A (iV M (123) i.toNat) := h.aJ (by decide) (by decide) h0 h1 (by omega)
theorem w_Meetings_roomEnds (h : Wd M) (h0 : 0 ≤ i) (h1 : i < 4) {A : xM → Option γ} : (wJ M (123) i x).bind A = A (iS M (123) i.toNat x) := h.wJ (by decide) (by decide) h0 h1 (by omega)
theorem a_Meetings_clashCount (h : Wd M) {A : Int → Option γ} : (gJ O M (119) 5 5).bind A = A (iV M (119) 5) := h.gJ (by decide) (by decide) (by decide) (by decide)
theorem p_Meetings_clashCount (h : Wd M) {A : xM → Option γ} : (pJ M (119) 5 5 x).bind A = A (iS M (119) 5 x) := h.pJ (by decide) (by decide) (by decide) (by decide) rfl
theorem a_Meetings_rows (h : Wd M) {A : Nat → Option γ} : (gR O M 119 5 6).bind A = A 124 := h.gR (by decide) (by decide) (by decide) (by decide) (by decide)
theorem n_Meetings_rows (h : Wd M) {A : Int → Option γ} : (aJN O M (124)).bind A = A 256 := h.aN (by decide) rfl (by decide) (by decide)
theorem r_Meetings_rows (h : Wd M) (h0 : 0 ≤ i) (h1 : i < 256) {A : Int → Option γ} : (aK O M (124) i).bind A = A (lV M (124) i.toNat) := h.aK (by decide) (by decide) h0 h1 (by omega)
theorem w_Meetings_rows (h : Wd M) (h0 : 0 ≤ i) (h1 : i < 256) {A : xM → Option γ} : (wK M (124) i x).bind A = A (lS M (124) i.toNat x) := h.wK (by decide) (by decide) h0 h1 (by omega)
theorem a_Meetings_rooms (h : Wd M) {A : Nat → Option γ} : (gR O M 119 5 7).bind A = A 125 := h.gR (by decide) (by decide) (by decide) (by decide) (by decide)
theorem n_Meetings_rooms (h : Wd M) {A : Int → Option γ} : (aJN O M (125)).bind A = A 256 := h.aN (by decide) rfl (by decide) (by decide)
theorem r_Meetings_rooms (h : Wd M) (h0 : 0 ≤ i) (h1 : i < 256) {A : Int → Option γ} : (aJ O M (125) i).bind A = A (iV M (125) i.toNat) := h.aJ (by decide) (by decide) h0 h1 (by omega)
theorem w_Meetings_rooms (h : Wd M) (h0 : 0 ≤ i) (h1 : i < 256) {A : xM → Option γ} : (wJ M (125) i x).bind A = A (iS M (125) i.toNat x) := h.wJ (by decide) (by decide) h0 h1 (by omega)
theorem a_Meetings_pairs (h : Wd M) {A : Nat → Option γ} : (gR O M 119 5 8).bind A = A 126 := h.gR (by decide) (by decide) (by decide) (by decide) (by decide)
theorem n_Meetings_pairs (h : Wd M) {A : Int → Option γ} : (aJN O M (126)).bind A = A 9216 := h.aN (by decide) rfl (by decide) (by decide)
theorem r_Meetings_pairs (h : Wd M) (h0 : 0 ≤ i) (h1 : i < 9216) {A : Int → Option γ} : (aJ O M (126) i).bind A = A (iV M (126) i.toNat) := h.aJ (by decide) (by decide) h0 h1 (by omega)
theorem w_Meetings_pairs (h : Wd M) (h0 : 0 ≤ i) (h1 : i < 9216) {A : xM → Option γ} : (wJ M (126) i x).bind A = A (iS M (126) i.toNat x) := h.wJ (by decide) (by decide) h0 h1 (by omega)
theorem a_Planner_is (h : Wd M) {A : Unit → Option γ} : (isO O M (127) 7).bind A = A () := h.is (by decide) (by decide)
theorem a_Planner_isKept (h : Wd M) {A : Int → Option γ} : (gJ O M (127) 7 0).bind A = A (iV M (127) 0) := h.gJ (by decide) (by decide) (by decide) (by decide)
theorem p_Planner_isKept (h : Wd M) (hx : x = 0 ∨ x = 1) {A : xM → Option γ} : (pJ M (127) 7 0 x).bind A = A (iS M (127) 0 x) := h.pJ (by decide) (by decide) (by decide) (by decide) (by rcases hx with e | e <;> subst e <;> rfl)
theorem a_Planner_count (h : Wd M) {A : Int → Option γ} : (gJ O M (127) 7 1).bind A = A (iV M (127) 1) := h.gJ (by decide) (by decide) (by decide) (by decide)
theorem p_Planner_count (h : Wd M) {A : xM → Option γ} : (pJ M (127) 7 1 x).bind A = A (iS M (127) 1 x) := h.pJ (by decide) (by decide) (by decide) (by decide) rfl
theorem a_Planner_rows (h : Wd M) {A : Nat → Option γ} : (gR O M 127 7 2).bind A = A 128 := h.gR (by decide) (by decide) (by decide) (by decide) (by decide)
theorem n_Planner_rows (h : Wd M) {A : Int → Option γ} : (aJN O M (128)).bind A = A 5 := h.aN (by decide) rfl (by decide) (by decide)
theorem r_Planner_rows (h : Wd M) (h0 : 0 ≤ i) (h1 : i < 5) {A : Int → Option γ} : (aK O M (128) i).bind A = A (lV M (128) i.toNat) := h.aK (by decide) (by decide) h0 h1 (by omega)
theorem w_Planner_rows (h : Wd M) (h0 : 0 ≤ i) (h1 : i < 5) {A : xM → Option γ} : (wK M (128) i x).bind A = A (lS M (128) i.toNat x) := h.wK (by decide) (by decide) h0 h1 (by omega)
theorem a_Planner_lengths (h : Wd M) {A : Nat → Option γ} : (gR O M 127 7 3).bind A = A 129 := h.gR (by decide) (by decide) (by decide) (by decide) (by decide)
theorem n_Planner_lengths (h : Wd M) {A : Int → Option γ} : (aJN O M (129)).bind A = A 5 := h.aN (by decide) rfl (by decide) (by decide)
theorem r_Planner_lengths (h : Wd M) (h0 : 0 ≤ i) (h1 : i < 5) {A : Int → Option γ} : (aJ O M (129) i).bind A = A (iV M (129) i.toNat) := h.aJ (by decide) (by decide) h0 h1 (by omega)
theorem w_Planner_lengths (h : Wd M) (h0 : 0 ≤ i) (h1 : i < 5) {A : xM → Option γ} : (wJ M (129) i x).bind A = A (iS M (129) i.toNat x) := h.wJ (by decide) (by decide) h0 h1 (by omega)
theorem a_Planner_takers (h : Wd M) {A : Nat → Option γ} : (gR O M 127 7 4).bind A = A 130 := h.gR (by decide) (by decide) (by decide) (by decide) (by decide)
theorem n_Planner_takers (h : Wd M) {A : Int → Option γ} : (aJN O M (130)).bind A = A 5 := h.aN (by decide) rfl (by decide) (by decide)
theorem r_Planner_takers (h : Wd M) (h0 : 0 ≤ i) (h1 : i < 5) {A : Int → Option γ} : (aJ O M (130) i).bind A = A (iV M (130) i.toNat) := h.aJ (by decide) (by decide) h0 h1 (by omega)
theorem w_Planner_takers (h : Wd M) (h0 : 0 ≤ i) (h1 : i < 5) {A : xM → Option γ} : (wJ M (130) i x).bind A = A (iS M (130) i.toNat x) := h.wJ (by decide) (by decide) h0 h1 (by omega)
theorem a_Planner_begins (h : Wd M) {A : Nat → Option γ} : (gR O M 127 7 5).bind A = A 131 := h.gR (by decide) (by decide) (by decide) (by decide) (by decide)
theorem n_Planner_begins (h : Wd M) {A : Int → Option γ} : (aJN O M (131)).bind A = A 5 := h.aN (by decide) rfl (by decide) (by decide)
theorem r_Planner_begins (h : Wd M) (h0 : 0 ≤ i) (h1 : i < 5) {A : Int → Option γ} : (aJ O M (131) i).bind A = A (iV M (131) i.toNat) := h.aJ (by decide) (by decide) h0 h1 (by omega)
theorem w_Planner_begins (h : Wd M) (h0 : 0 ≤ i) (h1 : i < 5) {A : xM → Option γ} : (wJ M (131) i x).bind A = A (iS M (131) i.toNat x) := h.wJ (by decide) (by decide) h0 h1 (by omega)
theorem a_Planner_tried (h : Wd M) {A : Nat → Option γ} : (gR O M 127 7 6).bind A = A 132 := h.gR (by decide) (by decide) (by decide) (by decide) (by decide)
theorem n_Planner_tried (h : Wd M) {A : Int → Option γ} : (aJN O M (132)).bind A = A 5 := h.aN (by decide) rfl (by decide) (by decide)
theorem r_Planner_tried (h : Wd M) (h0 : 0 ≤ i) (h1 : i < 5) {A : Int → Option γ} : (aJ O M (132) i).bind A = A (iV M (132) i.toNat) := h.aJ (by decide) (by decide) h0 h1 (by omega)
theorem w_Planner_tried (h : Wd M) (h0 : 0 ≤ i) (h1 : i < 5) {A : xM → Option γ} : (wJ M (132) i x).bind A = A (iS M (132) i.toNat x) := h.wJ (by decide) (by decide) h0 h1 (by omega)
theorem a_Planner_choices (h : Wd M) {A : Nat → Option γ} : (gR O M 127 7 7).bind A = A 133 := h.gR (by decide) (by decide) (by decide) (by decide) (by decide)
theorem n_Planner_choices (h : Wd M) {A : Int → Option γ} : (aJN O M (133)).bind A = A 5 := h.aN (by decide) rfl (by decide) (by decide)
theorem r_Planner_choices (h : Wd M) (h0 : 0 ≤ i) (h1 : i < 5) {A : Int → Option γ} : (aJ O M (133) i).bind A = A (iV M (133) i.toNat) := h.aJ (by decide) (by decide) h0 h1 (by omega)
theorem w_Planner_choices (h : Wd M) (h0 : 0 ≤ i) (h1 : i < 5) {A : xM → Option γ} : (wJ M (133) i x).bind A = A (iS M (133) i.toNat x) := h.wJ (by decide) (by decide) h0 h1 (by omega)
theorem a_Planner_bestCost (h : Wd M) {A : Int → Option γ} : (gJ O M (127) 7 8).bind A = A (iV M (127) 8) := h.gJ (by decide) (by decide) (by decide) (by decide)
theorem p_Planner_bestCost (h : Wd M) {A : xM → Option γ} : (pJ M (127) 7 8 x).bind A = A (iS M (127) 8 x) := h.pJ (by decide) (by decide) (by decide) (by decide) rfl
theorem a_Reader_is (h : Wd M) {A : Unit → Option γ} : (isO O M (134) 8).bind A = A () := h.is (by decide) (by decide)
theorem a_Reader_length (h : Wd M) {A : Int → Option γ} : (gJ O M (134) 8 0).bind A = A (iV M (134) 0) := h.gJ (by decide) (by decide) (by decide) (by decide)
theorem p_Reader_length (h : Wd M) {A : xM → Option γ} : (pJ M (134) 8 0 x).bind A = A (iS M (134) 0 x) := h.pJ (by decide) (by decide) (by decide) (by decide) rfl
theorem a_Reader_rule (h : Wd M) {A : Nat → Option γ} : (gR O M 134 8 1).bind A = A 135 := h.gR (by decide) (by decide) (by decide) (by decide) (by decide)
theorem a_Reader_text (h : Wd M) {A : Nat → Option γ} : (gR O M 134 8 2).bind A = A 136 := h.gR (by decide) (by decide) (by decide) (by decide) (by decide)
theorem n_Reader_text (h : Wd M) {A : Int → Option γ} : (aJN O M (136)).bind A = A 120 := h.aN (by decide) rfl (by decide) (by decide)
theorem r_Reader_text (h : Wd M) (h0 : 0 ≤ i) (h1 : i < 120) {A : Int → Option γ} : (aJC O M (136) i).bind A = A (iV M (136) i.toNat) := h.aJC (by decide) (by decide) h0 h1 (by omega)
theorem a_Reader_start (h : Wd M) {A : Int → Option γ} : (gJ O M (134) 8 3).bind A = A (iV M (134) 3) := h.gJ (by decide) (by decide) (by decide) (by decide)
theorem p_Reader_start (h : Wd M) {A : xM → Option γ} : (pJ M (134) 8 3 x).bind A = A (iS M (134) 3 x) := h.pJ (by decide) (by decide) (by decide) (by decide) rfl
theorem a_Reader_end (h : Wd M) {A : Int → Option γ} : (gJ O M (134) 8 4).bind A = A (iV M (134) 4) := h.gJ (by decide) (by decide) (by decide) (by decide)
theorem p_Reader_end (h : Wd M) {A : xM → Option γ} : (pJ M (134) 8 4 x).bind A = A (iS M (134) 4 x) := h.pJ (by decide) (by decide) (by decide) (by decide) rfl
theorem a_Reader_token (h : Wd M) {A : Int → Option γ} : (gJ O M (134) 8 5).bind A = A (iV M (134) 5) := h.gJ (by decide) (by decide) (by decide) (by decide)
theorem p_Reader_token (h : Wd M) {A : xM → Option γ} : (pJ M (134) 8 5 x).bind A = A (iS M (134) 5 x) := h.pJ (by decide) (by decide) (by decide) (by decide) rfl
theorem a_Reader_number (h : Wd M) {A : Int → Option γ} : (gJ O M (134) 8 6).bind A = A (iV M (134) 6) := h.gJ (by decide) (by decide) (by decide) (by decide)
theorem p_Reader_number (h : Wd M) {A : xM → Option γ} : (pJ M (134) 8 6 x).bind A = A (iS M (134) 6 x) := h.pJ (by decide) (by decide) (by decide) (by decide) rfl
theorem a_RRule_is (h : Wd M) {A : Unit → Option γ} : (isO O M (135) 9).bind A = A () := h.is (by decide) (by decide)
theorem a_RRule_first (h : Wd M) {A : Int → Option γ} : (gJ O M (135) 9 0).bind A = A (iV M (135) 0) := h.gJ (by decide) (by decide) (by decide) (by decide)
theorem p_RRule_first (h : Wd M) {A : xM → Option γ} : (pJ M (135) 9 0 x).bind A = A (iS M (135) 0 x) := h.pJ (by decide) (by decide) (by decide) (by decide) rfl
theorem a_RRule_kind (h : Wd M) {A : Int → Option γ} : (gJ O M (135) 9 1).bind A = A (iV M (135) 1) := h.gJ (by decide) (by decide) (by decide) (by decide)
theorem p_RRule_kind (h : Wd M) {A : xM → Option γ} : (pJ M (135) 9 1 x).bind A = A (iS M (135) 1 x) := h.pJ (by decide) (by decide) (by decide) (by decide) rfl
theorem a_RRule_step (h : Wd M) {A : Int → Option γ} : (gJ O M (135) 9 2).bind A = A (iV M (135) 2) := h.gJ (by decide) (by decide) (by decide) (by decide)
theorem p_RRule_step (h : Wd M) {A : xM → Option γ} : (pJ M (135) 9 2 x).bind A = A (iS M (135) 2 x) := h.pJ (by decide) (by decide) (by decide) (by decide) rfl
theorem a_RRule_days (h : Wd M) {A : Int → Option γ} : (gJ O M (135) 9 3).bind A = A (iV M (135) 3) := h.gJ (by decide) (by decide) (by decide) (by decide)
theorem p_RRule_days (h : Wd M) {A : xM → Option γ} : (pJ M (135) 9 3 x).bind A = A (iS M (135) 3 x) := h.pJ (by decide) (by decide) (by decide) (by decide) rfl
theorem a_RRule_place (h : Wd M) {A : Int → Option γ} : (gJ O M (135) 9 4).bind A = A (iV M (135) 4) := h.gJ (by decide) (by decide) (by decide) (by decide)
theorem p_RRule_place (h : Wd M) {A : xM → Option γ} : (pJ M (135) 9 4 x).bind A = A (iS M (135) 4 x) := h.pJ (by decide) (by decide) (by decide) (by decide) rfl
theorem a_RRule_how (h : Wd M) {A : Int → Option γ} : (gJ O M (135) 9 5).bind A = A (iV M (135) 5) := h.gJ (by decide) (by decide) (by decide) (by decide)
theorem p_RRule_how (h : Wd M) {A : xM → Option γ} : (pJ M (135) 9 5 x).bind A = A (iS M (135) 5 x) := h.pJ (by decide) (by decide) (by decide) (by decide) rfl
theorem a_RRule_number (h : Wd M) {A : Int → Option γ} : (gJ O M (135) 9 6).bind A = A (iV M (135) 6) := h.gJ (by decide) (by decide) (by decide) (by decide)
theorem p_RRule_number (h : Wd M) {A : xM → Option γ} : (pJ M (135) 9 6 x).bind A = A (iS M (135) 6 x) := h.pJ (by decide) (by decide) (by decide) (by decide) rfl
theorem a_RRule_last (h : Wd M) {A : Int → Option γ} : (gJ O M (135) 9 7).bind A = A (iV M (135) 7) := h.gJ (by decide) (by decide) (by decide) (by decide)
theorem p_RRule_last (h : Wd M) {A : xM → Option γ} : (pJ M (135) 9 7 x).bind A = A (iS M (135) 7 x) := h.pJ (by decide) (by decide) (by decide) (by decide) rfl
theorem a_SB_is (h : Wd M) {A : Unit → Option γ} : (isO O M (137) 1).bind A = A () := h.is (by decide) (by decide)
theorem a_SB_coder (h : Wd M) {A : Int → Option γ} : (gJ O M (137) 1 1).bind A = A (iV M (137) 1) := h.gJ (by decide) (by decide) (by decide) (by decide)
theorem p_SB_coder (h : Wd M) (hx : x = 0 ∨ x = 1) {A : xM → Option γ} : (pJ M (137) 1 1 x).bind A = A (iS M (137) 1 x) := h.pJ (by decide) (by decide) (by decide) (by decide) (by rcases hx with e | e <;> subst e <;> rfl)
theorem a_SB_maybeLatin1 (h : Wd M) {A : Int → Option γ} : (gJ O M (137) 1 2).bind A = A (iV M (137) 2) := h.gJ (by decide) (by decide) (by decide) (by decide)
theorem p_SB_maybeLatin1 (h : Wd M) (hx : x = 0 ∨ x = 1) {A : xM → Option γ} : (pJ M (137) 1 2 x).bind A = A (iS M (137) 2 x) := h.pJ (by decide) (by decide) (by decide) (by decide) (by rcases hx with e | e <;> subst e <;> rfl)
theorem a_SB_count (h : Wd M) {A : Int → Option γ} : (gJ O M (137) 1 3).bind A = A (iV M (137) 3) := h.gJ (by decide) (by decide) (by decide) (by decide)
theorem p_SB_count (h : Wd M) {A : xM → Option γ} : (pJ M (137) 1 3 x).bind A = A (iS M (137) 3 x) := h.pJ (by decide) (by decide) (by decide) (by decide) rfl
end WLD
end
