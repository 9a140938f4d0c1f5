/-! ===== what the small reads and writes answer ===== -/
theorem hp_new_at {O : Nat → Option va_E} {M : xM} {k : Nat} (h1 : k < 1000000000) (h2 : k < M.1) : xrd O (hp M) k = some (mcell (mS M k) (mI M k) (mL M k) (mR M k)) := by
  unfold xrd
  rw [if_pos h1, if_pos (show k < (hp M).1 from h2)]
  rfl
theorem hp_old_at {O : Nat → Option va_E} {M : xM} {j : Nat} : xrd O (hp M) (1000000000 + j) = O j := by
  unfold xrd
  rw [if_neg (by omega), Nat.add_sub_cancel_left]
theorem xfv_I {ty : FieldType} {i : Int32} {l : Int64} {r : Option Nat} (h : xkI ty = true) : xfv ty i l r = .int i := by
  revert h
  cases ty <;> intro h <;> first | rfl | (cases h; done)
theorem xfv_R {ty : FieldType} {i : Int32} {l : Int64} {r : Option Nat} (h : xkR ty = true) : xfv ty i l r = va_rf r := by
  revert h
  cases ty <;> intro h <;> first | rfl | (cases h; done)
section CEL
variable {O : Nat → Option va_E} {M : xM} {k ci j n : Nat}
theorem c_gI (h1 : k < 1000000000) (h2 : k < M.1) (hs : mS M k = .inl ci) (hj : j < xNf ci) (ht : xkI (xTy ci j) = true) : gI O M k ci j = some (mI M k j) := by
  unfold gI
  rw [hp_new_at h1 h2, hs]
  unfold mcell
  dsimp only
  rw [if_pos rfl]
  simp only [List.getElem?_map, List.getElem?_range hj, Option.map_some, xfv_I ht]
theorem c_gL (h1 : k < 1000000000) (h2 : k < M.1) (hs : mS M k = .inl ci) (hj : j < xNf ci) (ht : xTy ci j = .long) : gL O M k ci j = some (mL M k j) := by
  unfold gL
  rw [hp_new_at h1 h2, hs]
  unfold mcell
  dsimp only
  rw [if_pos rfl]
  simp only [List.getElem?_map, List.getElem?_range hj, Option.map_some, ht]
  rfl
theorem c_gR {r : Nat} (h1 : k < 1000000000) (h2 : k < M.1) (hs : mS M k = .inl ci) (hj : j < xNf ci) (ht : xkR (xTy ci j) = true) (hr : mR M k j = some r) : gR O M k ci j = some r := by
  unfold gR
  rw [hp_new_at h1 h2, hs]
  unfold mcell
  dsimp only
  rw [if_pos rfl]
  simp only [List.getElem?_map, List.getElem?_range hj, Option.map_some, xfv_R ht, hr]
  rfl
theorem c_isO (h1 : k < 1000000000) (h2 : k < M.1) (hs : mS M k = .inl ci) : isO O M k ci = some () := by
  unfold isO
  rw [hp_new_at h1 h2, hs]
  unfold mcell
  dsimp only
  rw [if_pos rfl]
theorem c_pI {x : Int32} (h1 : k < 1000000000) (h2 : k < M.1) (hs : mS M k = .inl ci) (hj : j < xNf ci) (ht : xkI (xTy ci j) = true) (hf : xfit (xTy ci j) (.int x) = true) : pI M k ci j x = some (msI M k (mup (mI M k) j x)) := if_pos ⟨⟨h1, h2⟩, hs, hj, ht, hf⟩
theorem c_pL {x : Int64} (h1 : k < 1000000000) (h2 : k < M.1) (hs : mS M k = .inl ci) (hj : j < xNf ci) (ht : xTy ci j = .long) : pL M k ci j x = some (msL M k (mup (mL M k) j x)) := if_pos ⟨⟨h1, h2⟩, hs, hj, ht⟩
theorem c_pR {x : Option Nat} (h1 : k < 1000000000) (h2 : k < M.1) (hs : mS M k = .inl ci) (hj : j < xNf ci) (ht : xkR (xTy ci j) = true) : pR M k ci j x = some (msR M k (mup (mR M k) j x)) := if_pos ⟨⟨h1, h2⟩, hs, hj, ht⟩
theorem c_aN {t : Nat} (h1 : k < 1000000000) (h2 : k < M.1) (hs : mS M k = .inr (t, n)) (ht : t < 12) : aN O M k = some (Int32.ofNat n) := by
  unfold aN
  rw [hp_new_at h1 h2, hs]
  unfold mcell
  dsimp only
  rw [if_pos ht]
theorem ix_in {i : Int} (h0 : 0 ≤ i) (h1 : i < n) (hr : yr i) : ¬ (yw i < 0 ∨ n ≤ (yw i).toNatClampNeg) := by
  rw [yw_nat hr, yl_0, yw_lt hr (by decide)]
  omega
theorem ix_in2 {i : Int} (h0 : 0 ≤ i) (h1 : i < n) (hr : yr i) : ¬ (yw i < 0 ∨ n ≤ i.toNat) := by
  have h := ix_in h0 h1 hr
  rwa [yw_nat hr] at h
theorem c_aI {i : Int} (h1 : k < 1000000000) (h2 : k < M.1) (hs : mS M k = .inr (0, n)) (hi0 : 0 ≤ i) (hi : i < n) (hr : yr i) : aI O M k (yw i) = some (mI M k i.toNat) := by
  unfold aI
  rw [hp_new_at h1 h2, hs]
  unfold mcell
  simp only [if_true, show ¬ (0 = 1) from by decide, if_false, show 0 < 5 from by decide, yw_nat hr, if_neg (ix_in2 hi0 hi hr)]
theorem c_aB {i : Int} {t : Nat} (h1 : k < 1000000000) (h2 : k < M.1) (hs : mS M k = .inr (t, n)) (ht : t = 2 ∨ t = 3) (hi0 : 0 ≤ i) (hi : i < n) (hr : yr i) : aB O M k (yw i) = some (mI M k i.toNat) := by
  unfold aB
  rw [hp_new_at h1 h2, hs]
  unfold mcell
  simp only [if_neg (show ¬ (t = 1) by omega), if_pos (show t < 5 by omega), if_pos ht, yw_nat hr, if_neg (ix_in2 hi0 hi hr)]
theorem c_aC {i : Int} (h1 : k < 1000000000) (h2 : k < M.1) (hs : mS M k = .inr (4, n)) (hi0 : 0 ≤ i) (hi : i < n) (hr : yr i) : aC O M k (yw i) = some (mI M k i.toNat) := by
  unfold aC
  rw [hp_new_at h1 h2, hs]
  unfold mcell
  simp only [if_true, show ¬ (4 = 1) from by decide, if_false, show 4 < 5 from by decide, yw_nat hr, if_neg (ix_in2 hi0 hi hr)]
theorem c_aL {i : Int} (h1 : k < 1000000000) (h2 : k < M.1) (hs : mS M k = .inr (1, n)) (hi0 : 0 ≤ i) (hi : i < n) (hr : yr i) : aL O M k (yw i) = some (mL M k i.toNat) := by
  unfold aL
  rw [hp_new_at h1 h2, hs]
  unfold mcell
  simp only [if_true, yw_nat hr, if_neg (ix_in2 hi0 hi hr)]
theorem c_aR {i : Int} {t : Nat} (h1 : k < 1000000000) (h2 : k < M.1) (hs : mS M k = .inr (t, n)) (ht : 5 ≤ t ∧ t < 12) (hi0 : 0 ≤ i) (hi : i < n) (hr : yr i) : aR O M k (yw i) = mR M k i.toNat := by
  unfold aR
  rw [hp_new_at h1 h2, hs]
  unfold mcell
  simp only [if_neg (show ¬ (t = 1) by omega), if_neg (show ¬ (t < 5) by omega), if_pos ht, yw_nat hr, if_neg (ix_in2 hi0 hi hr)]
theorem c_wX {i : Int} {t : Nat} (h1 : k < 1000000000) (h2 : k < M.1) (hs : mS M k = .inr (t, n)) (hi0 : 0 ≤ i) (hi : i < n) (hr : yr i) : wX M k t (yw i) = true := by
  have h3 := ix_in hi0 hi hr
  unfold wX
  rw [hs]
  simp only [h1, h2, decide_true, Bool.and_self, Bool.true_and, Bool.not_eq_true', Bool.or_eq_false_iff, decide_eq_false_iff_not]
  exact ⟨fun z => h3 (Or.inl z), fun z => h3 (Or.inr z)⟩
theorem c_wI {i : Int} {x : Int32} (h1 : k < 1000000000) (h2 : k < M.1) (hs : mS M k = .inr (0, n)) (hi0 : 0 ≤ i) (hi : i < n) (hr : yr i) : wI M k (yw i) x = some (msI M k (mup (mI M k) i.toNat x)) := by
  unfold wI
  rw [if_pos (c_wX h1 h2 hs hi0 hi hr), yw_nat hr]
theorem c_wC {i : Int} {x : Int32} (h1 : k < 1000000000) (h2 : k < M.1) (hs : mS M k = .inr (4, n)) (hi0 : 0 ≤ i) (hi : i < n) (hr : yr i) : wC M k (yw i) x = some (msI M k (mup (mI M k) i.toNat (vp_nar .char x))) := by
  unfold wC
  rw [if_pos (c_wX h1 h2 hs hi0 hi hr), yw_nat hr]
theorem c_wB {i : Int} {x : Int32} (h1 : k < 1000000000) (h2 : k < M.1) (hs : mS M k = .inr (2, n)) (hi0 : 0 ≤ i) (hi : i < n) (hr : yr i) : wB M k (yw i) x = some (msI M k (mup (mI M k) i.toNat (vp_nar .boolean x))) := by
  unfold wB
  rw [if_pos (c_wX h1 h2 hs hi0 hi hr), yw_nat hr]
theorem c_wL {i : Int} {x : Int64} (h1 : k < 1000000000) (h2 : k < M.1) (hs : mS M k = .inr (1, n)) (hi0 : 0 ≤ i) (hi : i < n) (hr : yr i) : wL M k (yw i) x = some (msL M k (mup (mL M k) i.toNat x)) := by
  unfold wL
  rw [if_pos (c_wX h1 h2 hs hi0 hi hr), yw_nat hr]
end CEL
section MSR
variable {M : xM} {k a : Nat}
theorem msI_1 (f : Nat → Int32) : (msI M k f).1 = M.1 := rfl
theorem msL_1 (f : Nat → Int64) : (msL M k f).1 = M.1 := rfl
theorem msR_1 (f : Nat → Option Nat) : (msR M k f).1 = M.1 := rfl
theorem msI_2 (f : Nat → Int32) : (msI M k f).2.1 = M.2.1 := rfl
theorem msL_2 (f : Nat → Int64) : (msL M k f).2.1 = M.2.1 := rfl
theorem msI_S (f : Nat → Int32) : mS (msI M k f) = mS M := rfl
theorem msL_S (f : Nat → Int64) : mS (msL M k f) = mS M := rfl
theorem msR_S (f : Nat → Option Nat) : mS (msR M k f) = mS M := rfl
theorem msI_R (f : Nat → Int32) : mR (msI M k f) = mR M := rfl
theorem msL_R (f : Nat → Int64) : mR (msL M k f) = mR M := rfl
theorem msI_L (f : Nat → Int32) : mL (msI M k f) = mL M := rfl
theorem msL_I (f : Nat → Int64) : mI (msL M k f) = mI M := rfl
theorem msI_I (f : Nat → Int32) : mI (msI M k f) a = if a = k then f else mI M a := rfl
theorem msL_L (f : Nat → Int64) : mL (msL M k f) a = if a = k then f else mL M a := rfl
theorem mup_s {α : Type} {f : Nat → α} {i : Nat} {v : α} : mup f i v i = v := if_pos rfl
theorem mup_o {α : Type} {f : Nat → α} {i j : Nat} {v : α} (h : ¬ j = i) : mup f i v j = f j := if_neg h
end MSR
