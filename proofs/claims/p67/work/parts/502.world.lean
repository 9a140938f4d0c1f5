/-! ===== the world after the constructor (printed by wip/p67/gen_world.py) ===== -/
def hbS : List (Nat ⊕ Nat × Nat) := [.inl 4, .inr (7, 3), .inr (8, 8), .inr (0, 4), .inr (9, 12), .inr (10, 2), .inr (0, 10), .inr (0, 10), .inr (1, 30), .inr (1, 10), .inl 11, .inr (0, 4), .inr (0, 4), .inl 11, .inr (0, 4), .inr (0, 4), .inl 11, .inr (0, 4), .inr (0, 4), .inl 6, .inl 6, .inl 6, .inl 6, .inl 6, .inl 6, .inl 6, .inl 6, .inl 10, .inl 9, .inr (0, 10), .inr (0, 10), .inr (0, 8), .inr (0, 8), .inl 10, .inl 9, .inr (0, 10), .inr (0, 10), .inr (0, 8), .inr (0, 8), .inl 10, .inl 9, .inr (0, 10), .inr (0, 10), .inr (0, 8), .inr (0, 8), .inl 10, .inl 9, .inr (0, 10), .inr (0, 10), .inr (0, 8), .inr (0, 8), .inl 10, .inl 9, .inr (0, 10), .inr (0, 10), .inr (0, 8), .inr (0, 8), .inl 10, .inl 9, .inr (0, 10), .inr (0, 10), .inr (0, 8), .inr (0, 8), .inl 10, .inl 9, .inr (0, 10), .inr (0, 10), .inr (0, 8), .inr (0, 8), .inl 10, .inl 9, .inr (0, 10), .inr (0, 10), .inr (0, 8), .inr (0, 8), .inl 10, .inl 9, .inr (0, 10), .inr (0, 10), .inr (0, 8), .inr (0, 8), .inl 10, .inl 9, .inr (0, 10), .inr (0, 10), .inr (0, 8), .inr (0, 8), .inl 10, .inl 9, .inr (0, 10), .inr (0, 10), .inr (0, 8), .inr (0, 8), .inl 10, .inl 9, .inr (0, 10), .inr (0, 10), .inr (0, 8), .inr (0, 8), .inl 3, .inr (0, 40), .inr (0, 40), .inr (0, 40), .inr (0, 48), .inr (0, 48), .inr (0, 48), .inl 3, .inr (0, 40), .inr (0, 40), .inr (0, 40), .inr (0, 48), .inr (0, 48), .inr (0, 48)]
def hbR : List (List (Option Nat)) := [[some 1, some 2, some 3, some 4, some 5, none, some 6, some 7, some 8, none, some 9, none], [some 10, some 13, some 16], [some 19, some 20, some 21, some 22, some 23, some 24, some 25, some 26], [], [some 27, some 33, some 39, some 45, some 51, some 57, some 63, some 69, some 75, some 81, some 87, some 93], [some 99, some 106], [], [], [], [], [none, none, some 11, some 12], [], [], [none, none, some 14, some 15], [], [], [none, none, some 17, some 18], [], [], [none, none, none, none], [none, none, none, none], [none, none, none, none], [none, none, none, none], [none, none, none, none], [none, none, none, none], [none, none, none, none], [none, none, none, none], [none, none, none, none, none, none, some 28, none, some 29, some 30, some 31, some 32], [none, none, none, none, none, none, none, none], [], [], [], [], [none, none, none, none, none, none, some 34, none, some 35, some 36, some 37, some 38], [none, none, none, none, none, none, none, none], [], [], [], [], [none, none, none, none, none, none, some 40, none, some 41, some 42, some 43, some 44], [none, none, none, none, none, none, none, none], [], [], [], [], [none, none, none, none, none, none, some 46, none, some 47, some 48, some 49, some 50], [none, none, none, none, none, none, none, none], [], [], [], [], [none, none, none, none, none, none, some 52, none, some 53, some 54, some 55, some 56], [none, none, none, none, none, none, none, none], [], [], [], [], [none, none, none, none, none, none, some 58, none, some 59, some 60, some 61, some 62], [none, none, none, none, none, none, none, none], [], [], [], [], [none, none, none, none, none, none, some 64, none, some 65, some 66, some 67, some 68], [none, none, none, none, none, none, none, none], [], [], [], [], [none, none, none, none, none, none, some 70, none, some 71, some 72, some 73, some 74], [none, none, none, none, none, none, none, none], [], [], [], [], [none, none, none, none, none, none, some 76, none, some 77, some 78, some 79, some 80], [none, none, none, none, none, none, none, none], [], [], [], [], [none, none, none, none, none, none, some 82, none, some 83, some 84, some 85, some 86], [none, none, none, none, none, none, none, none], [], [], [], [], [none, none, none, none, none, none, some 88, none, some 89, some 90, some 91, some 92], [none, none, none, none, none, none, none, none], [], [], [], [], [none, none, none, none, none, none, some 94, none, some 95, some 96, some 97, some 98], [none, none, none, none, none, none, none, none], [], [], [], [], [none, none, some 100, some 101, some 102, some 103, some 104, some 105], [], [], [], [], [], [], [none, none, some 107, some 108, some 109, some 110, some 111, some 112], [], [], [], [], [], []]
def mdS : List (Nat ⊕ Nat × Nat) := [.inr (6, 8), .inl 2, .inr (1, 320), .inr (0, 16), .inl 5, .inr (0, 256), .inr (0, 256), .inr (0, 256), .inr (0, 4), .inr (1, 256), .inr (0, 256), .inr (0, 9216), .inl 7, .inr (1, 5), .inr (0, 5), .inr (0, 5), .inr (0, 5), .inr (0, 5), .inr (0, 5), .inl 8, .inl 9, .inr (4, 120), .inl 1, .inr (3, 16), .inr (0, 672)]
def mdR : List (List (Option Nat)) := [[some 140, some 253, some 366, some 479, some 592, some 705, some 818, some 931], [none, some 117, some 118], [], [], [none, some 120, some 121, some 122, some 123, none, some 124, some 125, some 126], [], [], [], [], [], [], [], [none, none, some 128, some 129, some 130, some 131, some 132, some 133, none], [], [], [], [], [], [], [none, some 135, some 136, none, none, none, none], [none, none, none, none, none, none, none, none], [], [some 138, none, none, none], [], []]
def shp (k : Nat) : Nat ⊕ Nat × Nat := if k = 0 then .inl 15 else if k = 1 then .inl 12 else if k < 115 then hbS.getD (k - 2) (.inl 99) else if k < 140 then mdS.getD (k - 115) (.inl 99) else hbS.getD ((k - 140) % 113) (.inl 99)
def rfs (k j : Nat) : Option Nat := if k = 0 then none else if k = 1 then ([some 2, some 115, none, none, some 116, some 119, some 127, some 134, some 137, some 139] : List (Option Nat)).getD j none else if k < 115 then ((hbR.getD (k - 2) []).getD j none).map (fun r => 2 + r) else if k < 140 then (mdR.getD (k - 115) []).getD j none else ((hbR.getD ((k - 140) % 113) []).getD j none).map (fun r => k - (k - 140) % 113 + r)
/-- the world: the objects are there, and refer to each other as the constructor left them -/
def Wd (M : xM) : Prop := 1044 ≤ M.1 ∧ M.1 ≤ 500000000 ∧ (∀ k, k < 1044 → mS M k = shp k) ∧ (∀ k j r, k < 1044 → rfs k j = some r → mR M k j = some r)
section WLD
variable {O : Nat → Option va_E} {M : xM} {k a : Nat}
theorem Wd.I (h : Wd M) (f : Nat → Int32) : Wd (msI M a f) := h
theorem Wd.L (h : Wd M) (f : Nat → Int64) : Wd (msL M a f) := h
theorem wd_I {f : Nat → Int32} : Wd (msI M a f) = Wd M := rfl
theorem wd_L {f : Nat → Int64} : Wd (msL M a f) = Wd M := rfl
theorem Wd.s (h : Wd M) {k : Nat} (hk : k < 1044) : mS M k = shp k := h.2.2.1 k hk
theorem Wd.b (h : Wd M) {k : Nat} (hk : k < 1044) : k < 1000000000 ∧ k < M.1 := ⟨by omega, Nat.lt_of_lt_of_le hk h.1⟩
theorem Wd.gI (h : Wd M) {ci j : Nat} (hk : k < 1044) (hs : shp k = .inl ci) (hj : j < xNf ci) (ht : xkI (xTy ci j) = true) : gI O M k ci j = some (mI M k j) := c_gI (h.b hk).1 (h.b hk).2 ((h.s hk).trans hs) hj ht
theorem Wd.gL (h : Wd M) {ci j : Nat} (hk : k < 1044) (hs : shp k = .inl ci) (hj : j < xNf ci) (ht : xTy ci j = .long) : gL O M k ci j = some (mL M k j) := c_gL (h.b hk).1 (h.b hk).2 ((h.s hk).trans hs) hj ht
theorem Wd.gR (h : Wd M) {ci j r : Nat} (hk : k < 1044) (hs : shp k = .inl ci) (hj : j < xNf ci) (ht : xkR (xTy ci j) = true) (hr : rfs k j = some r) : gR O M k ci j = some r := c_gR (h.b hk).1 (h.b hk).2 ((h.s hk).trans hs) hj ht (h.2.2.2 k j r hk hr)
theorem Wd.isO (h : Wd M) {ci : Nat} (hk : k < 1044) (hs : shp k = .inl ci) : isO O M k ci = some () := c_isO (h.b hk).1 (h.b hk).2 ((h.s hk).trans hs)
theorem Wd.pI (h : Wd M) {ci j : Nat} {x : Int32} (hk : k < 1044) (hs : shp k = .inl ci) (hj : j < xNf ci) (ht : xkI (xTy ci j) = true) (hf : xfit (xTy ci j) (.int x) = true) : pI M k ci j x = some (msI M k (mup (mI M k) j x)) := c_pI (h.b hk).1 (h.b hk).2 ((h.s hk).trans hs) hj ht hf
theorem Wd.pL (h : Wd M) {ci j : Nat} {x : Int64} (hk : k < 1044) (hs : shp k = .inl ci) (hj : j < xNf ci) (ht : xTy ci j = .long) : pL M k ci j x = some (msL M k (mup (mL M k) j x)) := c_pL (h.b hk).1 (h.b hk).2 ((h.s hk).trans hs) hj ht
theorem Wd.aN (h : Wd M) {t n : Nat} (hk : k < 1044) (hs : shp k = .inr (t, n)) (ht : t < 12) : aN O M k = some (Int32.ofNat n) := c_aN (h.b hk).1 (h.b hk).2 ((h.s hk).trans hs) ht
theorem Wd.aI (h : Wd M) {n : Nat} {i : Int} (hk : k < 1044) (hs : shp k = .inr (0, n)) (h0 : 0 ≤ i) (hi : i < n) (hr : yr i) : aI O M k (yw i) = some (mI M k i.toNat) := c_aI (h.b hk).1 (h.b hk).2 ((h.s hk).trans hs) h0 hi hr
theorem Wd.aL (h : Wd M) {n : Nat} {i : Int} (hk : k < 1044) (hs : shp k = .inr (1, n)) (h0 : 0 ≤ i) (hi : i < n) (hr : yr i) : aL O M k (yw i) = some (mL M k i.toNat) := c_aL (h.b hk).1 (h.b hk).2 ((h.s hk).trans hs) h0 hi hr
theorem Wd.aC (h : Wd M) {n : Nat} {i : Int} (hk : k < 1044) (hs : shp k = .inr (4, n)) (h0 : 0 ≤ i) (hi : i < n) (hr : yr i) : aC O M k (yw i) = some (mI M k i.toNat) := c_aC (h.b hk).1 (h.b hk).2 ((h.s hk).trans hs) h0 hi hr
theorem Wd.aR (h : Wd M) {t n r : Nat} {i : Int} (hk : k < 1044) (hs : shp k = .inr (t, n)) (ht : 5 ≤ t ∧ t < 12) (h0 : 0 ≤ i) (hi : i < n) (hr : yr i) (hf : rfs k i.toNat = some r) : aR O M k (yw i) = some r := (c_aR (h.b hk).1 (h.b hk).2 ((h.s hk).trans hs) ht h0 hi hr).trans (h.2.2.2 k _ r hk hf)
theorem Wd.wI (h : Wd M) {n : Nat} {i : Int} {x : Int32} (hk : k < 1044) (hs : shp k = .inr (0, n)) (h0 : 0 ≤ i) (hi : i < n) (hr : yr i) : wI M k (yw i) x = some (msI M k (mup (mI M k) i.toNat x)) := c_wI (h.b hk).1 (h.b hk).2 ((h.s hk).trans hs) h0 hi hr
theorem Wd.wC (h : Wd M) {n : Nat} {i : Int} {x : Int32} (hk : k < 1044) (hs : shp k = .inr (4, n)) (h0 : 0 ≤ i) (hi : i < n) (hr : yr i) : wC M k (yw i) x = some (msI M k (mup (mI M k) i.toNat (vp_nar .char x))) := c_wC (h.b hk).1 (h.b hk).2 ((h.s hk).trans hs) h0 hi hr
theorem Wd.wL (h : Wd M) {n : Nat} {i : Int} {x : Int64} (hk : k < 1044) (hs : shp k = .inr (1, n)) (h0 : 0 ≤ i) (hi : i < n) (hr : yr i) : wL M k (yw i) x = some (msL M k (mup (mL M k) i.toNat x)) := c_wL (h.b hk).1 (h.b hk).2 ((h.s hk).trans hs) h0 hi hr
theorem shp_Zone : k < 3 → shp (12 + 3 * k) = .inl 11 := by
  revert k
  decide
theorem a_Zone_is (h : Wd M) (hk : k < 3) : isO O M (12 + 3 * k) 11 = some () := h.isO (by omega) (shp_Zone hk)
theorem a_Zone_offset (h : Wd M) (hk : k < 3) : gI O M (12 + 3 * k) 11 0 = some (mI M (12 + 3 * k) 0) := h.gI (by omega) (shp_Zone hk) (by decide) (by decide)
theorem p_Zone_offset (h : Wd M) (hk : k < 3) {x : Int32} : pI M (12 + 3 * k) 11 0 x = some (msI M (12 + 3 * k) (mup (mI M (12 + 3 * k)) 0 x)) := h.pI (by omega) (shp_Zone hk) (by decide) (by decide) rfl
theorem a_Zone_shift (h : Wd M) (hk : k < 3) : gI O M (12 + 3 * k) 11 1 = some (mI M (12 + 3 * k) 1) := h.gI (by omega) (shp_Zone hk) (by decide) (by decide)
theorem p_Zone_shift (h : Wd M) (hk : k < 3) {x : Int32} : pI M (12 + 3 * k) 11 1 x = some (msI M (12 + 3 * k) (mup (mI M (12 + 3 * k)) 1 x)) := h.pI (by omega) (shp_Zone hk) (by decide) (by decide) rfl
theorem rfs_Zone_forth : k < 3 → rfs (12 + 3 * k) 2 = some (13 + 3 * k) := by
  revert k
  decide
theorem a_Zone_forth (h : Wd M) (hk : k < 3) : gR O M (12 + 3 * k) 11 2 = some (13 + 3 * k) := h.gR (by omega) (shp_Zone hk) (by decide) (by decide) (rfs_Zone_forth hk)
theorem shp_Zone_forth : k < 3 → shp (13 + 3 * k) = .inr (0, 4) := by
  revert k
  decide
theorem n_Zone_forth (h : Wd M) (hk : k < 3) : aN O M (13 + 3 * k) = some (yw 4) := h.aN (by omega) (shp_Zone_forth hk) (by decide)
theorem rfs_Zone_back : k < 3 → rfs (12 + 3 * k) 3 = some (14 + 3 * k) := by
  revert k
  decide
theorem a_Zone_back (h : Wd M) (hk : k < 3) : gR O M (12 + 3 * k) 11 3 = some (14 + 3 * k) := h.gR (by omega) (shp_Zone hk) (by decide) (by decide) (rfs_Zone_back hk)
theorem shp_Zone_back : k < 3 → shp (14 + 3 * k) = .inr (0, 4) := by
  revert k
  decide
theorem n_Zone_back (h : Wd M) (hk : k < 3) : aN O M (14 + 3 * k) = some (yw 4) := h.aN (by omega) (shp_Zone_back hk) (by decide)
theorem shp_Person : k < 8 → shp (21 + k) = .inl 6 := by
  revert k
  decide
theorem a_Person_is (h : Wd M) (hk : k < 8) : isO O M (21 + k) 6 = some () := h.isO (by omega) (shp_Person hk)
theorem a_Person_zone (h : Wd M) (hk : k < 8) : gI O M (21 + k) 6 0 = some (mI M (21 + k) 0) := h.gI (by omega) (shp_Person hk) (by decide) (by decide)
theorem p_Person_zone (h : Wd M) (hk : k < 8) {x : Int32} : pI M (21 + k) 6 0 x = some (msI M (21 + k) (mup (mI M (21 + k)) 0 x)) := h.pI (by omega) (shp_Person hk) (by decide) (by decide) rfl
theorem a_Person_days (h : Wd M) (hk : k < 8) : gI O M (21 + k) 6 1 = some (mI M (21 + k) 1) := h.gI (by omega) (shp_Person hk) (by decide) (by decide)
theorem p_Person_days (h : Wd M) (hk : k < 8) {x : Int32} : pI M (21 + k) 6 1 x = some (msI M (21 + k) (mup (mI M (21 + k)) 1 x)) := h.pI (by omega) (shp_Person hk) (by decide) (by decide) rfl
theorem a_Person_from (h : Wd M) (hk : k < 8) : gI O M (21 + k) 6 2 = some (mI M (21 + k) 2) := h.gI (by omega) (shp_Person hk) (by decide) (by decide)
theorem p_Person_from (h : Wd M) (hk : k < 8) {x : Int32} : pI M (21 + k) 6 2 x = some (msI M (21 + k) (mup (mI M (21 + k)) 2 x)) := h.pI (by omega) (shp_Person hk) (by decide) (by decide) rfl
theorem a_Person_to (h : Wd M) (hk : k < 8) : gI O M (21 + k) 6 3 = some (mI M (21 + k) 3) := h.gI (by omega) (shp_Person hk) (by decide) (by decide)
theorem p_Person_to (h : Wd M) (hk : k < 8) {x : Int32} : pI M (21 + k) 6 3 x = some (msI M (21 + k) (mup (mI M (21 + k)) 3 x)) := h.pI (by omega) (shp_Person hk) (by decide) (by decide) rfl
theorem shp_Series : k < 12 → shp (29 + 6 * k) = .inl 10 := by
  revert k
  decide
theorem a_Series_is (h : Wd M) (hk : k < 12) : isO O M (29 + 6 * k) 10 = some () := h.isO (by omega) (shp_Series hk)
theorem a_Series_isThere (h : Wd M) (hk : k < 12) : gI O M (29 + 6 * k) 10 0 = some (mI M (29 + 6 * k) 0) := h.gI (by omega) (shp_Series hk) (by decide) (by decide)
theorem p_Series_isThere (h : Wd M) (hk : k < 12) {x : Int32} (hx : x = 0 ∨ x = 1) : pI M (29 + 6 * k) 10 0 x = some (msI M (29 + 6 * k) (mup (mI M (29 + 6 * k)) 0 x)) := h.pI (by omega) (shp_Series hk) (by decide) (by decide) (by rcases hx with e | e <;> subst e <;> rfl)
theorem a_Series_zone (h : Wd M) (hk : k < 12) : gI O M (29 + 6 * k) 10 1 = some (mI M (29 + 6 * k) 1) := h.gI (by omega) (shp_Series hk) (by decide) (by decide)
theorem p_Series_zone (h : Wd M) (hk : k < 12) {x : Int32} : pI M (29 + 6 * k) 10 1 x = some (msI M (29 + 6 * k) (mup (mI M (29 + 6 * k)) 1 x)) := h.pI (by omega) (shp_Series hk) (by decide) (by decide) rfl
theorem a_Series_minute (h : Wd M) (hk : k < 12) : gI O M (29 + 6 * k) 10 2 = some (mI M (29 + 6 * k) 2) := h.gI (by omega) (shp_Series hk) (by decide) (by decide)
theorem p_Series_minute (h : Wd M) (hk : k < 12) {x : Int32} : pI M (29 + 6 * k) 10 2 x = some (msI M (29 + 6 * k) (mup (mI M (29 + 6 * k)) 2 x)) := h.pI (by omega) (shp_Series hk) (by decide) (by decide) rfl
theorem a_Series_length (h : Wd M) (hk : k < 12) : gI O M (29 + 6 * k) 10 3 = some (mI M (29 + 6 * k) 3) := h.gI (by omega) (shp_Series hk) (by decide) (by decide)
theorem p_Series_length (h : Wd M) (hk : k < 12) {x : Int32} : pI M (29 + 6 * k) 10 3 x = some (msI M (29 + 6 * k) (mup (mI M (29 + 6 * k)) 3 x)) := h.pI (by omega) (shp_Series hk) (by decide) (by decide) rfl
theorem a_Series_people (h : Wd M) (hk : k < 12) : gI O M (29 + 6 * k) 10 4 = some (mI M (29 + 6 * k) 4) := h.gI (by omega) (shp_Series hk) (by decide) (by decide)
theorem p_Series_people (h : Wd M) (hk : k < 12) {x : Int32} : pI M (29 + 6 * k) 10 4 x = some (msI M (29 + 6 * k) (mup (mI M (29 + 6 * k)) 4 x)) := h.pI (by omega) (shp_Series hk) (by decide) (by decide) rfl
theorem a_Series_needsRoom (h : Wd M) (hk : k < 12) : gI O M (29 + 6 * k) 10 5 = some (mI M (29 + 6 * k) 5) := h.gI (by omega) (shp_Series hk) (by decide) (by decide)
theorem p_Series_needsRoom (h : Wd M) (hk : k < 12) {x : Int32} (hx : x = 0 ∨ x = 1) : pI M (29 + 6 * k) 10 5 x = some (msI M (29 + 6 * k) (mup (mI M (29 + 6 * k)) 5 x)) := h.pI (by omega) (shp_Series hk) (by decide) (by decide) (by rcases hx with e | e <;> subst e <;> rfl)
theorem rfs_Series_rule : k < 12 → rfs (29 + 6 * k) 6 = some (30 + 6 * k) := by
  revert k
  decide
theorem a_Series_rule (h : Wd M) (hk : k < 12) : gR O M (29 + 6 * k) 10 6 = some (30 + 6 * k) := h.gR (by omega) (shp_Series hk) (by decide) (by decide) (rfs_Series_rule hk)
theorem a_Series_exceptions (h : Wd M) (hk : k < 12) : gI O M (29 + 6 * k) 10 7 = some (mI M (29 + 6 * k) 7) := h.gI (by omega) (shp_Series hk) (by decide) (by decide)
theorem p_Series_exceptions (h : Wd M) (hk : k < 12) {x : Int32} : pI M (29 + 6 * k) 10 7 x = some (msI M (29 + 6 * k) (mup (mI M (29 + 6 * k)) 7 x)) := h.pI (by omega) (shp_Series hk) (by decide) (by decide) rfl
theorem rfs_Series_exceptionDays : k < 12 → rfs (29 + 6 * k) 8 = some (31 + 6 * k) := by
  revert k
  decide
theorem a_Series_exceptionDays (h : Wd M) (hk : k < 12) : gR O M (29 + 6 * k) 10 8 = some (31 + 6 * k) := h.gR (by omega) (shp_Series hk) (by decide) (by decide) (rfs_Series_exceptionDays hk)
theorem shp_Series_exceptionDays : k < 12 → shp (31 + 6 * k) = .inr (0, 10) := by
  revert k
  decide
theorem n_Series_exceptionDays (h : Wd M) (hk : k < 12) : aN O M (31 + 6 * k) = some (yw 10) := h.aN (by omega) (shp_Series_exceptionDays hk) (by decide)
theorem rfs_Series_exceptionTos : k < 12 → rfs (29 + 6 * k) 9 = some (32 + 6 * k) := by
  revert k
  decide
theorem a_Series_exceptionTos (h : Wd M) (hk : k < 12) : gR O M (29 + 6 * k) 10 9 = some (32 + 6 * k) := h.gR (by omega) (shp_Series hk) (by decide) (by decide) (rfs_Series_exceptionTos hk)
theorem shp_Series_exceptionTos : k < 12 → shp (32 + 6 * k) = .inr (0, 10) := by
  revert k
  decide
theorem n_Series_exceptionTos (h : Wd M) (hk : k < 12) : aN O M (32 + 6 * k) = some (yw 10) := h.aN (by omega) (shp_Series_exceptionTos hk) (by decide)
theorem rfs_Series_answers : k < 12 → rfs (29 + 6 * k) 10 = some (33 + 6 * k) := by
  revert k
  decide
theorem a_Series_answers (h : Wd M) (hk : k < 12) : gR O M (29 + 6 * k) 10 10 = some (33 + 6 * k) := h.gR (by omega) (shp_Series hk) (by decide) (by decide) (rfs_Series_answers hk)
theorem shp_Series_answers : k < 12 → shp (33 + 6 * k) = .inr (0, 8) := by
  revert k
  decide
theorem n_Series_answers (h : Wd M) (hk : k < 12) : aN O M (33 + 6 * k) = some (yw 8) := h.aN (by omega) (shp_Series_answers hk) (by decide)
theorem rfs_Series_counters : k < 12 → rfs (29 + 6 * k) 11 = some (34 + 6 * k) := by
  revert k
  decide
theorem a_Series_counters (h : Wd M) (hk : k < 12) : gR O M (29 + 6 * k) 10 11 = some (34 + 6 * k) := h.gR (by omega) (shp_Series hk) (by decide) (by decide) (rfs_Series_counters hk)
theorem shp_Series_counters : k < 12 → shp (34 + 6 * k) = .inr (0, 8) := by
  revert k
  decide
theorem n_Series_counters (h : Wd M) (hk : k < 12) : aN O M (34 + 6 * k) = some (yw 8) := h.aN (by omega) (shp_Series_counters hk) (by decide)
theorem shp_Rule : k < 12 → shp (30 + 6 * k) = .inl 9 := by
  revert k
  decide
theorem a_Rule_is (h : Wd M) (hk : k < 12) : isO O M (30 + 6 * k) 9 = some () := h.isO (by omega) (shp_Rule hk)
theorem a_Rule_first (h : Wd M) (hk : k < 12) : gI O M (30 + 6 * k) 9 0 = some (mI M (30 + 6 * k) 0) := h.gI (by omega) (shp_Rule hk) (by decide) (by decide)
theorem p_Rule_first (h : Wd M) (hk : k < 12) {x : Int32} : pI M (30 + 6 * k) 9 0 x = some (msI M (30 + 6 * k) (mup (mI M (30 + 6 * k)) 0 x)) := h.pI (by omega) (shp_Rule hk) (by decide) (by decide) rfl
theorem a_Rule_kind (h : Wd M) (hk : k < 12) : gI O M (30 + 6 * k) 9 1 = some (mI M (30 + 6 * k) 1) := h.gI (by omega) (shp_Rule hk) (by decide) (by decide)
theorem p_Rule_kind (h : Wd M) (hk : k < 12) {x : Int32} : pI M (30 + 6 * k) 9 1 x = some (msI M (30 + 6 * k) (mup (mI M (30 + 6 * k)) 1 x)) := h.pI (by omega) (shp_Rule hk) (by decide) (by decide) rfl
theorem a_Rule_step (h : Wd M) (hk : k < 12) : gI O M (30 + 6 * k) 9 2 = some (mI M (30 + 6 * k) 2) := h.gI (by omega) (shp_Rule hk) (by decide) (by decide)
theorem p_Rule_step (h : Wd M) (hk : k < 12) {x : Int32} : pI M (30 + 6 * k) 9 2 x = some (msI M (30 + 6 * k) (mup (mI M (30 + 6 * k)) 2 x)) := h.pI (by omega) (shp_Rule hk) (by decide) (by decide) rfl
theorem a_Rule_days (h : Wd M) (hk : k < 12) : gI O M (30 + 6 * k) 9 3 = some (mI M (30 + 6 * k) 3) := h.gI (by omega) (shp_Rule hk) (by decide) (by decide)
theorem p_Rule_days (h : Wd M) (hk : k < 12) {x : Int32} : pI M (30 + 6 * k) 9 3 x = some (msI M (30 + 6 * k) (mup (mI M (30 + 6 * k)) 3 x)) := h.pI (by omega) (shp_Rule hk) (by decide) (by decide) rfl
theorem a_Rule_place (h : Wd M) (hk : k < 12) : gI O M (30 + 6 * k) 9 4 = some (mI M (30 + 6 * k) 4) := h.gI (by omega) (shp_Rule hk) (by decide) (by decide)
theorem p_Rule_place (h : Wd M) (hk : k < 12) {x : Int32} : pI M (30 + 6 * k) 9 4 x = some (msI M (30 + 6 * k) (mup (mI M (30 + 6 * k)) 4 x)) := h.pI (by omega) (shp_Rule hk) (by decide) (by decide) rfl
theorem a_Rule_how (h : Wd M) (hk : k < 12) : gI O M (30 + 6 * k) 9 5 = some (mI M (30 + 6 * k) 5) := h.gI (by omega) (shp_Rule hk) (by decide) (by decide)
theorem p_Rule_how (h : Wd M) (hk : k < 12) {x : Int32} : pI M (30 + 6 * k) 9 5 x = some (msI M (30 + 6 * k) (mup (mI M (30 + 6 * k)) 5 x)) := h.pI (by omega) (shp_Rule hk) (by decide) (by decide) rfl
theorem a_Rule_number (h : Wd M) (hk : k < 12) : gI O M (30 + 6 * k) 9 6 = some (mI M (30 + 6 * k) 6) := h.gI (by omega) (shp_Rule hk) (by decide) (by decide)
theorem p_Rule_number (h : Wd M) (hk : k < 12) {x : Int32} : pI M (30 + 6 * k) 9 6 x = some (msI M (30 + 6 * k) (mup (mI M (30 + 6 * k)) 6 x)) := h.pI (by omega) (shp_Rule hk) (by decide) (by decide) rfl
theorem a_Rule_last (h : Wd M) (hk : k < 12) : gI O M (30 + 6 * k) 9 7 = some (mI M (30 + 6 * k) 7) := h.gI (by omega) (shp_Rule hk) (by decide) (by decide)
theorem p_Rule_last (h : Wd M) (hk : k < 12) {x : Int32} : pI M (30 + 6 * k) 9 7 x = some (msI M (30 + 6 * k) (mup (mI M (30 + 6 * k)) 7 x)) := h.pI (by omega) (shp_Rule hk) (by decide) (by decide) rfl
theorem shp_Device : k < 2 → shp (101 + 7 * k) = .inl 3 := by
  revert k
  decide
theorem a_Device_is (h : Wd M) (hk : k < 2) : isO O M (101 + 7 * k) 3 = some () := h.isO (by omega) (shp_Device hk)
theorem a_Device_clock (h : Wd M) (hk : k < 2) : gI O M (101 + 7 * k) 3 0 = some (mI M (101 + 7 * k) 0) := h.gI (by omega) (shp_Device hk) (by decide) (by decide)
theorem p_Device_clock (h : Wd M) (hk : k < 2) {x : Int32} : pI M (101 + 7 * k) 3 0 x = some (msI M (101 + 7 * k) (mup (mI M (101 + 7 * k)) 0 x)) := h.pI (by omega) (shp_Device hk) (by decide) (by decide) rfl
theorem a_Device_count (h : Wd M) (hk : k < 2) : gI O M (101 + 7 * k) 3 1 = some (mI M (101 + 7 * k) 1) := h.gI (by omega) (shp_Device hk) (by decide) (by decide)
theorem p_Device_count (h : Wd M) (hk : k < 2) {x : Int32} : pI M (101 + 7 * k) 3 1 x = some (msI M (101 + 7 * k) (mup (mI M (101 + 7 * k)) 1 x)) := h.pI (by omega) (shp_Device hk) (by decide) (by decide) rfl
theorem rfs_Device_places : k < 2 → rfs (101 + 7 * k) 2 = some (102 + 7 * k) := by
  revert k
  decide
theorem a_Device_places (h : Wd M) (hk : k < 2) : gR O M (101 + 7 * k) 3 2 = some (102 + 7 * k) := h.gR (by omega) (shp_Device hk) (by decide) (by decide) (rfs_Device_places hk)
theorem shp_Device_places : k < 2 → shp (102 + 7 * k) = .inr (0, 40) := by
  revert k
  decide
theorem n_Device_places (h : Wd M) (hk : k < 2) : aN O M (102 + 7 * k) = some (yw 40) := h.aN (by omega) (shp_Device_places hk) (by decide)
theorem rfs_Device_values : k < 2 → rfs (101 + 7 * k) 3 = some (103 + 7 * k) := by
  revert k
  decide
theorem a_Device_values (h : Wd M) (hk : k < 2) : gR O M (101 + 7 * k) 3 3 = some (103 + 7 * k) := h.gR (by omega) (shp_Device hk) (by decide) (by decide) (rfs_Device_values hk)
theorem shp_Device_values : k < 2 → shp (103 + 7 * k) = .inr (0, 40) := by
  revert k
  decide
theorem n_Device_values (h : Wd M) (hk : k < 2) : aN O M (103 + 7 * k) = some (yw 40) := h.aN (by omega) (shp_Device_values hk) (by decide)
theorem rfs_Device_clocks : k < 2 → rfs (101 + 7 * k) 4 = some (104 + 7 * k) := by
  revert k
  decide
theorem a_Device_clocks (h : Wd M) (hk : k < 2) : gR O M (101 + 7 * k) 3 4 = some (104 + 7 * k) := h.gR (by omega) (shp_Device hk) (by decide) (by decide) (rfs_Device_clocks hk)
theorem shp_Device_clocks : k < 2 → shp (104 + 7 * k) = .inr (0, 40) := by
  revert k
  decide
theorem n_Device_clocks (h : Wd M) (hk : k < 2) : aN O M (104 + 7 * k) = some (yw 40) := h.aN (by omega) (shp_Device_clocks hk) (by decide)
theorem rfs_Device_shownValues : k < 2 → rfs (101 + 7 * k) 5 = some (105 + 7 * k) := by
  revert k
  decide
theorem a_Device_shownValues (h : Wd M) (hk : k < 2) : gR O M (101 + 7 * k) 3 5 = some (105 + 7 * k) := h.gR (by omega) (shp_Device hk) (by decide) (by decide) (rfs_Device_shownValues hk)
theorem shp_Device_shownValues : k < 2 → shp (105 + 7 * k) = .inr (0, 48) := by
  revert k
  decide
theorem n_Device_shownValues (h : Wd M) (hk : k < 2) : aN O M (105 + 7 * k) = some (yw 48) := h.aN (by omega) (shp_Device_shownValues hk) (by decide)
theorem rfs_Device_shownClocks : k < 2 → rfs (101 + 7 * k) 6 = some (106 + 7 * k) := by
  revert k
  decide
theorem a_Device_shownClocks (h : Wd M) (hk : k < 2) : gR O M (101 + 7 * k) 3 6 = some (106 + 7 * k) := h.gR (by omega) (shp_Device hk) (by decide) (by decide) (rfs_Device_shownClocks hk)
theorem shp_Device_shownClocks : k < 2 → shp (106 + 7 * k) = .inr (0, 48) := by
  revert k
  decide
theorem n_Device_shownClocks (h : Wd M) (hk : k < 2) : aN O M (106 + 7 * k) = some (yw 48) := h.aN (by omega) (shp_Device_shownClocks hk) (by decide)
theorem rfs_Device_shownMakers : k < 2 → rfs (101 + 7 * k) 7 = some (107 + 7 * k) := by
  revert k
  decide
theorem a_Device_shownMakers (h : Wd M) (hk : k < 2) : gR O M (101 + 7 * k) 3 7 = some (107 + 7 * k) := h.gR (by omega) (shp_Device hk) (by decide) (by decide) (rfs_Device_shownMakers hk)
theorem shp_Device_shownMakers : k < 2 → shp (107 + 7 * k) = .inr (0, 48) := by
  revert k
  decide
theorem n_Device_shownMakers (h : Wd M) (hk : k < 2) : aN O M (107 + 7 * k) = some (yw 48) := h.aN (by omega) (shp_Device_shownMakers hk) (by decide)
theorem a_Hall_is (h : Wd M) : isO O M (2) 4 = some () := h.isO (by decide) (by decide)
theorem a_Hall_zones (h : Wd M) : gR O M 2 4 0 = some 3 := h.gR (by decide) (by decide) (by decide) (by decide) (by decide)
theorem a_Hall_people (h : Wd M) : gR O M 2 4 1 = some 4 := h.gR (by decide) (by decide) (by decide) (by decide) (by decide)
theorem a_Hall_buildings (h : Wd M) : gR O M 2 4 2 = some 5 := h.gR (by decide) (by decide) (by decide) (by decide) (by decide)
theorem a_Hall_series (h : Wd M) : gR O M 2 4 3 = some 6 := h.gR (by decide) (by decide) (by decide) (by decide) (by decide)
theorem a_Hall_devices (h : Wd M) : gR O M 2 4 4 = some 7 := h.gR (by decide) (by decide) (by decide) (by decide) (by decide)
theorem a_Hall_clock (h : Wd M) : gI O M (2) 4 5 = some (mI M (2) 5) := h.gI (by decide) (by decide) (by decide) (by decide)
theorem p_Hall_clock (h : Wd M) {x : Int32} : pI M (2) 4 5 x = some (msI M (2) (mup (mI M (2)) 5 x)) := h.pI (by decide) (by decide) (by decide) (by decide) rfl
theorem a_Hall_reminderSeries (h : Wd M) : gR O M 2 4 6 = some 8 := h.gR (by decide) (by decide) (by decide) (by decide) (by decide)
theorem a_Hall_reminderAheads (h : Wd M) : gR O M 2 4 7 = some 9 := h.gR (by decide) (by decide) (by decide) (by decide) (by decide)
theorem a_Hall_rings (h : Wd M) : gR O M 2 4 8 = some 10 := h.gR (by decide) (by decide) (by decide) (by decide) (by decide)
theorem a_Hall_ringCount (h : Wd M) : gI O M (2) 4 9 = some (mI M (2) 9) := h.gI (by decide) (by decide) (by decide) (by decide)
theorem p_Hall_ringCount (h : Wd M) {x : Int32} : pI M (2) 4 9 x = some (msI M (2) (mup (mI M (2)) 9 x)) := h.pI (by decide) (by decide) (by decide) (by decide) rfl
theorem a_Hall_snoozes (h : Wd M) : gR O M 2 4 10 = some 11 := h.gR (by decide) (by decide) (by decide) (by decide) (by decide)
theorem a_Hall_snoozeCount (h : Wd M) : gI O M (2) 4 11 = some (mI M (2) 11) := h.gI (by decide) (by decide) (by decide) (by decide)
theorem p_Hall_snoozeCount (h : Wd M) {x : Int32} : pI M (2) 4 11 x = some (msI M (2) (mup (mI M (2)) 11 x)) := h.pI (by decide) (by decide) (by decide) (by decide) rfl
theorem a_Cal_is (h : Wd M) : isO O M (1) 12 = some () := h.isO (by decide) (by decide)
theorem a_Cal_hall (h : Wd M) : gR O M 1 12 0 = some 2 := h.gR (by decide) (by decide) (by decide) (by decide) (by decide)
theorem a_Cal_saved (h : Wd M) : gR O M 1 12 1 = some 115 := h.gR (by decide) (by decide) (by decide) (by decide) (by decide)
theorem a_Cal_savedNext (h : Wd M) : gI O M (1) 12 2 = some (mI M (1) 2) := h.gI (by decide) (by decide) (by decide) (by decide)
theorem p_Cal_savedNext (h : Wd M) {x : Int32} : pI M (1) 12 2 x = some (msI M (1) (mup (mI M (1)) 2 x)) := h.pI (by decide) (by decide) (by decide) (by decide) rfl
theorem a_Cal_savedCount (h : Wd M) : gI O M (1) 12 3 = some (mI M (1) 3) := h.gI (by decide) (by decide) (by decide) (by decide)
theorem p_Cal_savedCount (h : Wd M) {x : Int32} : pI M (1) 12 3 x = some (msI M (1) (mup (mI M (1)) 3 x)) := h.pI (by decide) (by decide) (by decide) (by decide) rfl
theorem a_Cal_dates (h : Wd M) : gR O M 1 12 4 = some 116 := h.gR (by decide) (by decide) (by decide) (by decide) (by decide)
theorem a_Cal_meetings (h : Wd M) : gR O M 1 12 5 = some 119 := h.gR (by decide) (by decide) (by decide) (by decide) (by decide)
theorem a_Cal_planner (h : Wd M) : gR O M 1 12 6 = some 127 := h.gR (by decide) (by decide) (by decide) (by decide) (by decide)
theorem a_Cal_reader (h : Wd M) : gR O M 1 12 7 = some 134 := h.gR (by decide) (by decide) (by decide) (by decide) (by decide)
theorem a_Cal_written (h : Wd M) : gR O M 1 12 8 = some 137 := h.gR (by decide) (by decide) (by decide) (by decide) (by decide)
theorem a_Cal_costs (h : Wd M) : gR O M 1 12 9 = some 139 := h.gR (by decide) (by decide) (by decide) (by decide) (by decide)
theorem a_Dates_is (h : Wd M) : isO O M (116) 2 = some () := h.isO (by decide) (by decide)
theorem a_Dates_count (h : Wd M) : gI O M (116) 2 0 = some (mI M (116) 0) := h.gI (by decide) (by decide) (by decide) (by decide)
theorem p_Dates_count (h : Wd M) {x : Int32} : pI M (116) 2 0 x = some (msI M (116) (mup (mI M (116)) 0 x)) := h.pI (by decide) (by decide) (by decide) (by decide) rfl
theorem a_Dates_rows (h : Wd M) : gR O M 116 2 1 = some 117 := h.gR (by decide) (by decide) (by decide) (by decide) (by decide)
theorem a_Dates_lengths (h : Wd M) : gR O M 116 2 2 = some 118 := h.gR (by decide) (by decide) (by decide) (by decide) (by decide)
theorem a_Meetings_is (h : Wd M) : isO O M (119) 5 = some () := h.isO (by decide) (by decide)
theorem a_Meetings_laid (h : Wd M) : gI O M (119) 5 0 = some (mI M (119) 0) := h.gI (by decide) (by decide) (by decide) (by decide)
theorem p_Meetings_laid (h : Wd M) {x : Int32} : pI M (119) 5 0 x = some (msI M (119) (mup (mI M (119)) 0 x)) := h.pI (by decide) (by decide) (by decide) (by decide) rfl
theorem a_Meetings_laidSeries (h : Wd M) : gR O M 119 5 1 = some 120 := h.gR (by decide) (by decide) (by decide) (by decide) (by decide)
theorem a_Meetings_laidDays (h : Wd M) : gR O M 119 5 2 = some 121 := h.gR (by decide) (by decide) (by decide) (by decide) (by decide)
theorem a_Meetings_laidRooms (h : Wd M) : gR O M 119 5 3 = some 122 := h.gR (by decide) (by decide) (by decide) (by decide) (by decide)
theorem a_Meetings_roomEnds (h : Wd M) : gR O M 119 5 4 = some 123 := h.gR (by decide) (by decide) (by decide) (by decide) (by decide)
theorem a_Meetings_clashCount (h : Wd M) : gI O M (119) 5 5 = some (mI M (119) 5) := h.gI (by decide) (by decide) (by decide) (by decide)
theorem p_Meetings_clashCount (h : Wd M) {x : Int32} : pI M (119) 5 5 x = some (msI M (119) (mup (mI M (119)) 5 x)) := h.pI (by decide) (by decide) (by decide) (by decide) rfl
theorem a_Meetings_rows (h : Wd M) : gR O M 119 5 6 = some 124 := h.gR (by decide) (by decide) (by decide) (by decide) (by decide)
theorem a_Meetings_rooms (h : Wd M) : gR O M 119 5 7 = some 125 := h.gR (by decide) (by decide) (by decide) (by decide) (by decide)
theorem a_Meetings_pairs (h : Wd M) : gR O M 119 5 8 = some 126 := h.gR (by decide) (by decide) (by decide) (by decide) (by decide)
theorem a_Planner_is (h : Wd M) : isO O M (127) 7 = some () := h.isO (by decide) (by decide)
theorem a_Planner_isKept (h : Wd M) : gI O M (127) 7 0 = some (mI M (127) 0) := h.gI (by decide) (by decide) (by decide) (by decide)
theorem p_Planner_isKept (h : Wd M) {x : Int32} (hx : x = 0 ∨ x = 1) : pI M (127) 7 0 x = some (msI M (127) (mup (mI M (127)) 0 x)) := h.pI (by decide) (by decide) (by decide) (by decide) (by rcases hx with e | e <;> subst e <;> rfl)
theorem a_Planner_count (h : Wd M) : gI O M (127) 7 1 = some (mI M (127) 1) := h.gI (by decide) (by decide) (by decide) (by decide)
theorem p_Planner_count (h : Wd M) {x : Int32} : pI M (127) 7 1 x = some (msI M (127) (mup (mI M (127)) 1 x)) := h.pI (by decide) (by decide) (by decide) (by decide) rfl
theorem a_Planner_rows (h : Wd M) : gR O M 127 7 2 = some 128 := h.gR (by decide) (by decide) (by decide) (by decide) (by decide)
theorem a_Planner_lengths (h : Wd M) : gR O M 127 7 3 = some 129 := h.gR (by decide) (by decide) (by decide) (by decide) (by decide)
theorem a_Planner_takers (h : Wd M) : gR O M 127 7 4 = some 130 := h.gR (by decide) (by decide) (by decide) (by decide) (by decide)
theorem a_Planner_begins (h : Wd M) : gR O M 127 7 5 = some 131 := h.gR (by decide) (by decide) (by decide) (by decide) (by decide)
theorem a_Planner_tried (h : Wd M) : gR O M 127 7 6 = some 132 := h.gR (by decide) (by decide) (by decide) (by decide) (by decide)
theorem a_Planner_choices (h : Wd M) : gR O M 127 7 7 = some 133 := h.gR (by decide) (by decide) (by decide) (by decide) (by decide)
theorem a_Planner_bestCost (h : Wd M) : gI O M (127) 7 8 = some (mI M (127) 8) := h.gI (by decide) (by decide) (by decide) (by decide)
theorem p_Planner_bestCost (h : Wd M) {x : Int32} : pI M (127) 7 8 x = some (msI M (127) (mup (mI M (127)) 8 x)) := h.pI (by decide) (by decide) (by decide) (by decide) rfl
theorem a_Reader_is (h : Wd M) : isO O M (134) 8 = some () := h.isO (by decide) (by decide)
theorem a_Reader_length (h : Wd M) : gI O M (134) 8 0 = some (mI M (134) 0) := h.gI (by decide) (by decide) (by decide) (by decide)
theorem p_Reader_length (h : Wd M) {x : Int32} : pI M (134) 8 0 x = some (msI M (134) (mup (mI M (134)) 0 x)) := h.pI (by decide) (by decide) (by decide) (by decide) rfl
theorem a_Reader_rule (h : Wd M) : gR O M 134 8 1 = some 135 := h.gR (by decide) (by decide) (by decide) (by decide) (by decide)
theorem a_Reader_text (h : Wd M) : gR O M 134 8 2 = some 136 := h.gR (by decide) (by decide) (by decide) (by decide) (by decide)
theorem a_Reader_start (h : Wd M) : gI O M (134) 8 3 = some (mI M (134) 3) := h.gI (by decide) (by decide) (by decide) (by decide)
theorem p_Reader_start (h : Wd M) {x : Int32} : pI M (134) 8 3 x = some (msI M (134) (mup (mI M (134)) 3 x)) := h.pI (by decide) (by decide) (by decide) (by decide) rfl
theorem a_Reader_end (h : Wd M) : gI O M (134) 8 4 = some (mI M (134) 4) := h.gI (by decide) (by decide) (by decide) (by decide)
theorem p_Reader_end (h : Wd M) {x : Int32} : pI M (134) 8 4 x = some (msI M (134) (mup (mI M (134)) 4 x)) := h.pI (by decide) (by decide) (by decide) (by decide) rfl
theorem a_Reader_token (h : Wd M) : gI O M (134) 8 5 = some (mI M (134) 5) := h.gI (by decide) (by decide) (by decide) (by decide)
theorem p_Reader_token (h : Wd M) {x : Int32} : pI M (134) 8 5 x = some (msI M (134) (mup (mI M (134)) 5 x)) := h.pI (by decide) (by decide) (by decide) (by decide) rfl
theorem a_Reader_number (h : Wd M) : gI O M (134) 8 6 = some (mI M (134) 6) := h.gI (by decide) (by decide) (by decide) (by decide)
theorem p_Reader_number (h : Wd M) {x : Int32} : pI M (134) 8 6 x = some (msI M (134) (mup (mI M (134)) 6 x)) := h.pI (by decide) (by decide) (by decide) (by decide) rfl
theorem a_RRule_is (h : Wd M) : isO O M (135) 9 = some () := h.isO (by decide) (by decide)
theorem a_RRule_first (h : Wd M) : gI O M (135) 9 0 = some (mI M (135) 0) := h.gI (by decide) (by decide) (by decide) (by decide)
theorem p_RRule_first (h : Wd M) {x : Int32} : pI M (135) 9 0 x = some (msI M (135) (mup (mI M (135)) 0 x)) := h.pI (by decide) (by decide) (by decide) (by decide) rfl
theorem a_RRule_kind (h : Wd M) : gI O M (135) 9 1 = some (mI M (135) 1) := h.gI (by decide) (by decide) (by decide) (by decide)
theorem p_RRule_kind (h : Wd M) {x : Int32} : pI M (135) 9 1 x = some (msI M (135) (mup (mI M (135)) 1 x)) := h.pI (by decide) (by decide) (by decide) (by decide) rfl
theorem a_RRule_step (h : Wd M) : gI O M (135) 9 2 = some (mI M (135) 2) := h.gI (by decide) (by decide) (by decide) (by decide)
theorem p_RRule_step (h : Wd M) {x : Int32} : pI M (135) 9 2 x = some (msI M (135) (mup (mI M (135)) 2 x)) := h.pI (by decide) (by decide) (by decide) (by decide) rfl
theorem a_RRule_days (h : Wd M) : gI O M (135) 9 3 = some (mI M (135) 3) := h.gI (by decide) (by decide) (by decide) (by decide)
theorem p_RRule_days (h : Wd M) {x : Int32} : pI M (135) 9 3 x = some (msI M (135) (mup (mI M (135)) 3 x)) := h.pI (by decide) (by decide) (by decide) (by decide) rfl
theorem a_RRule_place (h : Wd M) : gI O M (135) 9 4 = some (mI M (135) 4) := h.gI (by decide) (by decide) (by decide) (by decide)
theorem p_RRule_place (h : Wd M) {x : Int32} : pI M (135) 9 4 x = some (msI M (135) (mup (mI M (135)) 4 x)) := h.pI (by decide) (by decide) (by decide) (by decide) rfl
theorem a_RRule_how (h : Wd M) : gI O M (135) 9 5 = some (mI M (135) 5) := h.gI (by decide) (by decide) (by decide) (by decide)
theorem p_RRule_how (h : Wd M) {x : Int32} : pI M (135) 9 5 x = some (msI M (135) (mup (mI M (135)) 5 x)) := h.pI (by decide) (by decide) (by decide) (by decide) rfl
theorem a_RRule_number (h : Wd M) : gI O M (135) 9 6 = some (mI M (135) 6) := h.gI (by decide) (by decide) (by decide) (by decide)
theorem p_RRule_number (h : Wd M) {x : Int32} : pI M (135) 9 6 x = some (msI M (135) (mup (mI M (135)) 6 x)) := h.pI (by decide) (by decide) (by decide) (by decide) rfl
theorem a_RRule_last (h : Wd M) : gI O M (135) 9 7 = some (mI M (135) 7) := h.gI (by decide) (by decide) (by decide) (by decide)
theorem p_RRule_last (h : Wd M) {x : Int32} : pI M (135) 9 7 x = some (msI M (135) (mup (mI M (135)) 7 x)) := h.pI (by decide) (by decide) (by decide) (by decide) rfl
theorem a_SB_is (h : Wd M) : isO O M (137) 1 = some () := h.isO (by decide) (by decide)
theorem a_SB_value (h : Wd M) : gR O M 137 1 0 = some 138 := h.gR (by decide) (by decide) (by decide) (by decide) (by decide)
theorem a_SB_coder (h : Wd M) : gI O M (137) 1 1 = some (mI M (137) 1) := h.gI (by decide) (by decide) (by decide) (by decide)
theorem p_SB_coder (h : Wd M) {x : Int32} (hx : x = 0 ∨ x = 1) : pI M (137) 1 1 x = some (msI M (137) (mup (mI M (137)) 1 x)) := h.pI (by decide) (by decide) (by decide) (by decide) (by rcases hx with e | e <;> subst e <;> rfl)
theorem a_SB_maybeLatin1 (h : Wd M) : gI O M (137) 1 2 = some (mI M (137) 2) := h.gI (by decide) (by decide) (by decide) (by decide)
theorem p_SB_maybeLatin1 (h : Wd M) {x : Int32} (hx : x = 0 ∨ x = 1) : pI M (137) 1 2 x = some (msI M (137) (mup (mI M (137)) 2 x)) := h.pI (by decide) (by decide) (by decide) (by decide) (by rcases hx with e | e <;> subst e <;> rfl)
theorem a_SB_count (h : Wd M) : gI O M (137) 1 3 = some (mI M (137) 3) := h.gI (by decide) (by decide) (by decide) (by decide)
theorem p_SB_count (h : Wd M) {x : Int32} : pI M (137) 1 3 x = some (msI M (137) (mup (mI M (137)) 3 x)) := h.pI (by decide) (by decide) (by decide) (by decide) rfl
end WLD
