/-! draft 580.people -/
section
/-! ===== who takes part ===== -/
/-- bits of a set, up to a place -/
def Mk (v : Int) (k : Nat) (S : Nat → Prop) : Prop := 0 ≤ v ∧ v < 2 ^ k ∧ ∀ j : Nat, j < k → (bitz v j = 1 ↔ S j)
theorem two_pow_z (k : Nat) : (2 : Int) ^ k = ((2 ^ k : Nat) : Int) := by
  rw [Int.natCast_pow]
  rfl
theorem bitz_hi {v : Int} {k : Nat} (h0 : 0 ≤ v) (h1 : v < 2 ^ k) : bitz v k = 0 := by
  unfold bitz
  rw [Int.toNat_natCast, Int.ediv_eq_zero_of_lt h0 h1]
  rfl
theorem bitz_add {v : Int} {k j : Nat} (h0 : 0 ≤ v) (h1 : v < 2 ^ k) (hj : j < k + 1) : bitz (v + 2 ^ k) j = if j = k then 1 else bitz v j := by
  unfold bitz
  rw [Int.toNat_natCast]
  have hp : (0 : Int) < 2 ^ j := by
    rw [two_pow_z]
    have : 0 < 2 ^ j := Nat.two_pow_pos j
    omega
  by_cases z : j = k
  · subst z
    rw [if_pos rfl, show v + (2 : Int) ^ j = v + 2 ^ j * 1 by rw [Int.mul_one], Int.add_mul_ediv_left _ _ (by omega), Int.ediv_eq_zero_of_lt h0 h1]
    rfl
  · rw [if_neg z]
    obtain ⟨i, rfl⟩ : ∃ i, k = j + 1 + i := ⟨k - j - 1, by omega⟩
    have e : (2 : Int) ^ (j + 1 + i) = 2 ^ j * (2 * 2 ^ i) := by
      rw [Int.pow_add, Int.pow_succ, Int.mul_assoc]
    rw [e, Int.add_mul_ediv_left _ _ (by omega)]
    omega
theorem Mk.add {v : Int} {k : Nat} {S : Nat → Prop} (h : Mk v k S) (hs : S k) : Mk (v + 2 ^ k) (k + 1) S := by
  obtain ⟨h0, h1, h2⟩ := h
  have hp : (0 : Int) < 2 ^ k := by
    rw [two_pow_z]
    have : 0 < 2 ^ k := Nat.two_pow_pos k
    omega
  refine ⟨by omega, by rw [Int.pow_succ]; omega, fun j hj => ?_⟩
  rw [bitz_add h0 h1 hj]
  by_cases z : j = k
  · rw [if_pos z, z]
    exact ⟨fun _ => hs, fun _ => rfl⟩
  · rw [if_neg z]
    exact h2 j (by omega)
theorem Mk.skip {v : Int} {k : Nat} {S : Nat → Prop} (h : Mk v k S) (hs : ¬ S k) : Mk v (k + 1) S := by
  obtain ⟨h0, h1, h2⟩ := h
  have hp : (0 : Int) < 2 ^ k := by
    rw [two_pow_z]
    have : 0 < 2 ^ k := Nat.two_pow_pos k
    omega
  refine ⟨h0, by rw [Int.pow_succ]; omega, fun j hj => ?_⟩
  by_cases z : j = k
  · rw [z, bitz_hi h0 h1]
    exact ⟨fun q => by omega, fun q => absurd q hs⟩
  · exact h2 j (by omega)
theorem jor_put {v : Int} {k : Nat} (h0 : 0 ≤ v) (h1 : v < 2 ^ k) (hk : k < 30) : jor v (jshl 1 (jand (k : Int) 31)) = v + 2 ^ k := by
  have hp : (2 : Nat) ^ k ≤ 2 ^ 29 := Nat.pow_le_pow_right (by omega) (by omega)
  have hp1 : 0 < (2 : Nat) ^ k := Nat.two_pow_pos k
  rw [two_pow_z] at h1 ⊢
  rw [jshl_one (by omega) (by omega), Int.toNat_natCast, two_pow_z, jor_e h0 (by omega) (by omega) (by omega), Int.toNat_natCast]
  have q := Nat.two_pow_add_eq_or_of_lt (i := k) (b := v.toNat) (by omega) 1
  rw [Nat.mul_one] at q
  rw [Nat.or_comm, ← q]
  omega
/-- a taker less -/
theorem jdrop : ∀ v : Nat, v < 256 → ∀ p : Nat, p < 8 → jand (v : Int) (jxor (jshl 1 (jand (p : Int) 31)) (-1)) = ((if v / 2 ^ p % 2 = 1 then v - 2 ^ p else v : Nat) : Int) := by decide +kernel
theorem drop_bits : ∀ v : Nat, v < 256 → ∀ p : Nat, p < 8 → ∀ q : Nat, q < 8 → (if v / 2 ^ p % 2 = 1 then v - 2 ^ p else v) < 256 ∧ (if v / 2 ^ p % 2 = 1 then v - 2 ^ p else v) / 2 ^ q % 2 = if q = p then 0 else v / 2 ^ q % 2 := by decide +kernel
theorem jtest : ∀ v : Nat, v < 256 → ∀ p : Nat, p < 8 → (jand (v : Int) ((2 ^ p : Nat) : Int) = 0 ↔ v / 2 ^ p % 2 = 0) ∧ 0 ≤ jand (v : Int) ((2 ^ p : Nat) : Int) ∧ jand (v : Int) ((2 ^ p : Nat) : Int) ≤ 255 := by decide +kernel
section PEO
variable {O : Nat → Option va_E} {f k m : Nat} {M N : xM} {x fd : Int}
/-- a person takes part -/
def tp (M : xM) (k p : Nat) : Prop := bitz (iV M (29 + 6 * k) 4) p = 1 ∧ iV M (33 + 6 * k) p ≠ 2
theorem bitz_nat (v p : Nat) : bitz (v : Int) (p : Int) = ((v / 2 ^ p % 2 : Nat) : Int) := by
  unfold bitz
  rw [Int.toNat_natCast, Int.natCast_emod, Int.natCast_ediv, Int.natCast_pow]
  rfl
theorem tk_loop (h : Wd M) (hk : k < 12) : ∀ (r n p v : Nat), p + r = 8 → v < 256 → r < n → ∃ y : Nat, f_Series_takers_7 O f n (29 + 6 * k) (v : Int) (p : Int) M = some ((y : Int), M) ∧ y < 256 ∧ ∀ q, q < 8 → y / 2 ^ q % 2 = if p ≤ q ∧ iV M (33 + 6 * k) q = 2 then 0 else v / 2 ^ q % 2 := by
  intro r
  induction r with
  | zero =>
    intro n p v hp hv h2
    obtain ⟨n, rfl⟩ : ∃ n', n = n' + 1 := ⟨n - 1, by omega⟩
    obtain rfl : p = 8 := by omega
    refine ⟨v, ?_, hv, fun q hq => by rw [if_neg (by omega)]⟩
    show (gR O M (29 + 6 * k) 10 10).bind _ = _
    rw [a_Series_answers h hk, n_Series_answers h hk, le_T (by omega) (by omega) (by omega)]
  | succ r ih =>
    intro n p v hp hv h2
    obtain ⟨n, rfl⟩ : ∃ n', n = n' + 1 := ⟨n - 1, by omega⟩
    have rr := iV_r M (33 + 6 * k) p
    have pz : ((p : Int)).toNat = p := by omega
    show ∃ y : Nat, (gR O M (29 + 6 * k) 10 10).bind _ = some ((y : Int), M) ∧ _
    rw [a_Series_answers h hk, n_Series_answers h hk, le_F (by omega) (by omega) (by omega), a_Series_answers h hk, r_Series_answers h hk (by omega) (by omega), pz]
    by_cases g : iV M (33 + 6 * k) p = 2
    · rw [eq_T g, xlet_e, jdrop v hv p (by omega)]
      have db := fun q hq => drop_bits v hv p (by omega) q hq
      obtain ⟨y, ey, y1, y2⟩ := ih n (p + 1) _ (by omega) (db 0 (by omega)).1 (by omega)
      rw [show ((p + 1 : Nat) : Int) = (p : Int) + 1 by omega] at ey
      refine ⟨y, ey, y1, fun q hq => ?_⟩
      rw [y2 q hq, (db q hq).2]
      by_cases z : q = p
      · rw [if_neg (by omega), if_pos z, if_pos (show p ≤ q ∧ iV M (33 + 6 * k) q = 2 from ⟨by omega, by rw [z]; exact g⟩)]
      · rw [if_neg z]
        by_cases z2 : p + 1 ≤ q ∧ iV M (33 + 6 * k) q = 2
        · rw [if_pos z2, if_pos (show p ≤ q ∧ iV M (33 + 6 * k) q = 2 from ⟨by omega, z2.2⟩)]
        · rw [if_neg z2, if_neg (show ¬ (p ≤ q ∧ iV M (33 + 6 * k) q = 2) from fun w => z2 ⟨by omega, w.2⟩)]
    · rw [eq_F g (by omega) (by omega) (by omega) (by omega)]
      obtain ⟨y, ey, y1, y2⟩ := ih n (p + 1) v (by omega) hv (by omega)
      rw [show ((p + 1 : Nat) : Int) = (p : Int) + 1 by omega] at ey
      refine ⟨y, ey, y1, fun q hq => ?_⟩
      rw [y2 q hq]
      by_cases z : q = p
      · rw [if_neg (by omega), if_neg (show ¬ (p ≤ q ∧ iV M (33 + 6 * k) q = 2) from fun w => g (by rw [← z]; exact w.2))]
      · by_cases z2 : p + 1 ≤ q ∧ iV M (33 + 6 * k) q = 2
        · rw [if_pos z2, if_pos (show p ≤ q ∧ iV M (33 + 6 * k) q = 2 from ⟨by omega, z2.2⟩)]
        · rw [if_neg z2, if_neg (show ¬ (p ≤ q ∧ iV M (33 + 6 * k) q = 2) from fun w => z2 ⟨by omega, w.2⟩)]
/-- the takers of a series, as bits -/
theorem takers_ok (h : Wd M) (hk : k < 12) (p0 : 0 ≤ iV M (29 + 6 * k) 4) (p1 : iV M (29 + 6 * k) 4 ≤ 255) (hf : 20 ≤ f) : ∃ y : Nat, f_Series_takers O f (29 + 6 * k) M = some ((y : Int), M) ∧ y < 256 ∧ ∀ q : Nat, q < 8 → (y / 2 ^ q % 2 = 1 ↔ tp M k q) := by
  obtain ⟨y, ey, y1, y2⟩ := tk_loop (O := O) (f := f) h hk 8 f 0 (iV M (29 + 6 * k) 4).toNat (by omega) (by omega) (by omega)
  rw [show (((iV M (29 + 6 * k) 4).toNat : Nat) : Int) = iV M (29 + 6 * k) 4 by omega] at ey
  refine ⟨y, ?_, y1, fun q hq => ?_⟩
  · unfold f_Series_takers
    rw [a_Series_people h hk]
    exact ey
  · have hb := bitz_nat (iV M (29 + 6 * k) 4).toNat q
    rw [show (((iV M (29 + 6 * k) 4).toNat : Nat) : Int) = iV M (29 + 6 * k) 4 by omega] at hb
    rw [y2 q hq]
    unfold tp
    rw [hb]
    by_cases z : iV M (33 + 6 * k) q = 2
    · rw [if_pos ⟨by omega, z⟩]
      exact ⟨fun w => by omega, fun w => absurd z w.2⟩
    · rw [if_neg (fun w => z w.2)]
      exact ⟨fun w => ⟨by omega, z⟩, fun w => by omega⟩
theorem so_loop (h : SR M m fd) (hm : m ≤ 12) {p : Nat} (hp : p < 8) (hf : 20 ≤ f) : ∀ (r n j : Nat) (v : Int), j + r = 12 → Mk v j (fun k => k < m ∧ tp M k p) → r < n → ∃ y, f_Hall_seriesOf_4 O f n 2 ((2 ^ p : Nat) : Int) v (j : Int) M = some (y, M) ∧ Mk y 12 (fun k => k < m ∧ tp M k p) := by
  have hw := h.1.1
  intro r
  induction r with
  | zero =>
    intro n j v hj hv h2
    obtain ⟨n, rfl⟩ : ∃ n', n = n' + 1 := ⟨n - 1, by omega⟩
    obtain rfl : j = 12 := by omega
    refine ⟨v, ?_, hv⟩
    show (gR O M 2 4 3).bind _ = _
    rw [a_Hall_series hw, n_Hall_series hw, le_T (by omega) (by omega) (by omega)]
  | succ r ih =>
    intro n j v hj hv h2
    obtain ⟨n, rfl⟩ : ∃ n', n = n' + 1 := ⟨n - 1, by omega⟩
    have jz : ((j : Int)).toNat = j := by omega
    show ∃ y, (gR O M 2 4 3).bind _ = some (y, M) ∧ _
    rw [a_Hall_series hw, n_Hall_series hw, le_F (by omega) (by omega) (by omega), a_Hall_series hw, r_Hall_series hw (by omega) (by omega), jz, a_Series_isThere hw (by omega)]
    by_cases g : j < m
    · have s := h.2.2.1 j g
      obtain ⟨y, ey, y1, y2⟩ := takers_ok (O := O) (f := f) (k := j) hw (by omega) s.1.2.2.2.2.1.1 s.1.2.2.2.2.1.2 hf
      have jt := jtest y y1 p hp
      rw [s.1.1, eq_F (by omega) (by omega) (by omega) (by omega) (by omega), a_Hall_series hw, r_Hall_series hw (by omega) (by omega), jz, a_Series_is hw (by omega), ey, xcl_e]
      by_cases z : y / 2 ^ p % 2 = 0
      · rw [eq_T (jt.1.mpr z)]
        have q := ih n (j + 1) v (by omega) (hv.skip (fun w => by have := (y2 p hp).mpr w.2; omega)) (by omega)
        rw [show ((j + 1 : Nat) : Int) = (j : Int) + 1 by omega] at q
        exact q
      · rw [eq_F (fun w => z (jt.1.mp w)) (by omega) (by omega) (by omega) (by omega), xlet_e, jor_put hv.1 hv.2.1 (by omega)]
        have q := ih n (j + 1) (v + 2 ^ j) (by omega) (hv.add ⟨g, (y2 p hp).mp (by omega)⟩) (by omega)
        rw [show ((j + 1 : Nat) : Int) = (j : Int) + 1 by omega] at q
        exact q
    · rw [h.2.2.2 j (by omega) (by omega), eq_T rfl]
      have q := ih n (j + 1) v (by omega) (hv.skip (fun w => g w.1)) (by omega)
      rw [show ((j + 1 : Nat) : Int) = (j : Int) + 1 by omega] at q
      exact q
theorem seriesOf_ok (h : SR M m fd) (hm : m ≤ 12) {p : Nat} (hp : p < 8) (hf : 20 ≤ f) : ∃ y, f_Hall_seriesOf O f 2 ((2 ^ p : Nat) : Int) M = some (y, M) ∧ Mk y 12 (fun k => k < m ∧ tp M k p) := so_loop h hm hp hf 12 f 0 0 (by omega) ⟨by omega, by decide, fun j hj => absurd hj (Nat.not_lt_zero _)⟩ (by omega)
theorem sw_loop (h : SR M m fd) (hm : m ≤ 12) : ∀ (r n j : Nat) (v : Int), j + r = 12 → Mk v j (fun k => k < m ∧ iV M (29 + 6 * k) 5 = 1) → r < n → ∃ y, f_Hall_seriesWithRoom_4 O f n 2 v (j : Int) M = some (y, M) ∧ Mk y 12 (fun k => k < m ∧ iV M (29 + 6 * k) 5 = 1) := by
  have hw := h.1.1
  intro r
  induction r with
  | zero =>
    intro n j v hj hv h2
    obtain ⟨n, rfl⟩ : ∃ n', n = n' + 1 := ⟨n - 1, by omega⟩
    obtain rfl : j = 12 := by omega
    refine ⟨v, ?_, hv⟩
    show (gR O M 2 4 3).bind _ = _
    rw [a_Hall_series hw, n_Hall_series hw, le_T (by omega) (by omega) (by omega)]
  | succ r ih =>
    intro n j v hj hv h2
    obtain ⟨n, rfl⟩ : ∃ n', n = n' + 1 := ⟨n - 1, by omega⟩
    have jz : ((j : Int)).toNat = j := by omega
    show ∃ y, (gR O M 2 4 3).bind _ = some (y, M) ∧ _
    rw [a_Hall_series hw, n_Hall_series hw, le_F (by omega) (by omega) (by omega), a_Hall_series hw, r_Hall_series hw (by omega) (by omega), jz, a_Series_isThere hw (by omega)]
    by_cases g : j < m
    · have s := h.2.2.1 j g
      have s5 := s.1.2.2.2.2.2.1
      rw [s.1.1, eq_F (by omega) (by omega) (by omega) (by omega) (by omega), a_Hall_series hw, r_Hall_series hw (by omega) (by omega), jz, a_Series_needsRoom hw (by omega)]
      by_cases z : iV M (29 + 6 * j) 5 = 0
      · rw [eq_T z]
        have q := ih n (j + 1) v (by omega) (hv.skip (fun w => by have := w.2; omega)) (by omega)
        rw [show ((j + 1 : Nat) : Int) = (j : Int) + 1 by omega] at q
        exact q
      · rw [eq_F z (by omega) (by omega) (by omega) (by omega), xlet_e, jor_put hv.1 hv.2.1 (by omega)]
        have q := ih n (j + 1) (v + 2 ^ j) (by omega) (hv.add ⟨g, by omega⟩) (by omega)
        rw [show ((j + 1 : Nat) : Int) = (j : Int) + 1 by omega] at q
        exact q
    · rw [h.2.2.2 j (by omega) (by omega), eq_T rfl]
      have q := ih n (j + 1) v (by omega) (hv.skip (fun w => g w.1)) (by omega)
      rw [show ((j + 1 : Nat) : Int) = (j : Int) + 1 by omega] at q
      exact q
theorem withRoom_ok (h : SR M m fd) (hm : m ≤ 12) (hf : 20 ≤ f) : ∃ y, f_Hall_seriesWithRoom O f 2 M = some (y, M) ∧ Mk y 12 (fun k => k < m ∧ iV M (29 + 6 * k) 5 = 1) := sw_loop h hm 12 f 0 0 (by omega) ⟨by omega, by decide, fun j hj => absurd hj (Nat.not_lt_zero _)⟩ (by omega)
theorem takesPart_ok {kk pp : Int} {p : Nat} (h : SR M m fd) (hm : m ≤ 12) (hkk : kk = (k : Int)) (hk : k < m) (hpp : pp = (p : Int)) (hp : p < 8) : ∃ b, f_Law_takesPart O f 1 kk pp M = some (b, M) ∧ ((b = 1 ∧ tp M k p) ∨ (b = 0 ∧ ¬ tp M k p)) := by
  subst hkk
  subst hpp
  have hw := h.1.1
  have s := h.2.2.1 k hk
  obtain ⟨q0, q1⟩ := s.1.2.2.2.2.1
  have hb := bitz_lt (x := iV M (29 + 6 * k) 4) (k := (p : Int))
  have e4 := e_seriesAt (O := O) (f := f) (kk := (k : Int)) (w := 4) (j := 4) hw rfl (by omega) s.1.1 (Or.inr (Or.inr ⟨rfl, rfl⟩))
  unfold f_Law_takesPart tp
  rw [a_Cal_is hw, e4, xcl_e, bit_e q0 (by omega) (by omega) (by omega)]
  by_cases g : bitz (iV M (29 + 6 * k) 4) p = 1
  · have ans := s.2.2.2.2 p hp
    have pn : f_Calendarhall_personNumbered O f 1 (p : Int) M = some (21 + 1 * ((p : Int)).toNat, M) := e_personNumbered hw (by omega) (by omega)
    have ea : f_Calendarhall_answerOf O f 1 (k : Int) (p : Int) M = some (iV M (33 + 6 * k) p, M) := by
      have inv := e_isInvited (O := O) (f := f) (k := k) (x := (p : Int)) hw (by omega) q0 (by omega) (by omega)
      rw [if_pos g] at inv
      have ab := e_answerBy (O := O) (f := f) (k := k) (x := (p : Int)) hw (by omega) (by omega) (by omega)
      rw [show ((p : Int)).toNat = p by omega] at ab
      unfold f_Calendarhall_answerOf
      rw [a_Cal_is hw, xc_of (s_num hw (by omega) s.1.1), a_Cal_is hw, pn, xcl_e, a_Series_is hw (by omega), inv, xcl_e, eq_F (by omega) (by omega) (by omega) (by omega) (by omega), a_Series_is hw (by omega), ab, xcl_e]
    rw [eq_T g, a_Cal_is hw, ea, xcl_e]
    by_cases z : iV M (33 + 6 * k) p = 2
    · rw [eq_T z]
      exact ⟨0, rfl, Or.inr ⟨rfl, fun w => w.2 z⟩⟩
    · rw [eq_F z (by omega) (by omega) (by omega) (by omega)]
      exact ⟨1, rfl, Or.inl ⟨rfl, g, z⟩⟩
  · rw [eq_F g (by omega) (by omega) (by omega) (by omega)]
    exact ⟨0, rfl, Or.inr ⟨rfl, fun w => g w.1⟩⟩
end PEO
end
/-! draft 581.most -/
section
/-! ===== how many dates are on at once ===== -/
def En (M : xM) (x : Int) : Int := rM x + iV M 118 (rN x).toNat
def onB (e : Int → Int) (t x : Int) : Bool := decide (rM x ≤ t ∧ t < e x)
def mxN (a : Nat → Nat) : Nat → Nat
  | 0 => 0
  | n + 1 => max (mxN a n) (a n)
theorem mxN_ge {a : Nat → Nat} : ∀ {n i : Nat}, i < n → a i ≤ mxN a n := by
  intro n
  induction n with
  | zero => intro i hi; omega
  | succ n ih =>
    intro i hi
    show a i ≤ max (mxN a n) (a n)
    by_cases e : i = n
    · subst e
      omega
    · have := ih (i := i) (by omega)
      omega
theorem mxN_le {a : Nat → Nat} {c : Nat} : ∀ {n : Nat}, (∀ i, i < n → a i ≤ c) → mxN a n ≤ c := by
  intro n
  induction n with
  | zero => intro _; exact Nat.zero_le _
  | succ n ih =>
    intro h
    show max (mxN a n) (a n) ≤ c
    have := ih (fun i hi => h i (by omega))
    have := h n (by omega)
    omega
theorem mxN_of {a b : Nat → Nat} : ∀ n, (∀ i, i < n → a i = b i) → mxN a n = mxN b n
  | 0, _ => rfl
  | n + 1, h => by
    show max (mxN a n) (a n) = max (mxN b n) (b n)
    rw [mxN_of n (fun i hi => h i (by omega)), h n (by omega)]
theorem cnF_zero {p : Int → Bool} {L : List Int} : ∀ n, (∀ i, i < n → p (L.getD i 0) = false) → cnF p L n = 0
  | 0, _ => rfl
  | n + 1, h => by
    show cnF p L n + _ = 0
    rw [cnF_zero n (fun i hi => h i (by omega)), h n (by omega)]
    rfl
theorem cnF_le {p q : Int → Bool} {L : List Int} : ∀ n, (∀ i, i < n → p (L.getD i 0) = true → q (L.getD i 0) = true) → cnF p L n ≤ cnF q L n
  | 0, _ => Nat.le_refl _
  | n + 1, h => by
    show cnF p L n + _ ≤ cnF q L n + _
    have h1 := cnF_le n (fun i hi => h i (by omega))
    by_cases g : p (L.getD n 0) = true
    · rw [if_pos g, if_pos (h n (by omega) g)]
      omega
    · rw [if_neg g]
      omega
theorem cnF_mono {p : Int → Bool} {L : List Int} {a b : Nat} (h : a ≤ b) : cnF p L a ≤ cnF p L b := by
  obtain ⟨c, rfl⟩ : ∃ c, b = a + c := ⟨b - a, by omega⟩
  induction c with
  | zero => exact Nat.le_refl _
  | succ c ih =>
    have := ih (by omega)
    show _ ≤ cnF p L (a + c) + _
    omega
theorem cnF_n {p : Int → Bool} {L : List Int} : ∀ n, cnF p L n ≤ n
  | 0 => Nat.le_refl _
  | n + 1 => by
    have := cnF_n (p := p) (L := L) n
    show cnF p L n + _ ≤ n + 1
    by_cases g : p (L.getD n 0) = true
    · rw [if_pos g]
      omega
    · rw [if_neg g]
      omega
theorem cnF_last {p : Int → Bool} {L : List Int} : ∀ n, cnF p L n = 0 ∨ ∃ q, q < n ∧ p (L.getD q 0) = true ∧ cnF p L n = cnF p L (q + 1)
  | 0 => Or.inl rfl
  | n + 1 => by
    by_cases g : p (L.getD n 0) = true
    · exact Or.inr ⟨n, by omega, g, rfl⟩
    · have e : cnF p L (n + 1) = cnF p L n := by
        show cnF p L n + _ = _
        rw [if_neg g]
        rfl
      rcases cnF_last (p := p) (L := L) n with z | ⟨q, q1, q2, q3⟩
      · exact Or.inl (e.trans z)
      · exact Or.inr ⟨q, by omega, q2, e.trans q3⟩
theorem rM_mono {x y : Int} (h : x ≤ y) : rM x ≤ rM y := by
  unfold rM
  omega
theorem srt_rM {L : List Int} (h : srt L) {i j : Nat} (hij : i ≤ j) (hj : j < L.length) : rM (L.getD i 0) ≤ rM (L.getD j 0) := by
  by_cases e : i = j
  · rw [e]
    exact Int.le_refl _
  · have := srt_lt h (i := i) (j := j) (by omega) hj
    exact rM_mono (by omega)
theorem filter_two {p q : Int → Bool} : ∀ L : List Int, (L.filter p).filter q = L.filter (fun x => p x && q x)
  | [] => rfl
  | a :: l => by
    rw [List.filter_cons, List.filter_cons]
    by_cases g : p a = true
    · rw [if_pos g, List.filter_cons, filter_two l]
      by_cases g2 : q a = true
      · rw [if_pos g2, if_pos (by rw [g, g2]; rfl)]
      · rw [if_neg g2, if_neg (by rw [g]; exact g2)]
    · rw [if_neg g, filter_two l, if_neg (by intro w; apply g; cases hp : p a <;> simp_all)]
/-- the class's greatest number is the law's -/
theorem most_eq {p : Int → Bool} {e : Int → Int} {L : List Int} (h : srt L) (h2 : srt (L.filter p)) : mxN (fun k => cnF (onB e (rM ((L.filter p).getD k 0))) (L.filter p) (k + 1)) (L.filter p).length = mxN (fun k => cnF (fun x => p x && onB e (rM (L.getD k 0)) x) L L.length) L.length := by
  have eq : ∀ t, cnF (fun x => p x && onB e t x) L L.length = cnF (onB e t) (L.filter p) (L.filter p).length := by
    intro t
    rw [cnF_all, cnF_all, filter_two]
  refine Nat.le_antisymm (mxN_le fun k hk => ?_) (mxN_le fun k hk => ?_)
  · have hm : (L.filter p).getD k 0 ∈ L := (List.mem_filter.mp (getD_mem hk)).1
    obtain ⟨i, i1, i2⟩ := mem_getD hm
    have q := mxN_ge (a := fun k => cnF (fun x => p x && onB e (rM (L.getD k 0)) x) L L.length) i1
    have q2 : cnF (onB e (rM ((L.filter p).getD k 0))) (L.filter p) (k + 1) ≤ cnF (onB e (rM ((L.filter p).getD k 0))) (L.filter p) (L.filter p).length := cnF_mono (by omega)
    rw [i2, eq] at q
    omega
  · rw [eq]
    generalize rM (L.getD k 0) = t
    rcases cnF_last (p := onB e t) (L := L.filter p) (L.filter p).length with z | ⟨q, q1, q2, q3⟩
    · omega
    · rw [q3]
      have g := mxN_ge (a := fun k => cnF (onB e (rM ((L.filter p).getD k 0))) (L.filter p) (k + 1)) q1
      refine Nat.le_trans (cnF_le (q + 1) (fun i hi hp => ?_)) g
      have m1 := srt_rM h2 (i := i) (j := q) (by omega) q1
      have a1 := of_decide_eq_true q2
      have a2 := of_decide_eq_true hp
      exact decide_eq_true ⟨m1, by omega⟩
section MOS
variable {O : Nat → Option va_E} {f : Nat} {M : xM} {L : List Int} {x ix T v2 : Int}
theorem mo_24 {K : Nat → Int → Int → xM → Option (Int × xM)} {v1 : Int} (h : DL M L) (w : Wd M) (hl : ∀ x, x ∈ L → 0 ≤ rM x ∧ rM x ≤ 1000000000 ∧ 0 ≤ iV M 118 (rN x).toNat ∧ iV M 118 (rN x).toNat ≤ 600) (hT0 : 0 ≤ T) (hT : T ≤ 1000000000) : ∀ (r t : Nat) (c : Int), r ≤ L.length → r < t → f_Dates_mostAtOnce_24 O f K t 116 v1 v2 T c ((r : Int) - 1) M = f_Dates_mostAtOnce_62 O f K 116 v1 v2 (c + (cnF (fun x => decide (T < En M x)) L r : Nat)) M := by
  have hL := h.2.1
  intro r
  induction r with
  | zero =>
    intro t c hr ht
    obtain ⟨t, rfl⟩ : ∃ n', t = n' + 1 := ⟨t - 1, by omega⟩
    show (if yw (((0 : Nat) : Int) - 1) < yw 0 then _ else _) = _
    rw [lt_T (by omega) (by omega) (by omega)]
    congr 1
    show c = c + ((0 : Nat) : Int)
    omega
  | succ r ih =>
    intro t c hr ht
    obtain ⟨t, rfl⟩ : ∃ n', t = n' + 1 := ⟨t - 1, by omega⟩
    have rz : (((r + 1 : Nat) : Int) - 1).toNat = r := by omega
    have z := hl _ (getD_mem (L := L) (i := r) (by omega))
    show (if yw (((r + 1 : Nat) : Int) - 1) < yw 0 then _ else _) = _
    rw [lt_F (by omega) (by omega) (by omega), a_Dates_is w, h.begin w (by omega) (by omega), xcl_e, rz]
    by_cases g : rM (L.getD r 0) + 600 ≤ T
    · rw [le_T g (by omega) (by omega)]
      congr 1
      rw [cnF_zero (r + 1) (fun i hi => decide_eq_false (by
        have q := hl _ (getD_mem (L := L) (i := i) (by omega))
        have := srt_rM h.2.2.2.1 (i := i) (j := r) (by omega) (by omega)
        unfold En
        omega))]
      omega
    · rw [le_F (by omega) (by omega) (by omega), a_Dates_is w, h.endA w (by omega) (by omega), xcl_e, rz]
      have q := fun c => ih t c (by omega) (by omega)
      rw [show ((r + 1 : Nat) : Int) - 1 + -1 = (r : Int) - 1 by omega]
      have e : cnF (fun x => decide (T < En M x)) L (r + 1) = cnF (fun x => decide (T < En M x)) L r + (if decide (T < En M (L.getD r 0)) = true then 1 else 0) := rfl
      by_cases g2 : rM (L.getD r 0) + iV M 118 (rN (L.getD r 0)).toNat ≤ T
      · rw [le_T g2 (by omega) (by omega), q]
        rw [if_neg (by rw [decide_eq_true_eq]; unfold En; omega)] at e
        rw [e]
        rfl
      · rw [le_F (by omega) (by omega) (by omega), q]
        rw [if_pos (by rw [decide_eq_true_eq]; unfold En; omega)] at e
        rw [e]
        congr 1
        omega
theorem mo_4 (h : DL M L) (w : Wd M) (hl : ∀ x, x ∈ L → 0 ≤ rM x ∧ rM x ≤ 1000000000 ∧ 0 ≤ iV M 118 (rN x).toNat ∧ iV M 118 (rN x).toNat ≤ 600) (hf : 400 ≤ f) : ∀ (r t k : Nat), k + r = L.length → r < t → f_Dates_mostAtOnce_4 O f t 116 ((mxN (fun k => cnF (onB (En M) (rM (L.getD k 0))) L (k + 1)) k : Nat) : Int) (k : Int) M = some (((mxN (fun k => cnF (onB (En M) (rM (L.getD k 0))) L (k + 1)) L.length : Nat) : Int), M) := by
  have hL := h.2.1
  intro r
  induction r with
  | zero =>
    intro t k hk ht
    obtain ⟨t, rfl⟩ : ∃ n', t = n' + 1 := ⟨t - 1, by omega⟩
    obtain rfl : k = L.length := by omega
    show (gJ O M 116 2 0).bind _ = _
    rw [a_Dates_count w, h.1, le_T (by omega) (by omega) (by omega)]
  | succ r ih =>
    intro t k hk ht
    obtain ⟨t, rfl⟩ : ∃ n', t = n' + 1 := ⟨t - 1, by omega⟩
    have kz : ((k : Int)).toNat = k := by omega
    have z := hl _ (getD_mem (L := L) (i := k) (by omega))
    show (gJ O M 116 2 0).bind _ = _
    rw [a_Dates_count w, h.1, le_F (by omega) (by omega) (by omega), a_Dates_is w, h.begin w (by omega) (by omega), xcl_e, kz]
    have q := mo_24 (O := O) (f := f) (K := f_Dates_mostAtOnce_4 O f t) (v1 := ((mxN (fun k => cnF (onB (En M) (rM (L.getD k 0))) L (k + 1)) k : Nat) : Int)) (v2 := (k : Int)) h w hl z.1 z.2.1 (k + 1) f 0 (by omega) (by omega)
    rw [show ((k + 1 : Nat) : Int) - 1 = (k : Int) by omega] at q
    have b1 : mxN (fun k => cnF (onB (En M) (rM (L.getD k 0))) L (k + 1)) k ≤ 400 := mxN_le (fun i hi => Nat.le_trans (cnF_n _) (by omega))
    have b2 := cnF_n (p := fun x => decide (rM (L.getD k 0) < En M x)) (L := L) (k + 1)
    have e : cnF (fun x => decide (rM (L.getD k 0) < En M x)) L (k + 1) = cnF (onB (En M) (rM (L.getD k 0))) L (k + 1) := by
      refine Nat.le_antisymm (cnF_le _ (fun i hi hp => ?_)) (cnF_le _ (fun i hi hp => ?_))
      · exact decide_eq_true ⟨srt_rM h.2.2.2.1 (by omega) (by omega), of_decide_eq_true hp⟩
      · exact decide_eq_true (of_decide_eq_true hp).2
    rw [q]
    unfold f_Dates_mostAtOnce_62
    rw [e] at b2 ⊢
    rw [e_max (by omega) (by omega) (by omega) (by omega), xcl_e]
    have q2 := ih t (k + 1) (by omega) (by omega)
    rw [show ((k + 1 : Nat) : Int) = (k : Int) + 1 by omega] at q2
    rw [← q2]
    congr 1
    show _ = ((max (mxN (fun k => cnF (onB (En M) (rM (L.getD k 0))) L (k + 1)) k) (cnF (onB (En M) (rM (L.getD k 0))) L (k + 1)) : Nat) : Int)
    omega
theorem most_ok (h : DL M L) (w : Wd M) (hl : ∀ x, x ∈ L → 0 ≤ rM x ∧ rM x ≤ 1000000000 ∧ 0 ≤ iV M 118 (rN x).toNat ∧ iV M 118 (rN x).toNat ≤ 600) (hf : 400 ≤ f) : f_Dates_mostAtOnce O f 116 M = some (((mxN (fun k => cnF (onB (En M) (rM (L.getD k 0))) L (k + 1)) L.length : Nat) : Int), M) := by
  have hL := h.2.1
  exact mo_4 h w hl hf L.length f 0 (by omega) (by omega)
end MOS
end
/-! draft 582.lay -/
section
/-! ===== rooms laid ===== -/
def ctN (p : Nat → Bool) : Nat → Nat
  | 0 => 0
  | n + 1 => ctN p n + (if p n = true then 1 else 0)
theorem cnF_ctN {p : Int → Bool} {L : List Int} : ∀ n, cnF p L n = ctN (fun i => p (L.getD i 0)) n
  | 0 => rfl
  | n + 1 => by
    show cnF p L n + _ = ctN _ n + _
    rw [cnF_ctN n]
theorem ctN_of {p q : Nat → Bool} : ∀ n, (∀ i, i < n → p i = q i) → ctN p n = ctN q n
  | 0, _ => rfl
  | n + 1, h => by
    show ctN p n + _ = ctN q n + _
    rw [ctN_of n (fun i hi => h i (by omega)), h n (by omega)]
theorem ctN_le {p : Nat → Bool} : ∀ n, ctN p n ≤ n
  | 0 => Nat.le_refl _
  | n + 1 => by
    have := ctN_le (p := p) n
    show ctN p n + _ ≤ n + 1
    by_cases g : p n = true
    · rw [if_pos g]
      omega
    · rw [if_neg g]
      omega
theorem ctN_zero {p : Nat → Bool} : ∀ n, ctN p n = 0 ↔ ∀ i, i < n → p i = false
  | 0 => ⟨fun _ i hi => absurd hi (Nat.not_lt_zero _), fun _ => rfl⟩
  | n + 1 => by
    have h := ctN_zero (p := p) n
    show ctN p n + _ = 0 ↔ _
    by_cases g : p n = true
    · rw [if_pos g]
      exact ⟨fun q => by omega, fun q => by rw [q n (by omega)] at g; cases g⟩
    · rw [if_neg g]
      refine ⟨fun q i hi => ?_, fun q => ?_⟩
      · by_cases e : i = n
        · rw [e]
          exact Bool.eq_false_iff.mpr g
        · exact h.mp (by omega) i (by omega)
      · rw [h.mpr (fun i hi => q i (by omega))]
theorem ctN_ge {p : Nat → Bool} {n i : Nat} (hi : i < n) (hp : p i = true) : 1 ≤ ctN p n := by
  by_cases z : ctN p n = 0
  · have := (ctN_zero n).mp z i hi
    rw [hp] at this
    cases this
  · omega
theorem ctN_one {p : Nat → Bool} : ∀ n, (∀ i j, i < j → j < n → p i = true → p j = true → False) → ctN p n ≤ 1
  | 0, _ => Nat.zero_le _
  | n + 1, h => by
    have ih := ctN_one (p := p) n (fun i j h1 h2 => h i j h1 (by omega))
    show ctN p n + _ ≤ 1
    by_cases g : p n = true
    · have z : ctN p n = 0 := (ctN_zero n).mpr (fun i hi => Bool.eq_false_iff.mpr (fun w => h i n hi (by omega) w g))
      rw [z, if_pos g]
      omega
    · rw [if_neg g]
      omega
theorem ctN_five {p : Nat → Bool} {r : Nat → Int} : ∀ n, (∀ i, i < n → -1 ≤ r i ∧ r i ≤ 3) → ctN p n = ctN (fun i => p i && decide (r i = -1)) n + ctN (fun i => p i && decide (r i = 0)) n + ctN (fun i => p i && decide (r i = 1)) n + ctN (fun i => p i && decide (r i = 2)) n + ctN (fun i => p i && decide (r i = 3)) n
  | 0, _ => rfl
  | n + 1, h => by
    have ih := ctN_five (p := p) (r := r) n (fun i hi => h i (by omega))
    have b := h n (by omega)
    show ctN p n + _ = (ctN _ n + _) + (ctN _ n + _) + (ctN _ n + _) + (ctN _ n + _) + (ctN _ n + _)
    rw [ih]
    by_cases g : p n = true
    · have c : r n = -1 ∨ r n = 0 ∨ r n = 1 ∨ r n = 2 ∨ r n = 3 := by omega
      rcases c with c | c | c | c | c <;> (simp [c, g]; try omega)
    · have g' : p n = false := Bool.eq_false_iff.mpr g
      simp [g']
/-- rooms of the first dates -/
def LI (e : Int → Int) (N : xM) (L : List Int) (n : Nat) : Prop := (∀ i, i < n → iV N 120 i = rN (L.getD i 0) ∧ iV N 121 i = rD (L.getD i 0) ∧ -1 ≤ iV N 122 i ∧ iV N 122 i ≤ 3) ∧ (∀ i j, i < j → j < n → iV N 122 i = iV N 122 j → iV N 122 i ≠ -1 → e (L.getD i 0) ≤ rM (L.getD j 0)) ∧ ∀ j, j < n → iV N 122 j = -1 → ∀ q : Nat, q < 4 → ∃ i, i < j ∧ iV N 122 i = q ∧ rM (L.getD j 0) < e (L.getD i 0)
def LE (e : Int → Int) (N : xM) (L : List Int) (n : Nat) : Prop := ∀ q : Nat, q < 4 → (iV N 123 q = 0 ∨ ∃ i, i < n ∧ iV N 122 i = q ∧ iV N 123 q = e (L.getD i 0)) ∧ ∀ i, i < n → iV N 122 i = q → e (L.getD i 0) ≤ iV N 123 q
def PL (a : Nat) : Prop := a < 119 ∨ 123 < a
section LAY
variable {O : Nat → Option va_E} {f : Nat} {M : xM} {L : List Int}
theorem takeRoom_ok (w : Wd M) {b x : Int} (b0 : 0 ≤ b) (b1 : b ≤ 2000000000) (hf : 5 ≤ f) : (∃ q : Nat, q < 4 ∧ iV M 123 q ≤ b ∧ f_Meetings_takeRoom O f 119 b x M = some ((q : Int), iS M 123 q x)) ∨ ((∀ q : Nat, q < 4 → b < iV M 123 q) ∧ f_Meetings_takeRoom O f 119 b x M = some (-1, M)) := by
  have key : ∀ (r t k : Nat), k + r = 4 → r < t → (∃ q : Nat, q < 4 ∧ iV M 123 q ≤ b ∧ f_Meetings_takeRoom_2 O f t 119 b x (k : Int) M = some ((q : Int), iS M 123 q x)) ∨ ((∀ q : Nat, k ≤ q → q < 4 → b < iV M 123 q) ∧ f_Meetings_takeRoom_2 O f t 119 b x (k : Int) M = some (-1, M)) := by
    intro r
    induction r with
    | zero =>
      intro t k hk ht
      obtain ⟨t, rfl⟩ : ∃ n', t = n' + 1 := ⟨t - 1, by omega⟩
      obtain rfl : k = 4 := by omega
      refine Or.inr ⟨fun q h1 h2 => by omega, ?_⟩
      show (gR O M 119 5 4).bind _ = _
      rw [a_Meetings_roomEnds w, n_Meetings_roomEnds w, le_T (by omega) (by omega) (by omega)]
    | succ r ih =>
      intro t k hk ht
      obtain ⟨t, rfl⟩ : ∃ n', t = n' + 1 := ⟨t - 1, by omega⟩
      have kz : ((k : Int)).toNat = k := by omega
      have rr := iV_r M 123 k
      have st : f_Meetings_takeRoom_2 O f (t + 1) 119 b x (k : Int) M = if yw b < yw (iV M 123 k) then f_Meetings_takeRoom_2 O f t 119 b x ((k : Int) + 1) M else some ((k : Int), iS M 123 k x) := by
        show (gR O M 119 5 4).bind _ = _
        rw [a_Meetings_roomEnds w, n_Meetings_roomEnds w, le_F (by omega) (by omega) (by omega), a_Meetings_roomEnds w, r_Meetings_roomEnds w (by omega) (by omega), a_Meetings_roomEnds w, w_Meetings_roomEnds w (by omega) (by omega), kz]
      rw [st]
      by_cases g : b < iV M 123 k
      · rw [lt_T g (by omega) (by omega)]
        have q := ih t (k + 1) (by omega) (by omega)
        rw [show ((k + 1 : Nat) : Int) = (k : Int) + 1 by omega] at q
        rcases q with q | ⟨q1, q2⟩
        · exact Or.inl q
        · refine Or.inr ⟨fun p h1 h2 => ?_, q2⟩
          by_cases z : p = k
          · rw [z]
            exact g
          · exact q1 p (by omega) h2
      · rw [lt_F (by omega) (by omega) (by omega)]
        exact Or.inl ⟨k, by omega, by omega, rfl⟩
  rcases key 4 f 0 (by omega) (by omega) with q | ⟨q1, q2⟩
  · exact Or.inl q
  · exact Or.inr ⟨fun q h => q1 q (by omega) h, q2⟩
theorem LI.step {e : Int → Int} {N N' : xM} {n : Nat} {q : Int} (h : LI e N L n) (hE : LE e N L n) (o : ∀ i, i ≠ n → iV N' 120 i = iV N 120 i ∧ iV N' 121 i = iV N 121 i ∧ iV N' 122 i = iV N 122 i) (a0 : iV N' 120 n = rN (L.getD n 0)) (a1 : iV N' 121 n = rD (L.getD n 0)) (a2 : iV N' 122 n = q) (hb : 0 ≤ rM (L.getD n 0)) (he : 0 ≤ e (L.getD n 0)) (hq : (∃ p : Nat, p < 4 ∧ q = p ∧ iV N 123 p ≤ rM (L.getD n 0) ∧ iV N' 123 p = e (L.getD n 0) ∧ ∀ j, j ≠ p → iV N' 123 j = iV N 123 j) ∨ (q = -1 ∧ (∀ p : Nat, p < 4 → rM (L.getD n 0) < iV N 123 p) ∧ ∀ j, iV N' 123 j = iV N 123 j)) (hbe : ∀ i, i < n → rM (L.getD i 0) ≤ rM (L.getD n 0)) (hpos : rM (L.getD n 0) ≤ e (L.getD n 0)) : LI e N' L (n + 1) ∧ LE e N' L (n + 1) := by
  obtain ⟨h1, h2, h3⟩ := h
  refine ⟨⟨fun i hi => ?_, fun i j hij hj => ?_, fun j hj z p hp => ?_⟩, fun p hp => ?_⟩
  · by_cases z : i = n
    · subst z
      refine ⟨a0, a1, ?_⟩
      rw [a2]
      rcases hq with ⟨p, p1, p2, -⟩ | ⟨p2, -⟩ <;> omega
    · obtain ⟨o1, o2, o3⟩ := o i z
      rw [o1, o2, o3]
      exact h1 i (by omega)
  · by_cases z : j = n
    · subst z
      rw [(o i (by omega)).2.2, a2]
      intro e1 e2
      rcases hq with ⟨p, p1, p2, p3, -⟩ | ⟨p2, -⟩
      · have := (hE p p1).2 i hij (by omega)
        omega
      · exact absurd (e1.trans p2) e2
    · rw [(o i (by omega)).2.2, (o j z).2.2]
      exact h2 i j hij (by omega)
  · by_cases zn : j = n
    · subst zn
      rw [a2] at z
      rcases hq with ⟨p', p1, p2, -⟩ | ⟨-, p3, -⟩
      · omega
      · rcases (hE p hp).1 with y | ⟨i, i1, i2, i3⟩
        · have := p3 p hp
          omega
        · refine ⟨i, i1, ?_, ?_⟩
          · rw [(o i (by omega)).2.2]
            exact i2
          · have := p3 p hp
            omega
    · rw [(o j zn).2.2] at z
      obtain ⟨i, i1, i2, i3⟩ := h3 j (by omega) z p hp
      refine ⟨i, i1, ?_, i3⟩
      rw [(o i (by omega)).2.2]
      exact i2
  · have old : ∀ i, i < n → iV N' 122 i = iV N 122 i := fun i hi => (o i (by omega)).2.2
    by_cases zp : q = p
    · rcases hq with ⟨p', p1, p2, p3, p4, p5⟩ | ⟨p2, -⟩
      · obtain rfl : p' = p := by omega
        refine ⟨Or.inr ⟨n, by omega, by rw [a2]; exact zp, p4⟩, fun i hi hr => ?_⟩
        rw [p4]
        by_cases zi : i = n
        · rw [zi]
          exact Int.le_refl _
        · rw [old i (by omega)] at hr
          have := (hE p' hp).2 i (by omega) hr
          omega
      · omega
    · have ev : iV N' 123 p = iV N 123 p := by
        rcases hq with ⟨p', p1, p2, p3, p4, p5⟩ | ⟨-, -, p5⟩
        · exact p5 p (by omega)
        · exact p5 p
      rw [ev]
      refine ⟨?_, fun i hi hr => ?_⟩
      · rcases (hE p hp).1 with y | ⟨i, i1, i2, i3⟩
        · exact Or.inl y
        · exact Or.inr ⟨i, by omega, by rw [old i i1]; exact i2, i3⟩
      · by_cases zi : i = n
        · rw [zi, a2] at hr
          exact absurd hr zp
        · rw [old i (by omega)] at hr
          exact (hE p hp).2 i (by omega) hr
end LAY
end
/-! draft 583.layloop -/
section
/-! ===== rooms laid, the loop ===== -/
section LAZ
variable {O : Nat → Option va_E} {f : Nat} {M : xM} {L : List Int}
theorem lay_42 (h : DL M L) (w : Wd M) (hn : L.length ≤ 256) (hl : ∀ x, x ∈ L → 0 ≤ rM x ∧ rM x ≤ 1000000000 ∧ 0 ≤ iV M 118 (rN x).toNat ∧ iV M 118 (rN x).toNat ≤ 600) (hf : 5 ≤ f) : ∀ (r t k : Nat) (N : xM), k + r = L.length → r < t → Un PL M N → iV N 119 0 = L.length → LI (En M) N L k → LE (En M) N L k → ∃ M', f_Meetings_lay_42 O f t 119 116 ((ctN (fun i => decide (iV N 122 i = -1)) k : Nat) : Int) (k : Int) N = some (((ctN (fun i => decide (iV M' 122 i = -1)) L.length : Nat) : Int), M') ∧ Un PL M M' ∧ iV M' 119 0 = L.length ∧ LI (En M) M' L L.length := by
  intro r
  induction r with
  | zero =>
    intro t k N hk ht u c i1 i2
    obtain ⟨t, rfl⟩ : ∃ n', t = n' + 1 := ⟨t - 1, by omega⟩
    obtain rfl : k = L.length := by omega
    have wN := u.wd w
    refine ⟨N, ?_, u, c, i1⟩
    show (gJ O N 119 5 0).bind _ = _
    rw [a_Meetings_laid wN, c, le_T (by omega) (by omega) (by omega)]
  | succ r ih =>
    intro t k N hk ht u c i1 i2
    obtain ⟨t, rfl⟩ : ∃ n', t = n' + 1 := ⟨t - 1, by omega⟩
    have wN := u.wd w
    have kz : ((k : Int)).toNat = k := by omega
    have dN : DL N L := h.un u (by unfold PL; omega)
    have hm := getD_mem (L := L) (i := k) (by omega)
    have z := hl _ hm
    have hr := h.2.2.2.2 _ hm
    have rn : 0 ≤ rN (L.getD k 0) ∧ rN (L.getD k 0) < 16 := ⟨Int.emod_nonneg _ (by decide), Int.emod_lt_of_pos _ (by decide)⟩
    have rd : 0 ≤ rD (L.getD k 0) ∧ rD (L.getD k 0) < 262144 := ⟨Int.emod_nonneg _ (by decide), Int.emod_lt_of_pos _ (by decide)⟩
    have u1 : Un PL M (iS N 120 k (rN (L.getD k 0))) := u.iS (by unfold PL; omega)
    have u2 : Un PL M (iS (iS N 120 k (rN (L.getD k 0))) 121 k (rD (L.getD k 0))) := u1.iS (by unfold PL; omega)
    have w1 := u1.wd w
    have w2 := u2.wd w
    have d1 : DL _ L := h.un u1 (by unfold PL; omega)
    have d2 : DL _ L := h.un u2 (by unfold PL; omega)
    generalize e1 : iS N 120 k (rN (L.getD k 0)) = N1 at u1 w1 d1 u2 w2 d2
    generalize e2 : iS N1 121 k (rD (L.getD k 0)) = N2 at u2 w2 d2
    have enE : rM (L.getD k 0) + iV N2 118 (rN (L.getD k 0)).toNat = En M (L.getD k 0) := by
      rw [u2.i (show PL 118 by unfold PL; omega)]
      rfl
    have enb : rM (L.getD k 0) ≤ En M (L.getD k 0) ∧ En M (L.getD k 0) ≤ 1000000600 := by
      unfold En
      omega
    have st : f_Meetings_lay_42 O f (t + 1) 119 116 ((ctN (fun i => decide (iV N 122 i = -1)) k : Nat) : Int) (k : Int) N = xcl (f_Meetings_takeRoom O f 119 (rM (L.getD k 0)) (En M (L.getD k 0)) N2) fun x11 M9 => (wJ M9 122 (k : Int) x11).bind fun M10 => (gR O M10 119 5 3).bind fun x12 => (aJ O M10 x12 (k : Int)).bind fun x13 => if yw x13 = yw (-1) then f_Meetings_lay_42 O f t 119 116 (((ctN (fun i => decide (iV N 122 i = -1)) k : Nat) : Int) + 1) ((k : Int) + 1) M10 else f_Meetings_lay_42 O f t 119 116 ((ctN (fun i => decide (iV N 122 i = -1)) k : Nat) : Int) ((k : Int) + 1) M10 := by
      show (gJ O N 119 5 0).bind _ = _
      rw [a_Meetings_laid wN, c, le_F (by omega) (by omega) (by omega), le_F (by omega) (by omega) (by omega), a_Meetings_laidSeries wN, a_Dates_is wN, dN.at wN (by omega) (by omega), xcl_e, xc_of (e_numberOf (by rw [kz]; omega) (by rw [kz]; omega)), w_Meetings_laidSeries wN (by omega) (by omega), kz, e1, a_Meetings_laidDays w1, a_Dates_is w1, d1.at w1 (by omega) (by omega), xcl_e, kz, xc_of (e_dayIn hr.1 hr.2), w_Meetings_laidDays w1 (by omega) (by omega), kz, e2, a_Meetings_laidRooms w2, a_Dates_is w2, d2.begin w2 (by omega) (by omega), xcl_e, a_Dates_is w2, d2.endA w2 (by omega) (by omega), xcl_e, a_Meetings_is w2, kz, enE]
    have stp : ∀ (q : Int) (N3 : xM), -1 ≤ q → q ≤ 3 → Un PL M N3 → (∀ a j, a ≠ 123 → iV N3 a j = iV N2 a j) → ((∃ p : Nat, p < 4 ∧ q = p ∧ iV N 123 p ≤ rM (L.getD k 0) ∧ iV N3 123 p = En M (L.getD k 0) ∧ ∀ j, j ≠ p → iV N3 123 j = iV N 123 j) ∨ (q = -1 ∧ (∀ p : Nat, p < 4 → rM (L.getD k 0) < iV N 123 p) ∧ ∀ j, iV N3 123 j = iV N 123 j)) → ∃ M', ((wJ N3 122 (k : Int) q).bind fun M10 => (gR O M10 119 5 3).bind fun x12 => (aJ O M10 x12 (k : Int)).bind fun x13 => if yw x13 = yw (-1) then f_Meetings_lay_42 O f t 119 116 (((ctN (fun i => decide (iV N 122 i = -1)) k : Nat) : Int) + 1) ((k : Int) + 1) M10 else f_Meetings_lay_42 O f t 119 116 ((ctN (fun i => decide (iV N 122 i = -1)) k : Nat) : Int) ((k : Int) + 1) M10) = some (((ctN (fun i => decide (iV M' 122 i = -1)) L.length : Nat) : Int), M') ∧ Un PL M M' ∧ iV M' 119 0 = L.length ∧ LI (En M) M' L L.length := by
      intro q N3 q0 q1 u3 ho hq
      have w3 := u3.wd w
      have u4 : Un PL M (iS N3 122 k q) := u3.iS (by unfold PL; omega)
      have w4 := u4.wd w
      have v4 : iV (iS N3 122 k q) 122 k = q := iV_s (by omega) (by omega)
      have o123 : ∀ j, iV (iS N3 122 k q) 123 j = iV N3 123 j := fun j => iV_o (Or.inl (by omega))
      have o119 : iV (iS N3 122 k q) 119 0 = L.length := by
        rw [iV_o (Or.inl (by omega)), ho 119 0 (by omega), ← e2, iV_o (Or.inl (by omega)), ← e1, iV_o (Or.inl (by omega)), c]
      have o0 : ∀ i, i ≠ k → iV (iS N3 122 k q) 120 i = iV N 120 i ∧ iV (iS N3 122 k q) 121 i = iV N 121 i ∧ iV (iS N3 122 k q) 122 i = iV N 122 i := by
        intro i hi
        refine ⟨?_, ?_, ?_⟩
        · rw [iV_o (Or.inl (by omega)), ho 120 i (by omega), ← e2, iV_o (Or.inl (by omega)), ← e1, iV_o (Or.inr hi)]
        · rw [iV_o (Or.inl (by omega)), ho 121 i (by omega), ← e2, iV_o (Or.inr hi), ← e1, iV_o (Or.inl (by omega))]
        · rw [iV_o (Or.inr hi), ho 122 i (by omega), ← e2, iV_o (Or.inl (by omega)), ← e1, iV_o (Or.inl (by omega))]
      have a0 : iV (iS N3 122 k q) 120 k = rN (L.getD k 0) := by
        rw [iV_o (Or.inl (by omega)), ho 120 k (by omega), ← e2, iV_o (Or.inl (by omega)), ← e1, iV_s (by omega) (by omega)]
      have a1 : iV (iS N3 122 k q) 121 k = rD (L.getD k 0) := by
        rw [iV_o (Or.inl (by omega)), ho 121 k (by omega), ← e2, iV_s (by omega) (by omega)]
      have hs := i1.step i2 (N' := iS N3 122 k q) o0 a0 a1 v4 z.1 (by omega) (by
        rcases hq with ⟨p, p1, p2, p3, p4, p5⟩ | ⟨p1, p2, p3⟩
        · exact Or.inl ⟨p, p1, p2, p3, by rw [o123]; exact p4, fun j hj => by rw [o123]; exact p5 j hj⟩
        · exact Or.inr ⟨p1, p2, fun j => by rw [o123]; exact p3 j⟩) (fun i hi => srt_rM h.2.2.2.1 (by omega) (by omega)) enb.1
      have ce : ctN (fun i => decide (iV (iS N3 122 k q) 122 i = -1)) (k + 1) = ctN (fun i => decide (iV N 122 i = -1)) k + (if q = -1 then 1 else 0) := by
        show ctN _ k + (if decide (iV (iS N3 122 k q) 122 k = -1) = true then 1 else 0) = _
        rw [ctN_of k (q := fun i => decide (iV N 122 i = -1)) (fun i hi => by rw [(o0 i (by omega)).2.2]), v4]
        by_cases g : q = -1
        · rw [if_pos (decide_eq_true g), if_pos g]
        · rw [if_neg (by rw [decide_eq_true_eq]; exact g), if_neg g]
      obtain ⟨M', em, rest⟩ := ih t (k + 1) (iS N3 122 k q) (by omega) (by omega) u4 o119 hs.1 hs.2
      refine ⟨M', ?_, rest⟩
      rw [w_Meetings_laidRooms w3 (by omega) (by omega), kz, a_Meetings_laidRooms w4, r_Meetings_laidRooms w4 (by omega) (by omega), kz, v4, ← em, ce]
      by_cases g : q = -1
      · rw [eq_T g, if_pos g]
        rfl
      · rw [eq_F g (by omega) (by omega) (by omega) (by omega), if_neg g]
        rfl
    rw [st]
    have o2 : ∀ j, iV N2 123 j = iV N 123 j := fun j => by
      rw [← e2, iV_o (Or.inl (by omega)), ← e1, iV_o (Or.inl (by omega))]
    rcases takeRoom_ok (O := O) (f := f) (M := N2) (x := En M (L.getD k 0)) w2 z.1 (by omega) hf with ⟨q, q1, q2, q3⟩ | ⟨q1, q3⟩
    · rw [q3, xcl_e]
      refine stp q _ (by omega) (by omega) (u2.iS (by unfold PL; omega)) (fun a j ha => iV_o (Or.inl ha)) (Or.inl ⟨q, q1, rfl, by rw [← o2]; exact q2, iV_s (by omega) (by omega), fun j hj => ?_⟩)
      rw [iV_o (Or.inr hj), o2]
    · rw [q3, xcl_e]
      exact stp (-1) N2 (by omega) (by omega) u2 (fun a j ha => rfl) (Or.inr ⟨rfl, fun p hp => by rw [← o2]; exact q1 p hp, o2⟩)
theorem lay_ok (h : DL M L) (w : Wd M) (hn : L.length ≤ 256) (hl : ∀ x, x ∈ L → 0 ≤ rM x ∧ rM x ≤ 1000000000 ∧ 0 ≤ iV M 118 (rN x).toNat ∧ iV M 118 (rN x).toNat ≤ 600) (hf : 400 ≤ f) : ∃ M', f_Meetings_lay O f 119 116 M = some (((ctN (fun i => decide (iV M' 122 i = -1)) L.length : Nat) : Int), M') ∧ Un PL M M' ∧ iV M' 119 0 = L.length ∧ LI (En M) M' L L.length := by
  have key : ∀ (r t k : Nat) (N : xM), k + r = 4 → r < t → Un PL M N → (∀ q : Nat, q < k → iV N 123 q = 0) → ∃ M', f_Meetings_lay_2 O f t 119 116 (k : Int) N = some (((ctN (fun i => decide (iV M' 122 i = -1)) L.length : Nat) : Int), M') ∧ Un PL M M' ∧ iV M' 119 0 = L.length ∧ LI (En M) M' L L.length := by
    intro r
    induction r with
    | zero =>
      intro t k N hk ht u hz
      obtain ⟨t, rfl⟩ : ∃ n', t = n' + 1 := ⟨t - 1, by omega⟩
      obtain rfl : k = 4 := by omega
      have wN := u.wd w
      have dN : DL N L := h.un u (by unfold PL; omega)
      have u1 : Un PL M (iS N 119 0 (L.length : Int)) := u.iS (by unfold PL; omega)
      obtain ⟨M', em, rest⟩ := lay_42 (O := O) (f := f) h w hn hl (by omega) L.length f 0 (iS N 119 0 (L.length : Int)) (by omega) (by omega) u1 (iV_s (by omega) (by omega)) ⟨fun i hi => absurd hi (Nat.not_lt_zero _), fun i j _ hj => absurd hj (Nat.not_lt_zero _), fun j hj => absurd hj (Nat.not_lt_zero _)⟩ (fun q hq => ⟨Or.inl (by rw [iV_o (Or.inl (by omega))]; exact hz q hq), fun i hi => absurd hi (Nat.not_lt_zero _)⟩)
      refine ⟨M', ?_, rest⟩
      show (gR O N 119 5 4).bind _ = _
      rw [a_Meetings_roomEnds wN, n_Meetings_roomEnds wN, le_T (by omega) (by omega) (by omega), a_Dates_count wN, dN.1, e_min (by omega) (by omega) (by omega) (by omega), xcl_e, show min (L.length : Int) 256 = L.length by omega, p_Meetings_laid wN]
      exact em
    | succ r ih =>
      intro t k N hk ht u hz
      obtain ⟨t, rfl⟩ : ∃ n', t = n' + 1 := ⟨t - 1, by omega⟩
      have wN := u.wd w
      have kz : ((k : Int)).toNat = k := by omega
      obtain ⟨M', em, rest⟩ := ih t (k + 1) (iS N 123 k 0) (by omega) (by omega) (u.iS (by unfold PL; omega)) (fun q hq => by
        by_cases z : q = k
        · rw [z]
          exact iV_s (by omega) (by omega)
        · rw [iV_o (Or.inr z)]
          exact hz q (by omega))
      refine ⟨M', ?_, rest⟩
      show (gR O N 119 5 4).bind _ = _
      rw [a_Meetings_roomEnds wN, n_Meetings_roomEnds wN, le_F (by omega) (by omega) (by omega), a_Meetings_roomEnds wN, w_Meetings_roomEnds wN (by omega) (by omega), kz]
      exact em
  exact key 4 f 0 M (by omega) (by omega) Un.rf (fun q hq => absurd hq (Nat.not_lt_zero _))
end LAZ
end
/-! draft 584.place -/
section
/-! ===== places of rooms ===== -/
theorem none_most {e : Int → Int} {N : xM} {L : List Int} (h : LI e N L L.length) (hs : srt L) (hp : ∀ i, i < L.length → rM (L.getD i 0) < e (L.getD i 0)) : ctN (fun i => decide (iV N 122 i = -1)) L.length = 0 ↔ mxN (fun k => cnF (onB e (rM (L.getD k 0))) L (k + 1)) L.length ≤ 4 := by
  obtain ⟨h1, h2, h3⟩ := h
  have sp : ∀ k, k < L.length → _ := fun k hk => (cnF_ctN (p := onB e (rM (L.getD k 0))) (L := L) (k + 1)).trans (ctN_five (p := fun i => onB e (rM (L.getD k 0)) (L.getD i 0)) (r := fun i => iV N 122 i) (k + 1) (fun i hi => (h1 i (by omega)).2.2))
  constructor
  · intro z
    refine mxN_le (fun k hk => ?_)
    rw [sp k hk]
    have z0 : ctN (fun i => onB e (rM (L.getD k 0)) (L.getD i 0) && decide (iV N 122 i = -1)) (k + 1) = 0 := (ctN_zero _).mpr (fun i hi => by
      rw [(ctN_zero _).mp z i (by omega)]
      exact Bool.and_false _)
    have one : ∀ q : Int, q ≠ -1 → ctN (fun i => onB e (rM (L.getD k 0)) (L.getD i 0) && decide (iV N 122 i = q)) (k + 1) ≤ 1 := fun q hq => ctN_one _ (fun i j hij hj pi pj => by
      have a := of_decide_eq_true (Bool.and_eq_true_iff.mp pi).1
      have b := of_decide_eq_true (Bool.and_eq_true_iff.mp pj).1
      have a2 := of_decide_eq_true (Bool.and_eq_true_iff.mp pi).2
      have b2 := of_decide_eq_true (Bool.and_eq_true_iff.mp pj).2
      have := h2 i j hij (by omega) (a2.trans b2.symm) (by omega)
      omega)
    have q0 := one 0 (by omega)
    have q1 := one 1 (by omega)
    have q2 := one 2 (by omega)
    have q3 := one 3 (by omega)
    omega
  · intro z
    refine (ctN_zero _).mpr (fun k hk => decide_eq_false (fun hk1 => ?_))
    have g := mxN_ge (a := fun k => cnF (onB e (rM (L.getD k 0))) L (k + 1)) hk
    rw [sp k hk] at g
    have z0 : 1 ≤ ctN (fun i => onB e (rM (L.getD k 0)) (L.getD i 0) && decide (iV N 122 i = -1)) (k + 1) := ctN_ge (i := k) (by omega) (Bool.and_eq_true_iff.mpr ⟨decide_eq_true ⟨Int.le_refl _, hp k hk⟩, decide_eq_true hk1⟩)
    have one : ∀ q : Nat, q < 4 → 1 ≤ ctN (fun i => onB e (rM (L.getD k 0)) (L.getD i 0) && decide (iV N 122 i = (q : Int))) (k + 1) := fun q hq => by
      obtain ⟨i, i1, i2, i3⟩ := h3 k hk hk1 q hq
      exact ctN_ge (i := i) (by omega) (Bool.and_eq_true_iff.mpr ⟨decide_eq_true ⟨srt_rM hs (by omega) hk, i3⟩, decide_eq_true i2⟩)
    have q0 := one 0 (by omega)
    have q1 := one 1 (by omega)
    have q2 := one 2 (by omega)
    have q3 := one 3 (by omega)
    have c0 : ((0 : Nat) : Int) = 0 := rfl
    have c1 : ((1 : Nat) : Int) = 1 := rfl
    have c2 : ((2 : Nat) : Int) = 2 := rfl
    have c3 : ((3 : Nat) : Int) = 3 := rfl
    rw [c0] at q0
    rw [c1] at q1
    rw [c2] at q2
    rw [c3] at q3
    omega
/-- the place of a row among sorted rows -/
def rk (L : List Int) (x : Int) : Nat := cnF (fun y => decide (y < x)) L L.length
theorem rk_at {L : List Int} (h : srt L) {i : Nat} (hi : i < L.length) : rk L (L.getD i 0) = i := by
  have lo : ∀ n, n ≤ i → cnF (fun y => decide (y < L.getD i 0)) L n = n := by
    intro n
    induction n with
    | zero => intro _; rfl
    | succ n ih =>
      intro hn
      show cnF _ L n + (if decide (L.getD n 0 < L.getD i 0) = true then 1 else 0) = _
      rw [ih (by omega), if_pos (decide_eq_true (srt_lt h (by omega) hi))]
  have hi2 : ∀ c, i + c ≤ L.length → cnF (fun y => decide (y < L.getD i 0)) L (i + c) = i := by
    intro c
    induction c with
    | zero => intro _; exact lo i (Nat.le_refl _)
    | succ c ih =>
      intro hc
      show cnF _ L (i + c) + (if decide (L.getD (i + c) 0 < L.getD i 0) = true then 1 else 0) = _
      rw [ih (by omega), if_neg (by
        rw [decide_eq_true_eq]
        by_cases z : c = 0
        · subst z
          exact Int.lt_irrefl _
        · have := srt_lt h (i := i) (j := i + c) (by omega) (by omega)
          omega), Nat.add_zero]
  have := hi2 (L.length - i) (by omega)
  rw [show i + (L.length - i) = L.length by omega] at this
  exact this
section PLA
variable {O : Nat → Option va_E} {f : Nat} {M : xM} {L : List Int}
theorem placeOf_ok (w : Wd M) {n : Nat} {s d : Int} (c : iV M 119 0 = n) (hn : n ≤ 256) (s0 : -2147483648 ≤ s) (s1 : s ≤ 2147483647) (d0 : -2147483648 ≤ d) (d1 : d ≤ 2147483647) (hf : 400 ≤ f) : (∃ k : Nat, k < n ∧ iV M 120 k = s ∧ iV M 121 k = d ∧ f_Meetings_placeOf O f 119 s d M = some ((k : Int), M)) ∨ ((∀ k : Nat, k < n → iV M 120 k = s → iV M 121 k = d → False) ∧ f_Meetings_placeOf O f 119 s d M = some (-1, M)) := by
  have key : ∀ (r t k : Nat), k + r = n → r < t → (∃ p : Nat, p < n ∧ iV M 120 p = s ∧ iV M 121 p = d ∧ f_Meetings_placeOf_2 O f t 119 s d (k : Int) M = some ((p : Int), M)) ∨ ((∀ p : Nat, k ≤ p → p < n → iV M 120 p = s → iV M 121 p = d → False) ∧ f_Meetings_placeOf_2 O f t 119 s d (k : Int) M = some (-1, M)) := by
    intro r
    induction r with
    | zero =>
      intro t k hk ht
      obtain ⟨t, rfl⟩ : ∃ n', t = n' + 1 := ⟨t - 1, by omega⟩
      obtain rfl : k = n := by omega
      refine Or.inr ⟨fun p h1 h2 => by omega, ?_⟩
      show (gJ O M 119 5 0).bind _ = _
      rw [a_Meetings_laid w, c, le_T (by omega) (by omega) (by omega)]
    | succ r ih =>
      intro t k hk ht
      obtain ⟨t, rfl⟩ : ∃ n', t = n' + 1 := ⟨t - 1, by omega⟩
      have kz : ((k : Int)).toNat = k := by omega
      have r0 := iV_r M 120 k
      have r1 := iV_r M 121 k
      have st : f_Meetings_placeOf_2 O f (t + 1) 119 s d (k : Int) M = if iV M 120 k = s then (if iV M 121 k = d then some ((k : Int), M) else f_Meetings_placeOf_2 O f t 119 s d ((k : Int) + 1) M) else f_Meetings_placeOf_2 O f t 119 s d ((k : Int) + 1) M := by
        show (gJ O M 119 5 0).bind _ = _
        rw [a_Meetings_laid w, c, le_F (by omega) (by omega) (by omega), le_F (by omega) (by omega) (by omega), a_Meetings_laidSeries w, r_Meetings_laidSeries w (by omega) (by omega), kz]
        by_cases g : iV M 120 k = s
        · rw [eq_T g, if_pos g, a_Meetings_laidDays w, r_Meetings_laidDays w (by omega) (by omega), kz]
          by_cases g2 : iV M 121 k = d
          · rw [eq_T g2, if_pos g2]
          · rw [eq_F g2 (by omega) (by omega) (by omega) (by omega), if_neg g2]
        · rw [eq_F g (by omega) (by omega) (by omega) (by omega), if_neg g]
      have q := ih t (k + 1) (by omega) (by omega)
      rw [show ((k + 1 : Nat) : Int) = (k : Int) + 1 by omega] at q
      rw [st]
      by_cases g : iV M 120 k = s ∧ iV M 121 k = d
      · rw [if_pos g.1, if_pos g.2]
        exact Or.inl ⟨k, by omega, g.1, g.2, rfl⟩
      · have e : (if iV M 120 k = s then (if iV M 121 k = d then some ((k : Int), M) else f_Meetings_placeOf_2 O f t 119 s d ((k : Int) + 1) M) else f_Meetings_placeOf_2 O f t 119 s d ((k : Int) + 1) M) = f_Meetings_placeOf_2 O f t 119 s d ((k : Int) + 1) M := by
          by_cases g1 : iV M 120 k = s
          · rw [if_pos g1, if_neg (fun g2 => g ⟨g1, g2⟩)]
          · rw [if_neg g1]
        rw [e]
        rcases q with q | ⟨q1, q2⟩
        · exact Or.inl q
        · refine Or.inr ⟨fun p h1 h2 a b => ?_, q2⟩
          by_cases z : p = k
          · rw [z] at a b
            exact g ⟨a, b⟩
          · exact q1 p (by omega) h2 a b
  rcases key n f 0 (by omega) (by omega) with q | ⟨q1, q2⟩
  · exact Or.inl q
  · exact Or.inr ⟨fun k h => q1 k (by omega) h, q2⟩
theorem roomAt_ok (w : Wd M) {k : Nat} (hk : k < 256) : f_Meetings_roomAt O f 119 (k : Int) M = some (iV M 122 k, M) := by
  unfold f_Meetings_roomAt
  rw [lt_F (by omega) (by omega) (by omega), a_Meetings_laidRooms w, n_Meetings_laidRooms w, le_F (by omega) (by omega) (by omega), a_Meetings_laidRooms w, r_Meetings_laidRooms w (by omega) (by omega), show ((k : Int)).toNat = k by omega]
theorem roomAt_no : f_Meetings_roomAt O f 119 (-1) M = some (-1, M) := by
  unfold f_Meetings_roomAt
  rw [lt_T (by omega) (by omega) (by omega)]
end PLA
end
