/-! draft 612.plancalls -/
section
/-! ===== the calls for a plan ===== -/
theorem two_bits {x y : Nat} (hx : x < 256) : x &&& y ≠ 0 ↔ ∃ q, q < 8 ∧ x / 2 ^ q % 2 = 1 ∧ y / 2 ^ q % 2 = 1 := by
  constructor
  · intro h
    obtain ⟨q, hq⟩ := Nat.exists_testBit_of_ne_zero h
    rw [Nat.testBit_and, Bool.and_eq_true, Nat.testBit_eq_decide_div_mod_eq, Nat.testBit_eq_decide_div_mod_eq, decide_eq_true_eq, decide_eq_true_eq] at hq
    refine ⟨q, ?_, hq⟩
    by_cases z : q < 8
    · exact z
    · exfalso
      have h8 : (2 : Nat) ^ 8 ≤ 2 ^ q := Nat.pow_le_pow_right (by decide) (by omega)
      have h9 : (2 : Nat) ^ 8 = 256 := by decide
      have := hq.1
      rw [Nat.div_eq_of_lt (by omega)] at this
      omega
  · rintro ⟨q, -, h1, h2⟩ z
    have t : (x &&& y).testBit q = true := by
      rw [Nat.testBit_and, Bool.and_eq_true, Nat.testBit_eq_decide_div_mod_eq, Nat.testBit_eq_decide_div_mod_eq, decide_eq_true_eq, decide_eq_true_eq]
      exact ⟨h1, h2⟩
    rw [z, Nat.zero_testBit] at t
    exact absurd t (by decide)
/-- nobody but the first three takes part -/
def P3p (M : xM) (m : Nat) : Prop := ∀ k, k < m → iV M (29 + 6 * k) 4 ≤ 7
def PG (a : Nat) : Prop := a < 116 ∨ 133 < a
section PLC
variable {O : Nat → Option va_E} {f m : Nat} {M N : xM} {A : List Int} {lo hi fd : Int}
theorem tp_3 {k q : Nat} (h0 : 0 ≤ iV M (29 + 6 * k) 4) (h : iV M (29 + 6 * k) 4 ≤ 7) (t : tp M k q) : q < 3 := by
  obtain ⟨t1, -⟩ := t
  obtain ⟨v, hv⟩ := Int.eq_ofNat_of_zero_le h0
  rw [hv, bitz_nat] at t1
  by_cases z : q < 3
  · exact z
  · exfalso
    have h8 : (2 : Nat) ^ 3 ≤ 2 ^ q := Nat.pow_le_pow_right (by decide) (by omega)
    have h9 : (2 : Nat) ^ 3 = 8 := by decide
    rw [Nat.div_eq_of_lt (by omega)] at t1
    omega
theorem col_all (h : SR M m fd) (hm : m ≤ 12) (a : AL M m lo hi A) (l0 : 10000 ≤ lo) (l1 : lo < hi) (l2 : hi ≤ 150000000) (l3 : hi - lo ≤ 18000) (hf : 2000 ≤ f) : ∃ M', f_Hall_collect O f 2 116 4095 lo hi M = some ((), M') ∧ Un P3 M M' ∧ DL M' A ∧ (∀ j, j < m → iV M' 118 j = iV M (29 + 6 * j) 3) := by
  have all : ∀ j : Nat, j < 12 → bitz 4095 j = 1 := by decide
  obtain ⟨M', L, e, u, d, hL, hlen⟩ := collect_ok (O := O) (f := f) (mask := 4095) (h.hs) (by omega) (by omega) l0 l1 l2 l3 hf
  have eL : L = A := srt_uniq d.2.2.2.1 a.1 (fun x => by
    rw [hL x, a.2 x]
    constructor
    · rintro ⟨k, k1, k2, k3, dd, k4, k5⟩
      refine ⟨k, ?_, dd, k4, k5⟩
      by_cases z : k < m
      · exact z
      · have := h.2.2.2 k (by omega) k1
        omega
    · rintro ⟨k, k1, dd, k4, k5⟩
      exact ⟨k, by omega, (h.2.2.1 k k1).1.1, all k (by omega), dd, k4, k5⟩)
  rw [eL] at d
  exact ⟨M', e, u, d, fun j hj => hlen j (by omega) (h.2.2.1 j hj).1.1 (all j (by omega))⟩
/-- the plan made -/
def PK (M N : xM) (A : List Int) (lo hi v : Int) : Prop := iV N 127 0 = (if v = -1 then 0 else 1) ∧ iV N 127 1 = A.length ∧ (∀ i, i < A.length → lV N 128 i = A.getD i 0) ∧ (v ≠ -1 → VP (fun i => rM (A.getD i 0)) (lnA M A) (shr M A) lo hi A.length (iV N 131) ∧ smc (fun i => rM (A.getD i 0)) (iV N 131) A.length = v)
theorem plan_ok (h : SR M m fd) (hm : m ≤ 12) (a : AL M m lo hi A) (h4 : A.length ≤ 4) (p3 : P3p M m) (mv : MV O) (l0 : 14400 ≤ lo) (l1 : lo < hi) (l2 : hi ≤ 150000000) (l3 : hi - lo ≤ 10080) (hf : 10000 ≤ f) : ∃ v N, f_Calendarhall_plan O f 1 4095 lo hi M = some (v, N) ∧ Un PG M N ∧ lst (CPl (fun i => rM (A.getD i 0)) (lnA M A) (shr M A) lo hi A.length 0 (fun _ => 0)) v ∧ PK M N A lo hi v := by
  have hw := h.1.1
  obtain ⟨M1, e1, u1, d1, g1⟩ := col_all (O := O) (f := f) h hm a (by omega) l1 l2 (by omega) (by omega)
  have b1 : Bs M1 := h.1.un u1 (by unfold P3; omega) (fun j hj => by unfold P3; omega)
  have w1 := b1.1
  have r1 : SR M1 m fd := h.un hm u1 b1 (fun a p q => by unfold P3; omega)
  have iv : ∀ b j, b < 116 → iV M1 b j = iV M b j := fun b j hb => u1.i (by unfold P3; omega)
  have a1 : AL M1 m lo hi A := a.of h hm (fun b j p q => iv b j q)
  have tpe : ∀ k q, k < 12 → (tp M1 k q ↔ tp M k q) := fun k q hk => by
    unfold tp
    rw [iv _ _ (by omega), iv _ _ (by omega)]
  have lne : ∀ i, i < A.length → lnA M1 A i = lnA M A i := fun i hi => by
    have b := a.b h hm (getD_mem hi)
    unfold lnA
    rw [iv _ _ (by omega)]
  obtain ⟨M2, e2, u2, c2, o2, f2⟩ := fill_ok (O := O) (f := f) r1 hm a1 d1 (by omega) (fun x hx => by
    have b := a.b h hm hx
    rw [g1 _ b.2.1, iv _ _ (by omega)]) (by omega)
  have w2 := u2.wd w1
  have hs : SC (fun i => rM (A.getD i 0)) (lnA M A) (shr M A) A.length M2 := by
    refine ⟨w2, c2, by omega, fun i hi => ?_, fun i j hi hj => ?_⟩
    · have b := a.b h hm (getD_mem hi)
      have q := f2 i hi
      have dd := d1.2.2.2.2 _ (getD_mem hi)
      rw [q.1, q.2.1, lne i hi]
      have ll : lnA M A i = iV M (29 + 6 * (rN (A.getD i 0)).toNat) 3 := rfl
      exact ⟨dd.1, dd.2, rfl, rfl, (by show 1000 ≤ rM (A.getD i 0); omega), (by show rM (A.getD i 0) ≤ 900000000; omega), by omega, by omega⟩
    · have bi := a.b h hm (getD_mem hi)
      have bj := a.b h hm (getD_mem hj)
      obtain ⟨-, -, x, x1, x2, x3⟩ := f2 i hi
      obtain ⟨-, -, y, y1, y2, y3⟩ := f2 j hj
      rw [x1, y1, jand_e (by omega) (by omega) (by omega) (by omega), Int.toNat_natCast, Int.toNat_natCast]
      have tb := two_bits (x := x) (y := y) x2
      constructor
      · intro z
        obtain ⟨q, q1, q2, q3⟩ := tb.mp (fun z2 => z (by rw [z2]; rfl))
        have t1 := (tpe _ _ (by omega)).mp ((x3 q q1).mp q2)
        have t2 := (tpe _ _ (by omega)).mp ((y3 q q1).mp q3)
        exact ⟨q, tp_3 (h.2.2.1 _ bi.2.1).1.2.2.2.2.1.1 (p3 _ bi.2.1) t1, t1, t2⟩
      · rintro ⟨q, q1, q2, q3⟩
        have := tb.mpr ⟨q, by omega, (x3 q (by omega)).mpr ((tpe _ _ (by omega)).mpr q2), (y3 q (by omega)).mpr ((tpe _ _ (by omega)).mpr q3)⟩
        omega
  obtain ⟨v, N, e3, u3, o3, k3, l3', q3⟩ := search_ok (O := O) (f := f) (lo := lo) (hi := hi) hs h4 mv (by omega) (by omega) (by omega) (by omega) hf
  refine ⟨v, N, ?_, (u1.le (fun b q => by unfold PG at q; unfold P3; omega)).tr ((u2.le (fun b q => by unfold PG at q; unfold PP; omega)).tr (u3.le (fun b q => by unfold PG at q; unfold PS; omega))), l3', k3, ?_, fun i hi => ?_, q3⟩
  · unfold f_Calendarhall_plan
    rw [c_needRange (by omega) (by omega) (by omega) (by omega), xc_of (e_needPiece l0 (by omega) l1 (by omega) (by omega)), a_Cal_hall hw, a_Cal_dates hw, a_Hall_is hw, e1, xcl_e, a_Cal_dates w1, a_Dates_count w1, d1.1, le_T (by omega) (by omega) (by omega), a_Cal_planner w1, a_Cal_dates w1, a_Cal_hall w1, a_Planner_is w1, e2, xcl_e, a_Cal_planner w2, a_Planner_is w2, e3, xcl_e]
  · rw [o3 1 (by decide) (by decide)]
    exact c2
  · rw [u3.l (show PS 128 by unfold PS; omega)]
    exact (f2 i hi).1
end PLC
/-! ===== what is told of a plan ===== -/
section PLT
variable {O : Nat → Option va_E} {f n k : Nat} {M N : xM}
theorem planAt_ok {kk : Int} (w : Wd N) (h0 : iV N 127 0 = 1) (hn : iV N 127 1 = n) (n5 : n ≤ 5) (hkk : kk = (k : Int)) (hk : k < n) (hl : 0 ≤ lV N 128 k ∧ lV N 128 k < 9000000000000000) : f_Calendarhall_planAt O f 1 kk 0 N = some (rN (lV N 128 k), N) ∧ f_Calendarhall_planAt O f 1 kk 1 N = some (rD (lV N 128 k), N) ∧ f_Calendarhall_planAt O f 1 kk 2 N = some (iV N 131 k, N) := by
  subst hkk
  have kz : ((k : Int)).toNat = k := by omega
  have c := plCount_ok (O := O) (f := f) w hn n5
  have na : f_Planner_numberAt O f 127 (k : Int) N = some (rN (lV N 128 k), N) := by
    unfold f_Planner_numberAt
    rw [lt_F (by omega) (by omega) (by omega), a_Planner_rows w, n_Planner_rows w, le_F (by omega) (by omega) (by omega), a_Planner_rows w, r_Planner_rows w (by omega) (by omega), kz, xc_of (e_numberOf hl.1 hl.2)]
  have da : f_Planner_dayByPlace O f 127 (k : Int) N = some (rD (lV N 128 k), N) := by
    unfold f_Planner_dayByPlace
    rw [lt_F (by omega) (by omega) (by omega), a_Planner_rows w, n_Planner_rows w, le_F (by omega) (by omega) (by omega), a_Planner_rows w, r_Planner_rows w (by omega) (by omega), kz, xc_of (e_dayIn hl.1 hl.2)]
  have ba : f_Planner_beginAt O f 127 (k : Int) N = some (iV N 131 k, N) := by
    unfold f_Planner_beginAt
    rw [lt_F (by omega) (by omega) (by omega), a_Planner_begins w, n_Planner_begins w, le_F (by omega) (by omega) (by omega), a_Planner_begins w, r_Planner_begins w (by omega) (by omega), kz]
  refine ⟨?_, ?_, ?_⟩
  · unfold f_Calendarhall_planAt
    rw [le_T (by omega) (by omega) (by omega), c_needRange (by omega) (by omega) (by omega) (by omega), a_Cal_planner w, a_Planner_isKept w, h0, eq_F (by omega) (by omega) (by omega) (by omega) (by omega), a_Cal_planner w, a_Planner_is w, c, xcl_e, lt_T (by omega) (by omega) (by omega), eq_T rfl, a_Cal_planner w, a_Planner_is w, na, xcl_e]
  · unfold f_Calendarhall_planAt
    rw [le_T (by omega) (by omega) (by omega), c_needRange (by omega) (by omega) (by omega) (by omega), a_Cal_planner w, a_Planner_isKept w, h0, eq_F (by omega) (by omega) (by omega) (by omega) (by omega), a_Cal_planner w, a_Planner_is w, c, xcl_e, lt_T (by omega) (by omega) (by omega), eq_F (by omega) (by omega) (by omega) (by omega) (by omega), eq_T rfl, a_Cal_planner w, a_Planner_is w, da, xcl_e]
  · unfold f_Calendarhall_planAt
    rw [le_T (by omega) (by omega) (by omega), c_needRange (by omega) (by omega) (by omega) (by omega), a_Cal_planner w, a_Planner_isKept w, h0, eq_F (by omega) (by omega) (by omega) (by omega) (by omega), a_Cal_planner w, a_Planner_is w, c, xcl_e, lt_T (by omega) (by omega) (by omega), eq_F (by omega) (by omega) (by omega) (by omega) (by omega), eq_F (by omega) (by omega) (by omega) (by omega) (by omega), a_Cal_planner w, a_Planner_is w, ba, xcl_e]
end PLT
end
/-! draft 613.lawplandraw -/
section
/-! ===== the law of plans: what it draws ===== -/
def PS1 (M : xM) (k : Nat) (fd : Int) : Prop := iV M (30 + 6 * k) 0 = fd ∧ iV M (30 + 6 * k) 1 = 0 ∧ iV M (30 + 6 * k) 7 = 146000 ∧ iV M (29 + 6 * k) 7 = 0 ∧ iV M (29 + 6 * k) 1 = 0 ∧ 1 ≤ iV M (29 + 6 * k) 4 ∧ iV M (29 + 6 * k) 4 ≤ 7
def PLd (M : xM) (m : Nat) (fd : Int) : Prop := SR M m fd ∧ (∀ k, k < m → PS1 M k fd) ∧ iV M 12 0 = 0 ∧ iV M 12 1 = 0
section PLD
variable {O : Nat → Option va_E} {f k m : Nat} {M N : xM} {fd : Int}
theorem PS1.of (h : PS1 M k fd) (e : ∀ a j, 29 + 6 * k ≤ a → a < 31 + 6 * k → iV N a j = iV M a j) : PS1 N k fd := by
  unfold PS1 at h ⊢
  simp (disch := omega) only [e]
  exact h
theorem PLd.kp {P : Nat → Prop} (h : PLd M m fd) (hm : m ≤ 12) (u : Kp P M N) (b : Bs N) (p : ∀ a, 12 ≤ a → a < 101 → P a) : PLd N m fd := by
  have hM := h.1.1.1.1
  exact ⟨h.1.kp hm u b p, fun k hk => (h.2.1 k hk).of (fun a j h1 h2 => u.i (by omega) (p a (by omega) (by omega))), by rw [u.i (by omega) (p 12 (by omega) (by omega))]; exact h.2.2.1, by rw [u.i (by omega) (p 12 (by omega) (by omega))]; exact h.2.2.2⟩
theorem PLd.un {P : Nat → Prop} (h : PLd M m fd) (hm : m ≤ 12) (u : Un P M N) (b : Bs N) (p : ∀ a, 12 ≤ a → a < 101 → P a) : PLd N m fd := h.kp hm u.kp b p
theorem ntz_ok {x : Int} (h0 : 1 ≤ x) (h1 : x ≤ 7) : ∃ z : Int, f_Integer_numberOfTrailingZeros O f x M = some (z, M) ∧ 0 ≤ z ∧ z < 8 ∧ bitz x z = 1 := by
  have c : x = 1 ∨ x = 2 ∨ x = 3 ∨ x = 4 ∨ x = 5 ∨ x = 6 ∨ x = 7 := by omega
  rcases c with rfl | rfl | rfl | rfl | rfl | rfl | rfl
  · exact ⟨0, rfl, by decide, by decide, by decide⟩
  · exact ⟨1, rfl, by decide, by decide, by decide⟩
  · exact ⟨0, rfl, by decide, by decide, by decide⟩
  · exact ⟨2, rfl, by decide, by decide, by decide⟩
  · exact ⟨0, rfl, by decide, by decide, by decide⟩
  · exact ⟨1, rfl, by decide, by decide, by decide⟩
  · exact ⟨0, rfl, by decide, by decide, by decide⟩
theorem pl_22 (f0 : 100 ≤ fd) (f1 : fd ≤ 500) (hm : m ≤ 4) (hf : 2000 ≤ f) : ∀ (r n k : Nat) (M : xM), PLd M k fd → k + r = m → r < n → ∃ t N, f_Law_isPlanned_22 O f n 1 0 fd (m : Int) (k : Int) M = f_Law_isPlanned_22 O f (t + 1) 1 0 fd (m : Int) (m : Int) N ∧ PLd N m fd ∧ Un Ps M N := by
  intro r
  induction r with
  | zero =>
    intro n k M h hk hn
    obtain ⟨n, rfl⟩ : ∃ n', n = n' + 1 := ⟨n - 1, by omega⟩
    obtain rfl : k = m := by omega
    exact ⟨n, M, rfl, h, Un.rf⟩
  | succ r ih =>
    intro n k M h hk hn
    obtain ⟨n, rfl⟩ : ∃ n', n = n' + 1 := ⟨n - 1, by omega⟩
    have k12 : k < 12 := by omega
    have dr : ∀ {A B : xM} {j : Nat}, j ≤ 12 → PLd A j fd → Un (fun a => a ≠ 0) A B → PLd B j fd := fun hj hA u => hA.un hj u (hA.1.1.un u (by (try dsimp only); omega) (fun j hj => by (try dsimp only); omega)) (fun a h1 h2 => by (try dsimp only); omega)
    have ps : ∀ {A B : xM}, Un (fun a => a ≠ 0) A B → Un Ps A B := fun u => u.le (fun a q => by unfold Ps at q; (try dsimp only); omega)
    have toPs : ∀ {A B : xM}, Un (Us k) A B → Un Ps A B := fun u => u.le (fun a q => by unfold Ps at q; unfold Us; omega)
    have done : ∀ N : xM, PLd N (k + 1) fd → Un Ps M N → ∃ t N', f_Law_isPlanned_22 O f n 1 0 fd (m : Int) ((k : Int) + 1) N = f_Law_isPlanned_22 O f (t + 1) 1 0 fd (m : Int) (m : Int) N' ∧ PLd N' m fd ∧ Un Ps M N' := by
      intro N hN u
      obtain ⟨t, N', e', z, u'⟩ := ih n (k + 1) N hN (by omega) (by omega)
      rw [show ((k + 1 : Nat) : Int) = (k : Int) + 1 by omega] at e'
      exact ⟨t, N', e', z, u.tr u'⟩
    obtain ⟨x1, M1, e1, x10, x11, w1, u1, -⟩ := dn_ok (O := O) (f := f) (m := 6) h.1.1.1 (by omega) (by omega)
    have R1 := dr (by omega) h u1
    obtain ⟨x2, M2, e2, x20, x21, w2, u2, -⟩ := dn_ok (O := O) (f := f) (m := 4) w1 (by omega) (by omega)
    have R2 := dr (by omega) R1 u2
    obtain ⟨x3, M3, e3, x30, x31, w3, u3, -⟩ := dn_ok (O := O) (f := f) (m := 7) w2 (by omega) (by omega)
    have R3 := dr (by omega) R2 u3
    have u13 : Un Ps M M3 := ((ps u1).tr (ps u2)).tr (ps u3)
    obtain ⟨M4, e4, b4, u4, ⟨c0, c1, c2, c3, c4, c5, c7⟩, ⟨r0, r1, r2, r3, r4, r5, r6, r7⟩, an⟩ := add_series (O := O) (f := f) (k := k) (z := 0) (d := fd) (mi := 540 + 30 * x1) (le := 30 + 30 * x2) (pe := 1 + x3) (ne := 0) R3.1.1 k12 (fun j hj => (R3.1.2.2.1 j hj).1.1) (R3.1.2.2.2 k (Nat.le_refl _) k12) (by omega) (by omega) (by omega) (by omega) (by omega) (by omega) (by omega) (by omega) (by omega) (by omega) (Or.inl rfl) hf
    have s4 : S1 M4 k fd := by
      refine ⟨⟨c0, by omega, by omega, by omega, by omega, by omega, by omega, fun i hi => by omega, fun i j _ hj => by omega⟩, ?_, by omega, fun i hi => by omega, fun p hp => by have := an p hp; omega⟩
      unfold RV01
      omega
    have R4 : PLd M4 (k + 1) fd := by
      refine ⟨R3.1.us k12 u4 b4 s4, fun j hj => ?_, by rw [u4.i (by unfold Us; omega)]; exact R3.2.2.1, by rw [u4.i (by unfold Us; omega)]; exact R3.2.2.2⟩
      by_cases z : j = k
      · rw [z]
        unfold PS1
        omega
      · exact (R3.2.1 j (by omega)).of (fun a j h1 h2 => u4.i (by unfold Us; omega))
    have u14 : Un Ps M M4 := u13.tr (toPs u4)
    have w4 := b4.1
    obtain ⟨x5, M5, e5, hx5, w5, u5, i5⟩ := di_ok (O := O) (f := f) (m := 4) w4 (by omega) (by omega)
    have R5 := dr (by omega) R4 u5
    have u15 : Un Ps M M5 := u14.tr (ps u5)
    show ∃ t N, (if yw (m : Int) ≤ yw (k : Int) then _ else _) = _ ∧ _
    rw [le_F (by omega) (by omega) (by omega), h.1.1.1.is (k := 0) (ci := 15) (by decide) (by decide), e1, xcl_e, w1.is (k := 0) (ci := 15) (by decide) (by decide), e2, xcl_e, w2.is (k := 0) (ci := 15) (by decide) (by decide), e3, xcl_e, a_Cal_is w3, e4, xcl_e, w4.is (k := 0) (ci := 15) (by decide) (by decide), e5, xcl_e]
    rcases hx5 with rfl | rfl
    · rw [eq_T rfl]
      exact done M5 R5 u15
    · have s5 := R5.1.2.2.1 k (by omega)
      have q5 := R5.2.1 k (by omega)
      obtain ⟨z, ez, z0, z1, zb⟩ := ntz_ok (O := O) (f := f) (M := M5) (x := iV M5 (29 + 6 * k) 4) q5.2.2.2.2.2.1 q5.2.2.2.2.2.2
      obtain ⟨M6, y, e6, b6, u6, a6, o6⟩ := answer_ok (O := O) (f := f) (kk := (k : Int)) (x := z) (a := 2) R5.1.1 rfl k12 s5.1.1 (by have := q5.2.2.2.2.2.1; omega) z0 z1 zb (by omega) (by omega) hf
      have us6 : Un (Us k) M5 M6 := u6.le (fun a q => by unfold Us at q; (try dsimp only); omega)
      have s6 : S1 M6 k fd := by
        have e29 : ∀ a j, a ≠ 33 + 6 * k → 29 + 6 * k ≤ a → a < 35 + 6 * k → iV M6 a j = iV M5 a j := fun a j h1 h2 h3 => u6.i (by (try dsimp only); omega)
        obtain ⟨c1, c2, c3, c4, c5⟩ := s5
        have er : iV M6 (30 + 6 * k) = iV M5 (30 + 6 * k) := funext (fun j => e29 _ _ (by omega) (by omega) (by omega))
        refine ⟨?_, by rw [er]; exact c2, by rw [er, e29 (29 + 6 * k) 7 (by omega) (by omega) (by omega)]; exact c3, fun i hi => ?_, fun p hp => ?_⟩
        · unfold SV at c1 ⊢
          simp (disch := omega) only [e29]
          exact c1
        · rw [e29 (29 + 6 * k) _ (by omega) (by omega) (by omega)] at hi
          rw [er, e29 (31 + 6 * k) _ (by omega) (by omega) (by omega), e29 (32 + 6 * k) _ (by omega) (by omega) (by omega)]
          exact c4 i hi
        · by_cases g : p = z.toNat
          · rw [g, a6]
            omega
          · rw [o6 p g]
            exact c5 p hp
      have R6 : PLd M6 (k + 1) fd := by
        refine ⟨R5.1.us' k12 us6 b6 s6, fun j hj => (R5.2.1 j hj).of (fun a j h1 h2 => u6.i (by (try dsimp only); omega)), by rw [u6.i (by (try dsimp only); omega)]; exact R5.2.2.1, by rw [u6.i (by (try dsimp only); omega)]; exact R5.2.2.2⟩
      rw [eq_F (by omega) (by omega) (by omega) (by omega) (by omega), a_Cal_is w5, e_seriesAt w5 rfl k12 s5.1.1 (Or.inr (Or.inr ⟨rfl, rfl⟩)), xcl_e, ez, xcl_e, a_Cal_is w5, e6, xcl_e]
      exact done M6 R6 (u15.tr (toPs us6))
end PLD
end
/-! draft 614.applyplan -/
section
/-! ===== a plan applied ===== -/
/-- what stays while a plan is applied -/
def PA (a : Nat) : Prop := a ≠ 1 ∧ (a < 29 ∨ (101 ≤ a ∧ a < 140) ∨ 1044 ≤ a)
section APL
variable {O : Nat → Option va_E} {f m s k : Nat} {M N : xM} {A : List Int} {lo hi fd d t : Int}
theorem com_0 {l : Int} (z0 : iV N 12 0 = 0) (z1 : iV N 12 1 = 0) : com N 0 l = l := by
  have z0' : iV N (12 + 3 * 0) 0 = 0 := z0
  have z1' : iV N (12 + 3 * 0) 1 = 0 := z1
  unfold com
  rw [z0', z1']
  split <;> omega
theorem loc_0 {l : Int} (z0 : iV N 12 0 = 0) (z1 : iV N 12 1 = 0) : loc N 0 l = l := by
  have z0' : iV N (12 + 3 * 0) 0 = 0 := z0
  have z1' : iV N (12 + 3 * 0) 1 = 0 := z1
  unfold loc
  rw [z0', z1']
  split <;> omega
theorem zk_0 (h : iV N (29 + 6 * s) 1 = 0) : zk N s = 0 := by
  unfold zk
  rw [h]
  rfl
theorem exO_0 (h : iV N (29 + 6 * s) 7 = 0) : exO N s d = -1 := by
  unfold exO
  rw [h]
  rfl
theorem bg_0 (h : iV N (29 + 6 * s) 7 = 0) (hz : iV N (29 + 6 * s) 1 = 0) (z0 : iV N 12 0 = 0) (z1 : iV N 12 1 = 0) : bg N s d = d * 1440 + iV N (29 + 6 * s) 2 := by
  unfold bg
  rw [if_pos (exO_0 h), zk_0 hz, com_0 z0 z1]
theorem bg_1 (h : iV N (29 + 6 * s) 7 = 1) (hd : iV N (31 + 6 * s) 0 = d) (ht : iV N (32 + 6 * s) 0 = t) (t0 : t ≠ -1) (hz : iV N (29 + 6 * s) 1 = 0) (z0 : iV N 12 0 = 0) (z1 : iV N 12 1 = 0) : bg N s d = t := by
  have e : exO N s d = 0 := by
    unfold exO
    rw [h]
    show exF (iV N (31 + 6 * s)) d 1 = 0
    unfold exF exF
    simp [hd]
  unfold bg
  rw [e, if_neg (by decide), if_neg (by rw [show (0 : Int).toNat = 0 from rfl, ht]; exact t0), zk_0 hz, com_0 z0 z1]
  exact ht
theorem AL.d01 (h : SR M m fd) (hm : m ≤ 12) (a : AL M m lo hi A) {x : Int} (hx : x ∈ A) : D01 (iV M (30 + 6 * (rN x).toNat)) (rD x) := by
  obtain ⟨k, hk, d, hd, q⟩ := (a.2 x).mp hx
  have s := h.2.2.1 k hk
  have d1 := (nx01 (O := fun _ => none) (f := 0) (k := k) (by omega) s.2.1).1 d hd
  have nn := rwB_N (M := M) (k := k) (nb := k) (by omega) (by omega) (by omega) q
  rw [show (rN x).toNat = k by omega, nn.2.1]
  exact hd
theorem pl_day (h : PLd M m fd) (hm : m ≤ 12) (a : AL M m lo hi A) {x : Int} (hx : x ∈ A) : rD x = fd := by
  have b := a.b h.1 hm hx
  have q := h.2.1 _ b.2.1
  have d := a.d01 h.1 hm hx
  unfold D01 at d
  rw [if_pos q.2.1, q.1] at d
  exact d.2.2
theorem pl_dist (h : PLd M m fd) (hm : m ≤ 12) (a : AL M m lo hi A) {i j : Nat} (hi' : i < A.length) (hj : j < A.length) (hij : i ≠ j) : (rN (A.getD i 0)).toNat ≠ (rN (A.getD j 0)).toNat := by
  intro z
  have bi := a.b h.1 hm (getD_mem hi')
  have bj := a.b h.1 hm (getD_mem hj)
  have e := a.same h.1 hm (getD_mem hi') (getD_mem hj) (by omega) (by rw [pl_day h hm a (getD_mem hi'), pl_day h hm a (getD_mem hj)])
  rcases Nat.lt_or_gt_of_ne hij with q | q
  · have := srt_lt a.1 q hj
    omega
  · have := srt_lt a.1 q hi'
    omega
theorem pl_len (h : PLd M m fd) (hm : m ≤ 12) (a : AL M m lo hi A) : A.length ≤ m := by
  refine pigeon (φ := fun i => rw' (bg M i fd) (i : Int) fd) m A (srt_nodup a.1) (fun x hx => ?_)
  have b := a.b h.1 hm hx
  refine ⟨(rN x).toNat, b.2.1, ?_⟩
  have e := pl_day h hm a hx
  have b9 := b.2.2.2.2.2.2.2.2.1
  have b10 := b.2.2.2.2.2.2.2.2.2
  show x = rw' (bg M (rN x).toNat fd) ((rN x).toNat : Int) fd
  rw [e] at b9 b10
  rw [← b9, show ((rN x).toNat : Int) = rN x by omega]
  exact b10
/-- a plan is kept, and may be applied -/
def PQ (M : xM) (m : Nat) (fd lo hi : Int) (A : List Int) : Prop := PLd M m fd ∧ AL M m lo hi A ∧ A.length ≤ 4 ∧ iV M 127 1 = A.length ∧ (∀ i, i < A.length → lV M 128 i = A.getD i 0) ∧ ∀ i, i < A.length → lo ≤ iV M 131 i ∧ iV M 131 i < hi
theorem PQ.nm (q : PQ M m fd lo hi A) (hm : m ≤ 12) {i : Nat} (hi' : i < A.length) (u : Un PA M N) (w : Wd N) : f_Planner_numberAt O f 127 (i : Int) N = some (rN (A.getD i 0), N) ∧ f_Planner_dayByPlace O f 127 (i : Int) N = some (rD (A.getD i 0), N) ∧ f_Planner_beginAt O f 127 (i : Int) N = some (iV M 131 i, N) ∧ f_Planner_count O f 127 N = some ((A.length : Int), N) := by
  obtain ⟨h, a, h4, hn, hr, hg⟩ := q
  have kz : ((i : Int)).toNat = i := by omega
  have e : lV N 128 i = A.getD i 0 := by rw [u.l (show PA 128 by unfold PA; omega)]; exact hr i hi'
  have g : iV N 131 i = iV M 131 i := u.i (show PA 131 by unfold PA; omega)
  have b := a.b h.1 hm (getD_mem hi')
  have hl : 0 ≤ A.getD i 0 ∧ A.getD i 0 < 9000000000000000 := by
    have hbg := b.2.2.2.2.2.2.2.2.1
    have z := rw_r (m := rM (A.getD i 0)) (n := rN (A.getD i 0)) (d := rD (A.getD i 0))
    have hz := h.1.2.1 0 (by decide)
    have sv := (h.1.2.2.1 _ b.2.1).1
    have q1 := h.2.1 _ b.2.1
    rw [bg_0 q1.2.2.2.1 q1.2.2.2.2.1 h.2.2.1 h.2.2.2] at hbg
    have sm := sv.2.2.1
    have := z (by omega) (by omega) b.1 (by omega) (by omega) (by omega)
    rw [← b.2.2.2.2.2.2.2.2.2] at this
    omega
  refine ⟨?_, ?_, ?_, plCount_ok w (by rw [u.i (show PA 127 by unfold PA; omega)]; exact hn) (by omega)⟩
  · unfold f_Planner_numberAt
    rw [lt_F (by omega) (by omega) (by omega), a_Planner_rows w, n_Planner_rows w, le_F (by omega) (by omega) (by omega), a_Planner_rows w, r_Planner_rows w (by omega) (by omega), kz, e, xc_of (e_numberOf hl.1 hl.2)]
  · unfold f_Planner_dayByPlace
    rw [lt_F (by omega) (by omega) (by omega), a_Planner_rows w, n_Planner_rows w, le_F (by omega) (by omega) (by omega), a_Planner_rows w, r_Planner_rows w (by omega) (by omega), kz, e, xc_of (e_dayIn hl.1 hl.2)]
  · unfold f_Planner_beginAt
    rw [lt_F (by omega) (by omega) (by omega), a_Planner_begins w, n_Planner_begins w, le_F (by omega) (by omega) (by omega), a_Planner_begins w, r_Planner_begins w (by omega) (by omega), kz, g]
theorem PQ.cnt (q : PQ M m fd lo hi A) (u : Un PA M N) (w : Wd N) : f_Planner_count O f 127 N = some ((A.length : Int), N) := plCount_ok w (by rw [u.i (show PA 127 by unfold PA; omega)]; exact q.2.2.2.1) (by have := q.2.2.1; omega)
theorem ne_12 (q : PQ M m fd lo hi A) (hm : m ≤ 12) (hs : s < m) (hf : 20 ≤ f) : ∀ (r t j : Nat) (v : Int), j + r = A.length → r < t → 0 ≤ v → v ≤ j → ∃ y, f_Planner_newExceptions_12 O f t 127 2 (s : Int) (29 + 6 * s) v (j : Int) M = some (y, M) ∧ 0 ≤ y ∧ y ≤ A.length := by
  have qq := q
  obtain ⟨h, a, h4, hn, hr, hg⟩ := q
  have w := h.1.1.1
  have sv := (h.1.2.2.1 s hs).1
  have ps := h.2.1 s hs
  have zz := zk_0 ps.2.2.2.2.1
  have p7 := ps.2.2.2.1
  have p1 := ps.2.2.2.2.1
  have hz := h.1.2.1 0 (by decide)
  intro r
  induction r with
  | zero =>
    intro t j v hj ht v0 v1
    obtain ⟨t, rfl⟩ : ∃ n', t = n' + 1 := ⟨t - 1, by omega⟩
    refine ⟨v, ?_, v0, by omega⟩
    show (isO O M 127 7).bind _ = _
    rw [a_Planner_is w, qq.cnt (f := f) Un.rf w, xcl_e, le_T (by omega) (by omega) (by omega)]
  | succ r ih =>
    intro t j v hj ht v0 v1
    obtain ⟨t, rfl⟩ : ∃ n', t = n' + 1 := ⟨t - 1, by omega⟩
    obtain ⟨n1, n2, n3, n4⟩ := qq.nm (O := O) (f := f) hm (i := j) (by omega) Un.rf w
    have b := a.b h.1 hm (getD_mem (L := A) (i := j) (by omega))
    have nxt : ∀ v', 0 ≤ v' → v' ≤ (j : Int) + 1 → ∃ y, f_Planner_newExceptions_12 O f t 127 2 (s : Int) (29 + 6 * s) v' ((j : Int) + 1) M = some (y, M) ∧ 0 ≤ y ∧ y ≤ A.length := fun v' a0 a1 => by
      have := ih t (j + 1) v' (by omega) (by omega) a0 (by omega)
      rw [show ((j + 1 : Nat) : Int) = (j : Int) + 1 by omega] at this
      exact this
    show ∃ y, (isO O M 127 7).bind _ = some (y, M) ∧ _
    rw [a_Planner_is w, n4, xcl_e, le_F (by omega) (by omega) (by omega), a_Planner_is w, n1, xcl_e]
    by_cases g1 : rN (A.getD j 0) = (s : Int)
    · rw [eq_T g1, a_Planner_is w, n2, xcl_e, a_Series_is w (by omega), xc_of (e_exceptionOf w (by omega) (by omega) (by omega) (by omega) (by omega) hf), exO_0 ps.2.2.2.1, eq_T rfl, a_Hall_is w, xc_of (e_zoneOf w (by omega) (by omega) (by omega)), a_Planner_is w, n2, xcl_e, a_Series_is w (by omega), xc_of (e_beginOf w (by omega) sv (by rw [zz]; exact hz) (by omega) (by omega) hf), a_Planner_is w, n3, xcl_e]
      have r1 := hg j (by omega)
      by_cases g2 : bg M s (rD (A.getD j 0)) = iV M 131 j
      · rw [eq_T g2]
        exact nxt v v0 (by omega)
      · have r2 := b.2.2.2.2.2.2.2.2.1
        rw [show (rN (A.getD j 0)).toNat = s by omega] at r2
        have r3 := iV_r M 131 j
        have bb : bg M s (rD (A.getD j 0)) = rD (A.getD j 0) * 1440 + iV M (29 + 6 * s) 2 := bg_0 ps.2.2.2.1 ps.2.2.2.2.1 h.2.2.1 h.2.2.2
        have sm := sv.2.2.1
        rw [eq_F g2 (by omega) (by omega) (by omega) (by omega)]
        exact nxt (v + 1) (by omega) (by omega)
    · rw [eq_F g1 (by omega) (by omega) (by omega) (by omega)]
      exact nxt v v0 (by omega)
theorem canApply_ok (q : PQ M m fd lo hi A) (hm : m ≤ 12) (l0 : 0 ≤ lo) (hf : 2000 ≤ f) : f_Planner_canApply O f 127 2 M = some (1, M) := by
  have qq := q
  obtain ⟨h, a, h4, hn, hr, hg⟩ := q
  have w := h.1.1.1
  have hz := h.1.2.1 0 (by decide)
  have key : ∀ (r t j : Nat), j + r = A.length → r < t → f_Planner_canApply_2 O f t 127 2 (j : Int) M = some (1, M) := by
    intro r
    induction r with
    | zero =>
      intro t j hj ht
      obtain ⟨t, rfl⟩ : ∃ n', t = n' + 1 := ⟨t - 1, by omega⟩
      show (isO O M 127 7).bind _ = _
      rw [a_Planner_is w, qq.cnt (f := f) Un.rf w, xcl_e, le_T (by omega) (by omega) (by omega)]
    | succ r ih =>
      intro t j hj ht
      obtain ⟨t, rfl⟩ : ∃ n', t = n' + 1 := ⟨t - 1, by omega⟩
      obtain ⟨n1, n2, n3, n4⟩ := qq.nm (O := O) (f := f) hm (i := j) (by omega) Un.rf w
      have hx := getD_mem (L := A) (i := j) (by omega)
      have b := a.b h.1 hm hx
      have dd := a.d01 h.1 hm hx
      obtain ⟨s, es⟩ : ∃ s, s = (rN (A.getD j 0)).toNat := ⟨_, rfl⟩
      rw [← es] at b dd
      have ps := h.2.1 s b.2.1
      have s1 := h.1.2.2.1 s b.2.1
      have sv := s1.1
      have zz := zk_0 ps.2.2.2.2.1
      have p1 := ps.2.2.2.2.1
      obtain ⟨bb, eb, ob⟩ := isDay01 (O := O) (f := f) w (k := s) (by omega) s1.2.1 (d := rD (A.getD j 0)) (by omega) (by omega)
      have b1 : bb = 1 := by
        rcases ob with z | z
        · exact (z.2 dd).elim
        · exact z.1
      obtain ⟨y, ey, y0, y1⟩ := ne_12 (O := O) (f := f) qq hm (s := s) b.2.1 (by omega) A.length f 0 0 (by omega) (by omega) (by omega) (by omega)
      have ene : f_Planner_newExceptions O f 127 2 (s : Int) M = some (y, M) := by
        unfold f_Planner_newExceptions
        rw [a_Hall_is w, e_anySeries w (by omega) (by omega), xcl_e, show ((s : Int)).toNat = s by omega]
        exact ey
      have rs : rN (A.getD j 0) = (s : Int) := by omega
      have bgr := b.2.2.2.2.2.2.2.2.1
      have smm := sv.2.2.1
      have bb0 : bg M s (rD (A.getD j 0)) = rD (A.getD j 0) * 1440 + iV M (29 + 6 * s) 2 := bg_0 ps.2.2.2.1 ps.2.2.2.2.1 h.2.2.1 h.2.2.2
      have q := ih t (j + 1) (by omega) (by omega)
      rw [show ((j + 1 : Nat) : Int) = (j : Int) + 1 by omega] at q
      show (isO O M 127 7).bind _ = _
      rw [a_Planner_is w, n4, xcl_e, le_F (by omega) (by omega) (by omega), a_Planner_is w, n1, xcl_e, a_Hall_is w, rs, e_anySeries w (by omega) (by omega), xcl_e, show ((s : Int)).toNat = s by omega, a_Series_isThere w (by omega), sv.1, eq_F (by omega) (by omega) (by omega) (by omega) (by omega), a_Series_rule w (by omega), a_Planner_is w, n2, xcl_e, a_Rule_is w (by omega), eb, xcl_e, b1, eq_F (by omega) (by omega) (by omega) (by omega) (by omega), a_Hall_is w, xc_of (e_zoneOf w (by omega) (by omega) (by omega)), a_Planner_is w, n2, xcl_e, a_Series_is w (by omega), xc_of (e_beginOf w (by omega) sv (by rw [zz]; exact hz) (by omega) (by omega) (by omega)), eq_F (by omega) (by omega) (by omega) (by omega) (by omega), a_Series_exceptions w (by omega), ps.2.2.2.1, a_Planner_is w, n1, xcl_e, rs, a_Planner_is w, ene, xcl_e, le_T (by omega) (by omega) (by omega)]
      exact q
  unfold f_Planner_canApply
  exact key A.length f 0 (by omega) (by omega)
end APL
end
/-! draft 615.applyplan2 -/
section
/-! ===== a plan applied: all its dates ===== -/
/-- so many dates are moved as the plan tells -/
def AI (M N : xM) (m : Nat) (A : List Int) (k : Nat) : Prop := Un PA M N ∧ (∀ s, s < m → (∀ j, j ≠ 7 → iV N (29 + 6 * s) j = iV M (29 + 6 * s) j) ∧ (∀ j, iV N (30 + 6 * s) j = iV M (30 + 6 * s) j)) ∧ (∀ i, k ≤ i → i < A.length → iV N (29 + 6 * (rN (A.getD i 0)).toNat) 7 = 0) ∧ ∀ i, i < k → i < A.length → (iV M 131 i = rM (A.getD i 0) ∧ iV N (29 + 6 * (rN (A.getD i 0)).toNat) 7 = 0) ∨ (iV N (29 + 6 * (rN (A.getD i 0)).toNat) 7 = 1 ∧ iV N (31 + 6 * (rN (A.getD i 0)).toNat) 0 = rD (A.getD i 0) ∧ iV N (32 + 6 * (rN (A.getD i 0)).toNat) 0 = iV M 131 i)
section APA
variable {O : Nat → Option va_E} {f m k : Nat} {M N : xM} {A : List Int} {lo hi fd : Int}
theorem AI.st (q : PQ M m fd lo hi A) (hm : m ≤ 12) (l0 : 14400 ≤ lo) (l2 : hi ≤ 150000000) (a : AI M N m A k) {i : Nat} (hi' : i < A.length) : SV N (rN (A.getD i 0)).toNat ∧ iV N (29 + 6 * (rN (A.getD i 0)).toNat) 1 = 0 ∧ iV N 12 0 = 0 ∧ iV N 12 1 = 0 ∧ Zv N 0 := by
  obtain ⟨h, al, h4, hn, hr, hg⟩ := q
  obtain ⟨u, a1, a2, a3⟩ := a
  have b := al.b h.1 hm (getD_mem hi')
  have s := h.1.2.2.1 _ b.2.1
  have p := h.2.1 _ b.2.1
  have c := a1 _ b.2.1
  have g := hg i hi'
  have z := u.i (a := 12) (j := 0) (by unfold PA; omega)
  have z' := u.i (a := 12) (j := 1) (by unfold PA; omega)
  refine ⟨?_, by rw [c.1 1 (by decide)]; exact p.2.2.2.2.1, by rw [z]; exact h.2.2.1, by rw [z']; exact h.2.2.2, (h.1.2.1 0 (by decide)).of (fun a j h1 h2 => u.i (by unfold PA; omega))⟩
  obtain ⟨s1, s2, s3, s4, s5, s6, s7, s8, s9⟩ := s.1
  unfold SV
  rw [c.1 0 (by decide), c.1 1 (by decide), c.1 2 (by decide), c.1 3 (by decide), c.1 4 (by decide), c.1 5 (by decide)]
  have p7 := p.2.2.2.1
  by_cases e : k ≤ i
  · have e7 := a2 i e hi'
    rw [e7]
    exact ⟨s1, s2, s3, s4, s5, s6, by omega, fun j hj => by omega, fun j j' _ hj => by omega⟩
  · rcases a3 i (by omega) hi' with ⟨-, e7⟩ | ⟨e7, e31, e32⟩
    · rw [e7]
      exact ⟨s1, s2, s3, s4, s5, s6, by omega, fun j hj => by omega, fun j j' _ hj => by omega⟩
    · rw [e7]
      refine ⟨s1, s2, s3, s4, s5, s6, by omega, fun j hj => ?_, fun j j' _ hj => by omega⟩
      obtain rfl : j = 0 := by omega
      rw [e31, e32]
      omega
theorem at_ok (q : PQ M m fd lo hi A) (hm : m ≤ 12) (l0 : 14400 ≤ lo) (l2 : hi ≤ 150000000) (a : AI M N m A k) (hk : k < A.length) (hf : 20 ≤ f) : ∃ N', f_Planner_applyTo O f 127 2 (k : Int) N = some ((if iV M 131 k = rM (A.getD k 0) then 0 else 1), N') ∧ AI M N' m A (k + 1) := by
  have qq := q
  have aa := a
  obtain ⟨sv, z1, z120, z121, zv⟩ := a.st q hm l0 l2 hk
  obtain ⟨h, al, h4, hn, hr, hg⟩ := q
  obtain ⟨u, a1, a2, a3⟩ := a
  have w := u.wd h.1.1.1
  have b := al.b h.1 hm (getD_mem hk)
  have p := h.2.1 _ b.2.1
  have c := a1 _ b.2.1
  have e7 := a2 k (Nat.le_refl _) hk
  have g := hg k hk
  have zz := zk_0 z1
  have bgN : bg N (rN (A.getD k 0)).toNat (rD (A.getD k 0)) = rM (A.getD k 0) := by
    rw [b.2.2.2.2.2.2.2.2.1, bg_0 e7 z1 z120 z121, bg_0 p.2.2.2.1 p.2.2.2.2.1 h.2.2.1 h.2.2.2, c.1 2 (by decide)]
  obtain ⟨n1, n2, n3, n4⟩ := qq.nm (O := O) (f := f) hm hk u w
  have rs : 12 + 3 * zk N (rN (A.getD k 0)).toNat = 12 := by rw [zz]
  unfold f_Planner_applyTo
  rw [a_Planner_is w, n1, xcl_e, a_Hall_is w, e_anySeries w (by omega) (by omega), xcl_e, a_Hall_is w, xc_of (e_zoneOf w (by omega) (by omega) (by omega)), a_Planner_is w, n2, xcl_e, a_Series_is w (by omega), xc_of (e_beginOf w (by omega) sv (by rw [zz]; exact zv) (by omega) (by omega) hf), bgN, a_Planner_is w, n3, xcl_e]
  by_cases e : rM (A.getD k 0) = iV M 131 k
  · rw [eq_T e, if_pos e.symm]
    refine ⟨N, rfl, u, a1, fun i i1 i2 => a2 i (by omega) i2, fun i i1 i2 => ?_⟩
    by_cases z : i = k
    · rw [z]
      exact Or.inl ⟨e.symm, e7⟩
    · exact a3 i (by omega) i2
  · have r3 := iV_r M 131 k
    have exn : exO N (rN (A.getD k 0)).toNat (rD (A.getD k 0)) = -1 := exO_0 e7
    obtain ⟨N', ee, x1, x2, x3, x4, x5⟩ := except_ok (O := O) (f := f) (t := iV M 131 k) (d := rD (A.getD k 0)) w (k := (rN (A.getD k 0)).toNat) (by omega) (by omega) (by omega) (by unfold exP; rw [if_pos exn, e7]; omega) (by omega) (by omega) (by omega) (by omega) hf
    have ep : exP N (rN (A.getD k 0)).toNat (rD (A.getD k 0)) = 0 := by unfold exP; rw [if_pos exn, e7]
    rw [ep] at x4 x5
    rw [if_pos exn, e7] at x3
    have lz : loc N 0 (iV M 131 k) = iV M 131 k := loc_0 z120 z121
    have el := e_localOf (O := O) (f := f) (c := iV M 131 k) w (k := 0) (by decide) zv (by omega) (by omega)
    rw [lz] at el
    refine ⟨N', ?_, u.tr (x1.le (fun a q => by unfold PA at q; omega)), fun s hs => ?_, fun i i1 i2 => ?_, fun i i1 i2 => ?_⟩
    · rw [eq_F e (by omega) (by omega) (by omega) (by omega), if_neg (fun z => e z.symm), a_Planner_is w, n3, xcl_e, rs, show (12 : Nat) = 12 + 3 * 0 from rfl, a_Zone_is w (by omega), xc_of el, a_Series_is w (by omega), ee, xcl_e]
    · by_cases z : s = (rN (A.getD k 0)).toNat
      · rw [z]
        exact ⟨fun j hj => by rw [x2 j hj, c.1 j hj], fun j => by rw [x1.i (by omega), c.2]⟩
      · exact ⟨fun j hj => by rw [x1.i (by omega)]; exact (a1 s hs).1 j hj, fun j => by rw [x1.i (by omega)]; exact (a1 s hs).2 j⟩
    · have di := pl_dist h hm al hk i2 (by omega)
      rw [x1.i (by omega)]
      exact a2 i (by omega) i2
    · by_cases z : i = k
      · rw [z]
        exact Or.inr ⟨x3, x4 0, x5 0⟩
      · have di := pl_dist h hm al hk i2 (by omega)
        rw [x1.i (by omega), x1.i (by omega), x1.i (by omega)]
        exact a3 i (by omega) i2
/-- so many are moved -/
def mvB (M : xM) (A : List Int) (i : Nat) : Bool := decide (iV M 131 i ≠ rM (A.getD i 0))
theorem ap_40 (q : PQ M m fd lo hi A) (hm : m ≤ 12) (l0 : 14400 ≤ lo) (l2 : hi ≤ 150000000) (hf : 20 ≤ f) : ∀ (r t k : Nat) (N : xM), k + r = A.length → r < t → AI M N m A k → ∃ N', f_Calendarhall_applyPlan_40 O f t 1 ((ctN (mvB M A) k : Nat) : Int) (k : Int) N = some (((ctN (mvB M A) A.length : Nat) : Int), iS N' 127 0 0) ∧ AI M N' m A A.length := by
  intro r
  induction r with
  | zero =>
    intro t k N hk ht a
    obtain ⟨t, rfl⟩ : ∃ n', t = n' + 1 := ⟨t - 1, by omega⟩
    obtain rfl : k = A.length := by omega
    have w := a.1.wd q.1.1.1.1
    have h4 := q.2.2.1
    refine ⟨N, ?_, a⟩
    show (gR O N 1 12 6).bind _ = _
    rw [a_Cal_planner w, a_Planner_is w, q.cnt (f := f) a.1 w, xcl_e, le_T (by omega) (by omega) (by omega), a_Cal_planner w, p_Planner_isKept w (Or.inl rfl)]
  | succ r ih =>
    intro t k N hk ht a
    obtain ⟨t, rfl⟩ : ∃ n', t = n' + 1 := ⟨t - 1, by omega⟩
    have w := a.1.wd q.1.1.1.1
    have h4 := q.2.2.1
    obtain ⟨N1, e1, a1⟩ := at_ok (O := O) (f := f) q hm l0 l2 a (by omega) hf
    obtain ⟨N', e', z⟩ := ih t (k + 1) N1 (by omega) (by omega) a1
    refine ⟨N', ?_, z⟩
    rw [show ((k + 1 : Nat) : Int) = (k : Int) + 1 by omega] at e'
    show (gR O N 1 12 6).bind _ = _
    rw [a_Cal_planner w, a_Planner_is w, q.cnt (f := f) a.1 w, xcl_e, le_F (by omega) (by omega) (by omega), a_Cal_planner w, a_Cal_hall w, a_Planner_is w, e1, xcl_e]
    have ct : ctN (mvB M A) (k + 1) = ctN (mvB M A) k + (if mvB M A k = true then 1 else 0) := rfl
    by_cases e : iV M 131 k = rM (A.getD k 0)
    · rw [if_pos e, eq_T rfl]
      have nb : ¬ mvB M A k = true := fun z => of_decide_eq_true z e
      rw [ct, if_neg nb] at e'
      exact e'
    · rw [if_neg e, eq_F (by omega) (by omega) (by omega) (by omega) (by omega)]
      have nb : mvB M A k = true := decide_eq_true e
      rw [ct, if_pos nb, show ((ctN (mvB M A) k + 1 : Nat) : Int) = ((ctN (mvB M A) k : Nat) : Int) + 1 by omega] at e'
      exact e'
theorem PQ.un {P : Nat → Prop} (q : PQ M m fd lo hi A) (hm : m ≤ 12) (u : Un P M N) (b : Bs N) (p : ∀ a, 12 ≤ a → a < 116 → P a) (p2 : P 127 ∧ P 128 ∧ P 131) : PQ N m fd lo hi A := by
  obtain ⟨h, al, h4, hn, hr, hg⟩ := q
  exact ⟨h.un hm u b (fun a h1 h2 => p a h1 (by omega)), al.of h.1 hm (fun b j h1 h2 => u.i (p b h1 h2)), h4, by rw [u.i p2.1]; exact hn, fun i hi' => by rw [u.l p2.2.1]; exact hr i hi', fun i hi' => by rw [u.i p2.2.2]; exact hg i hi'⟩
theorem applyPlan_ok (q : PQ M m fd lo hi A) (hk : iV M 127 0 = 1) (hm : m ≤ 12) (l0 : 14400 ≤ lo) (l2 : hi ≤ 150000000) (hf : 2000 ≤ f) : ∃ N, f_Calendarhall_applyPlan O f 1 M = some (((ctN (mvB M A) A.length : Nat) : Int), N) ∧ Un (fun a => a = 0 ∨ 1044 ≤ a) M N ∧ ∀ i, i < A.length → f_Calendarhall_begin O f 1 (rN (A.getD i 0)) (rD (A.getD i 0)) N = some (iV M 131 i, N) := by
  have w := q.1.1.1.1
  have h4 := q.2.2.1
  obtain ⟨M1, e1, u1, b1⟩ := bs_save (O := O) (f := f) q.1.1.1 (by omega)
  have q1 : PQ M1 m fd lo hi A := q.un hm u1 b1 (fun a h1 h2 => by (try dsimp only); omega) (by (try dsimp only); omega)
  have i131 : ∀ i, iV M1 131 i = iV M 131 i := fun i => u1.i (by (try dsimp only); omega)
  have a0 : AI M1 M1 m A 0 := by
    refine ⟨Un.rf, fun s hs => ⟨fun j _ => rfl, fun j => rfl⟩, fun i _ hi' => ?_, fun i hi' => by omega⟩
    have b := q1.2.1.b q1.1.1 hm (getD_mem hi')
    exact (q1.1.2.1 _ b.2.1).2.2.2.1
  obtain ⟨N, e2, a2⟩ := ap_40 (O := O) (f := f) q1 hm l0 l2 (by omega) A.length f 0 M1 (by omega) (by omega) a0
  have em : mvB M1 A = mvB M A := funext (fun i => by unfold mvB; rw [i131])
  rw [em] at e2
  have a2' := a2
  obtain ⟨u2, s2, x2, d2⟩ := a2
  have wN := u2.wd b1.1
  have wN' : Wd (iS N 127 0 0) := wN
  refine ⟨iS N 127 0 0, ?_, ?_, fun i hi' => ?_⟩
  · have e2' : f_Calendarhall_applyPlan_40 O f f 1 0 0 M1 = some (((ctN (mvB M A) A.length : Nat) : Int), iS N 127 0 0) := e2
    unfold f_Calendarhall_applyPlan
    rw [a_Cal_planner w, a_Planner_isKept w, hk, eq_F (by omega) (by omega) (by omega) (by omega) (by omega), a_Cal_planner w, a_Cal_hall w, a_Planner_is w, canApply_ok q hm (by omega) hf, xcl_e, eq_F (by omega) (by omega) (by omega) (by omega) (by omega), a_Cal_is w, e1, xcl_e, e2']
  · exact ((u1.le (fun a q => by (try dsimp only at q ⊢); omega)).tr (u2.le (fun a q => by unfold PA; omega))).iS (by (try dsimp only); omega)
  · obtain ⟨sv, z1, z120, z121, zv⟩ := a2'.st q1 hm l0 l2 hi'
    have b := q1.2.1.b q1.1.1 hm (getD_mem hi')
    have r01 := (q1.1.1.2.2.1 _ b.2.1).2.1
    have dd := q1.2.1.d01 q1.1.1 hm (getD_mem hi')
    have c := s2 _ b.2.1
    have er : iV (iS N 127 0 0) (30 + 6 * (rN (A.getD i 0)).toNat) = iV M1 (30 + 6 * (rN (A.getD i 0)).toNat) := funext (fun j => by rw [iV_o (Or.inl (by omega))]; exact c.2 j)
    have ev : ∀ a j, a < 116 → iV (iS N 127 0 0) a j = iV N a j := fun a j ha => iV_o (Or.inl (by omega))
    have sv' : SV (iS N 127 0 0) (rN (A.getD i 0)).toNat := sv.of (fun a j h1 h2 => ev a j (by omega))
    have zz : zk (iS N 127 0 0) (rN (A.getD i 0)).toNat = 0 := zk_0 (by rw [ev _ _ (by omega)]; exact z1)
    have zv' : Zv (iS N 127 0 0) 0 := zv.of (fun a j h1 h2 => ev a j (by omega))
    have bgN : bg (iS N 127 0 0) (rN (A.getD i 0)).toNat (rD (A.getD i 0)) = iV M 131 i := by
      have g := q.2.2.2.2.2 i hi'
      rcases d2 i hi' hi' with ⟨g1, g2⟩ | ⟨g1, g2, g3⟩
      · rw [bg_0 (by rw [ev _ _ (by omega)]; exact g2) (by rw [ev _ _ (by omega)]; exact z1) (by rw [ev _ _ (by omega)]; exact z120) (by rw [ev _ _ (by omega)]; exact z121), ← i131, g1, b.2.2.2.2.2.2.2.2.1]
        have p := q1.1.2.1 _ b.2.1
        rw [bg_0 p.2.2.2.1 p.2.2.2.2.1 q1.1.2.2.1 q1.1.2.2.2, ev _ _ (by omega), c.1 2 (by decide)]
      · rw [← i131]
        exact bg_1 (by rw [ev _ _ (by omega)]; exact g1) (by rw [ev _ _ (by omega)]; exact g2) (by rw [ev _ _ (by omega)]; exact g3) (by rw [i131]; omega) (by rw [ev _ _ (by omega)]; exact z1) (by rw [ev _ _ (by omega)]; exact z120) (by rw [ev _ _ (by omega)]; exact z121)
    have eb := e_begin (O := O) (f := f) (kk := rN (A.getD i 0)) (d := rD (A.getD i 0)) wN' (k := (rN (A.getD i 0)).toNat) (by omega) (by omega) sv' (by rw [zz]; exact zv') (nx01 (by omega) (by rw [er]; exact r01)) (by rw [er]; exact dd) (by omega)
    rw [bgN] at eb
    exact eb
end APA
end
/-! draft 616.lawplan -/
section
/-! ===== the law of plans: what it checks ===== -/
def LWp (N : xM) (m n : Nat) (fd lo hi : Int) (A : List Int) (v : Int) : Prop := PQ N m fd lo hi A ∧ iV N 127 0 = 1 ∧ LTs n N ∧ LTv n N A ∧ VP (fun i => rM (A.getD i 0)) (lnA N A) (shr N A) lo hi A.length (iV N 131) ∧ smc (fun i => rM (A.getD i 0)) (iV N 131) A.length = v
section LPL
variable {O : Nat → Option va_E} {f m n k j : Nat} {M N : xM} {A : List Int} {lo hi fd v s c : Int}
theorem LWp.pa (h : LWp N m n fd lo hi A v) (hm : m ≤ 12) {kk : Int} (hkk : kk = (k : Int)) (hk : k < A.length) {N' : xM} (u : Un (fun a => a < 1044) N N') : f_Calendarhall_planAt O f 1 kk 0 N' = some (rN (A.getD k 0), N') ∧ f_Calendarhall_planAt O f 1 kk 1 N' = some (rD (A.getD k 0), N') ∧ f_Calendarhall_planAt O f 1 kk 2 N' = some (iV N 131 k, N') := by
  obtain ⟨q, hk0, ls, lv, vp, sv⟩ := h
  have w := u.wd q.1.1.1.1
  have qq := q
  obtain ⟨h, a, h4, hn, hr, hg⟩ := q
  have b := a.b h.1 hm (getD_mem hk)
  have hl : 0 ≤ A.getD k 0 ∧ A.getD k 0 < 9000000000000000 := by
    have hbg := b.2.2.2.2.2.2.2.2.1
    have z := rw_r (m := rM (A.getD k 0)) (n := rN (A.getD k 0)) (d := rD (A.getD k 0))
    have sv := (h.1.2.2.1 _ b.2.1).1
    have q1 := h.2.1 _ b.2.1
    rw [bg_0 q1.2.2.2.1 q1.2.2.2.2.1 h.2.2.1 h.2.2.2] at hbg
    have sm := sv.2.2.1
    have := z (by omega) (by omega) b.1 (by omega) (by omega) (by omega)
    rw [← b.2.2.2.2.2.2.2.2.2] at this
    omega
  have e := planAt_ok (O := O) (f := f) (N := N') (n := A.length) (k := k) w (by rw [u.i (by (try dsimp only); omega)]; exact hk0) (by rw [u.i (by (try dsimp only); omega)]; exact hn) (by omega) hkk hk (by rw [u.l (by (try dsimp only); omega), hr k hk]; exact hl)
  rw [u.l (by (try dsimp only); omega), hr k hk, u.i (by (try dsimp only); omega)] at e
  exact e
theorem lv_362 {K : Nat → Nat → Int → Int → Int → Int → xM → Option (Int × xM)} (h : LWp N m n fd lo hi A v) (hm : m ≤ 12) (hk : k < A.length) (hj : j < A.length) (hc : c = 0 ∨ (c = 1 ∧ ∀ q, q < 3 → ¬ (tp N (rN (A.getD j 0)).toNat q ∧ tp N (rN (A.getD k 0)).toNat q))) : ∀ (r t p : Nat), p + r = 3 → r < t → f_Law_isPlanned_362 O f K t 1 n v s (k : Int) (j : Int) c (p : Int) N = K 1 n v s (k : Int) ((j : Int) + 1) N := by
  obtain ⟨q, hk0, ls, lv, vp, sv⟩ := h
  obtain ⟨h, a, h4, hn, hr, hg⟩ := q
  have bj := a.b h.1 hm (getD_mem hj)
  have bk := a.b h.1 hm (getD_mem hk)
  have gj := lv.2.2 j hj
  have gk := lv.2.2 k hk
  have jz : ((j : Int)).toNat = j := by omega
  have kz : ((k : Int)).toNat = k := by omega
  intro r
  induction r with
  | zero =>
    intro t p hp ht
    obtain ⟨t, rfl⟩ : ∃ n', t = n' + 1 := ⟨t - 1, by omega⟩
    obtain rfl : p = 3 := by omega
    show (if yw 3 ≤ yw ((3 : Nat) : Int) then _ else _) = _
    rw [le_T (by omega) (by omega) (by omega)]
  | succ r ih =>
    intro t p hp ht
    obtain ⟨t, rfl⟩ : ∃ n', t = n' + 1 := ⟨t - 1, by omega⟩
    have q := ih t (p + 1) (by omega) (by omega)
    rw [show ((p + 1 : Nat) : Int) = (p : Int) + 1 by omega] at q
    show (if yw 3 ≤ yw (p : Int) then _ else _) = _
    rw [le_F (by omega) (by omega) (by omega)]
    rcases hc with rfl | ⟨rfl, hc⟩
    · rw [eq_T rfl]
      exact q
    · obtain ⟨y1, e1, o1⟩ := takesPart_ok (O := O) (f := f) (kk := rN (A.getD j 0)) (pp := (p : Int)) (k := (rN (A.getD j 0)).toNat) (p := p) h.1 hm (by omega) bj.2.1 rfl (by omega)
      obtain ⟨y2, e2, o2⟩ := takesPart_ok (O := O) (f := f) (kk := rN (A.getD k 0)) (pp := (p : Int)) (k := (rN (A.getD k 0)).toNat) (p := p) h.1 hm (by omega) bk.2.1 rfl (by omega)
      rw [eq_F (by omega) (by omega) (by omega) (by omega) (by omega), ls.gR (j := 0) (by decide), ls.aJ (j := 0) (by decide) (by omega) (by omega), jz, show n + 1 + 0 = n + 1 from rfl, gj.1, e1, xcl_e]
      rcases o1 with ⟨rfl, t1⟩ | ⟨rfl, t1⟩
      · rw [eq_F (by omega) (by omega) (by omega) (by omega) (by omega), ls.gR (j := 0) (by decide), ls.aJ (j := 0) (by decide) (by omega) (by omega), kz, show n + 1 + 0 = n + 1 from rfl, gk.1, e2, xcl_e]
        rcases o2 with ⟨rfl, t2⟩ | ⟨rfl, t2⟩
        · exact (hc p (by omega) ⟨t1, t2⟩).elim
        · rw [eq_T rfl]
          exact q
      · rw [eq_T rfl]
        exact q
theorem lv_293 {K : Nat → Nat → Int → Int → Int → xM → Option (Int × xM)} (h : LWp N m n fd lo hi A v) (hm : m ≤ 12) (l0 : 0 ≤ lo) (l2 : hi ≤ 150000000) (hk : k < A.length) (hf : 10 ≤ f) : ∀ (r t j : Nat), j + r = k → r < t → f_Law_isPlanned_293 O f K t 1 n v s (k : Int) (j : Int) N = K 1 n v s ((k : Int) + 1) N := by
  have hh := h
  obtain ⟨q, hk0, ls, lv, vp, sv⟩ := h
  obtain ⟨h, a, h4, hn, hr, hg⟩ := q
  have w := h.1.1.1
  have kz : ((k : Int)).toNat = k := by omega
  have bk := a.b h.1 hm (getD_mem hk)
  have gk := lv.2.2 k hk
  have lk : iV N (n + 4) k = lnA N A k := gk.2.2.2
  have lkb : 1 ≤ lnA N A k ∧ lnA N A k ≤ 600 := ⟨bk.2.2.2.2.1, bk.2.2.2.2.2.1⟩
  have ggk := hg k hk
  intro r
  induction r with
  | zero =>
    intro t j hj ht
    obtain ⟨t, rfl⟩ : ∃ n', t = n' + 1 := ⟨t - 1, by omega⟩
    obtain rfl : j = k := by omega
    show (if yw (j : Int) ≤ yw (j : Int) then _ else _) = _
    rw [le_T (by omega) (by omega) (by omega)]
  | succ r ih =>
    intro t j hj ht
    obtain ⟨t, rfl⟩ : ∃ n', t = n' + 1 := ⟨t - 1, by omega⟩
    have jz : ((j : Int)).toNat = j := by omega
    have hj' : j < A.length := by omega
    have bj := a.b h.1 hm (getD_mem hj')
    have gj := lv.2.2 j hj'
    have lj : iV N (n + 4) j = lnA N A j := gj.2.2.2
    have ljb : 1 ≤ lnA N A j ∧ lnA N A j ≤ 600 := ⟨bj.2.2.2.2.1, bj.2.2.2.2.2.1⟩
    have ggj := hg j hj'
    have q := ih t (j + 1) (by omega) (by omega)
    rw [show ((j + 1 : Nat) : Int) = (j : Int) + 1 by omega] at q
    have pk := (hh.pa (O := O) (f := f) hm rfl hk Un.rf).2.2
    have pj := (hh.pa (O := O) (f := f) hm rfl hj' Un.rf).2.2
    have z362 : ∀ c, (c = 0 ∨ (c = 1 ∧ ∀ q, q < 3 → ¬ (tp N (rN (A.getD j 0)).toNat q ∧ tp N (rN (A.getD k 0)).toNat q))) → f_Law_isPlanned_357 O f (f_Law_isPlanned_293 O f K t) 1 n v s (k : Int) (j : Int) c N = K 1 n v s ((k : Int) + 1) N := fun c hc => by
      unfold f_Law_isPlanned_357
      have z := lv_362 (O := O) (f := f) (K := f_Law_isPlanned_293 O f K t) (s := s) hh hm hk hj' hc 3 f 0 rfl (by omega)
      exact z.trans q
    have z0 : f_Law_isPlanned_356 O f (f_Law_isPlanned_293 O f K t) 1 n v s (k : Int) (j : Int) N = K 1 n v s ((k : Int) + 1) N := z362 0 (Or.inl rfl)
    show (if yw (k : Int) ≤ yw (j : Int) then _ else _) = _
    rw [le_F (by omega) (by omega) (by omega), a_Cal_is w, pk, xcl_e, a_Cal_is w, pj, xcl_e, ls.gR (j := 3) (by decide), ls.aJ (j := 3) (by decide) (by omega) (by omega), jz, show n + 1 + 3 = n + 4 from rfl, lj]
    by_cases g1 : iV N 131 j + lnA N A j ≤ iV N 131 k
    · rw [le_T g1 (by omega) (by omega)]
      exact z0
    · rw [le_F (by omega) (by omega) (by omega), a_Cal_is w, pj, xcl_e, a_Cal_is w, pk, xcl_e, ls.gR (j := 3) (by decide), ls.aJ (j := 3) (by decide) (by omega) (by omega), kz, show n + 1 + 3 = n + 4 from rfl, lk]
      by_cases g2 : iV N 131 k + lnA N A k ≤ iV N 131 j
      · rw [le_T g2 (by omega) (by omega)]
        exact z0
      · rw [le_F (by omega) (by omega) (by omega)]
        exact z362 1 (Or.inr ⟨rfl, fun p hp z => (vp k hk).2.2.2 ⟨j, by omega, by omega, by omega, p, hp, z⟩⟩)
theorem lv_218 (h : LWp N m n fd lo hi A v) (hm : m ≤ 12) (l0 : 0 ≤ lo) (l2 : hi ≤ 150000000) (hf : 10 ≤ f) : ∀ (r t k : Nat), k + r = A.length → r < t → ∃ t', f_Law_isPlanned_218 O f t 1 n v (smc (fun i => rM (A.getD i 0)) (iV N 131) k) (k : Int) N = f_Law_isPlanned_218 O f (t' + 1) 1 n v v (A.length : Int) N := by
  have hh := h
  obtain ⟨q, hk0, ls, lv, vp, sv⟩ := h
  obtain ⟨h, a, h4, hn, hr, hg⟩ := q
  have w := h.1.1.1
  intro r
  induction r with
  | zero =>
    intro t k hk ht
    obtain ⟨t, rfl⟩ : ∃ n', t = n' + 1 := ⟨t - 1, by omega⟩
    obtain rfl : k = A.length := by omega
    exact ⟨t, by rw [sv]⟩
  | succ r ih =>
    intro t k hk ht
    obtain ⟨t, rfl⟩ : ∃ n', t = n' + 1 := ⟨t - 1, by omega⟩
    have kz : ((k : Int)).toNat = k := by omega
    have hk' : k < A.length := by omega
    obtain ⟨t', e'⟩ := ih t (k + 1) (by omega) (by omega)
    have b := a.b h.1 hm (getD_mem hk')
    have g := lv.2.2 k hk'
    have gg := hg k hk'
    obtain ⟨p0, p1, p2⟩ := hh.pa (O := O) (f := f) hm rfl hk' Un.rf
    have st : smc (fun i => rM (A.getD i 0)) (iV N 131) (k + 1) = smc (fun i => rM (A.getD i 0)) (iV N 131) k + ((iV N 131 k - rM (A.getD k 0)).natAbs : Int) := rfl
    rw [show ((k + 1 : Nat) : Int) = (k : Int) + 1 by omega, st] at e'
    refine ⟨t', ?_⟩
    show (gJ O N n 13 4).bind _ = _
    rw [ls.gJ, lv.1, le_F (by omega) (by omega) (by omega), a_Cal_is w, p0, xcl_e, ls.gR (j := 0) (by decide), ls.aJ (j := 0) (by decide) (by omega) (by omega), kz, show n + 1 + 0 = n + 1 from rfl, g.1, eq_T rfl, a_Cal_is w, p1, xcl_e, ls.gR (j := 1) (by decide), ls.aJ (j := 1) (by decide) (by omega) (by omega), kz, show n + 1 + 1 = n + 2 from rfl, g.2.1, eq_T rfl, a_Cal_is w, p2, xcl_e, ls.gR (j := 2) (by decide), ls.aJ (j := 2) (by decide) (by omega) (by omega), kz, show n + 1 + 2 = n + 3 from rfl, g.2.2.1, xc_of (e_abs (by omega) (by omega))]
    have z := lv_293 (O := O) (f := f) (K := f_Law_isPlanned_218 O f t) (s := smc (fun i => rM (A.getD i 0)) (iV N 131) k + ((iV N 131 k - rM (A.getD k 0)).natAbs : Int)) hh hm l0 l2 hk' hf k f 0 (by omega) (by omega)
    exact z.trans e'
theorem lv_451 {rc : Nat} (h : LWp N m n fd lo hi A v) (hm : m ≤ 12) (l0 : 0 ≤ lo) (l2 : hi ≤ 150000000) (ar : Ar rc A.length N) (hrc : 1044 ≤ rc) (hrn : rc < n ∨ n + 5 ≤ rc) : ∀ (r t k : Nat) (N' : xM), k + r = A.length → r < t → Un (fun a => a ≠ rc) N N' → (∀ i, i < k → iV N' rc i = iV N 131 i) → ∃ t' N'', f_Law_isPlanned_451 O f t 1 n ((ctN (mvB N A) k : Nat) : Int) rc (k : Int) N' = f_Law_isPlanned_451 O f (t' + 1) 1 n ((ctN (mvB N A) A.length : Nat) : Int) rc (A.length : Int) N'' ∧ Un (fun a => a ≠ rc) N N'' ∧ ∀ i, i < A.length → iV N'' rc i = iV N 131 i := by
  have hh := h
  obtain ⟨q, hk0, ls, lv, vp, sv⟩ := h
  obtain ⟨h, a, h4, hn, hr, hg⟩ := q
  intro r
  induction r with
  | zero =>
    intro t k N' hk ht u hv
    obtain ⟨t, rfl⟩ : ∃ n', t = n' + 1 := ⟨t - 1, by omega⟩
    obtain rfl : k = A.length := by omega
    exact ⟨t, N', rfl, u, hv⟩
  | succ r ih =>
    intro t k N' hk ht u hv
    obtain ⟨t, rfl⟩ : ∃ n', t = n' + 1 := ⟨t - 1, by omega⟩
    have kz : ((k : Int)).toNat = k := by omega
    have hk' : k < A.length := by omega
    have w := u.wd h.1.1.1
    have b := a.b h.1 hm (getD_mem hk')
    have gg := hg k hk'
    have u' : Un (fun a => a ≠ rc) N (iS N' rc k (iV N 131 k)) := u.iS (fun z => z rfl)
    have ar' := ar.un u'
    have lsN : LTs n N' := ls.sm u.1
    have lsN' : LTs n (iS N' rc k (iV N 131 k)) := ls.sm u'.1
    have n1 := ls.1
    have p2 := (hh.pa (O := O) (f := f) hm rfl hk' (u.le (fun a (q : a < 1044) => by (try dsimp only); omega))).2.2
    obtain ⟨t', N'', e', z⟩ := ih t (k + 1) (iS N' rc k (iV N 131 k)) (by omega) (by omega) u' (fun i hi' => by
      by_cases z : i = k
      · rw [z, iV_s (by omega) (by omega)]
      · rw [iV_o (Or.inr z)]
        exact hv i (by omega))
    refine ⟨t', N'', ?_, z⟩
    rw [show ((k + 1 : Nat) : Int) = (k : Int) + 1 by omega] at e'
    have ct : ctN (mvB N A) (k + 1) = ctN (mvB N A) k + (if mvB N A k = true then 1 else 0) := rfl
    have g3 : iV (iS N' rc k (iV N 131 k)) (n + 3) k = rM (A.getD k 0) := by
      rw [u'.i (by (try dsimp only); omega)]
      exact (lv.2.2 k hk').2.2.1
    have c4 : iV N' n 4 = A.length := by
      rw [u.i (by (try dsimp only); omega)]
      exact lv.1
    show (gJ O N' n 13 4).bind _ = _
    rw [lsN.gJ, c4, le_F (by omega) (by omega) (by omega), a_Cal_is w, p2, xcl_e, (ar.un u).wJ (by omega) (by omega), kz, ar'.aJ (by omega) (by omega), kz, iV_s (by omega) (by omega), lsN'.gR (j := 2) (by decide), lsN'.aJ (j := 2) (by decide) (by omega) (by omega), kz, show n + 1 + 2 = n + 3 from rfl, g3]
    unfold f_Law_isPlanned_496
    by_cases e : iV N 131 k = rM (A.getD k 0)
    · rw [eq_T e]
      have nb : ¬ mvB N A k = true := fun z => of_decide_eq_true z e
      rw [ct, if_neg nb] at e'
      rw [show ((ctN (mvB N A) k : Nat) : Int) + 0 = ((ctN (mvB N A) k + 0 : Nat) : Int) by omega]
      exact e'
    · rw [eq_F e (by omega) (by omega) (by omega) (by omega)]
      have nb : mvB N A k = true := decide_eq_true e
      rw [ct, if_pos nb] at e'
      rw [show ((ctN (mvB N A) k : Nat) : Int) + 1 = ((ctN (mvB N A) k + 1 : Nat) : Int) by omega]
      exact e'
theorem lv_519 {rc : Nat} {g : Nat → Int} (w : Wd N) (ls : LTs n N) (lv1 : iV N n 4 = A.length) (lv2 : ∀ i, i < A.length → iV N (n + 1) i = rN (A.getD i 0) ∧ iV N (n + 2) i = rD (A.getD i 0)) (h4 : A.length ≤ 4) (ar : Ar rc A.length N) (hg : ∀ i, i < A.length → iV N rc i = g i) (hb : ∀ i, i < A.length → f_Calendarhall_begin O f 1 (rN (A.getD i 0)) (rD (A.getD i 0)) N = some (g i, N)) : ∀ (r t k : Nat), k + r = A.length → r < t → f_Law_isPlanned_519 O f t 1 n rc (k : Int) N = some (1, N) := by
  intro r
  induction r with
  | zero =>
    intro t k hk ht
    obtain ⟨t, rfl⟩ : ∃ n', t = n' + 1 := ⟨t - 1, by omega⟩
    show (gJ O N n 13 4).bind _ = _
    rw [ls.gJ, lv1, le_T (by omega) (by omega) (by omega)]
  | succ r ih =>
    intro t k hk ht
    obtain ⟨t, rfl⟩ : ∃ n', t = n' + 1 := ⟨t - 1, by omega⟩
    have kz : ((k : Int)).toNat = k := by omega
    have hk' : k < A.length := by omega
    have gk := lv2 k hk'
    have q := ih t (k + 1) (by omega) (by omega)
    rw [show ((k + 1 : Nat) : Int) = (k : Int) + 1 by omega] at q
    show (gJ O N n 13 4).bind _ = _
    rw [ls.gJ, lv1, le_F (by omega) (by omega) (by omega), ls.gR (j := 0) (by decide), ls.aJ (j := 0) (by decide) (by omega) (by omega), kz, show n + 1 + 0 = n + 1 from rfl, gk.1, ls.gR (j := 1) (by decide), ls.aJ (j := 1) (by decide) (by omega) (by omega), kz, show n + 1 + 1 = n + 2 from rfl, gk.2, a_Cal_is w, hb k hk', xcl_e, ar.aJ (by omega) (by omega), kz, hg k hk', eq_T rfl]
    exact q
end LPL
end
