/-! draft 672.moved1 -/
section
/-! ===== areMoved: the rows of begins ===== -/
section AM1
variable {O : Nat → Option va_E} {f k T : Nat} {M N : xM} {kk d x v10 : Int} {p q1 q2 : Nat}
theorem bg_rng (hs : SV M k) (hz : Zv M (zk M k)) (d0 : 10 ≤ d) (d1 : d ≤ 146000) : (bg M k d = -1 ∨ 13000 ≤ bg M k d) ∧ bg M k d ≤ 300000000 := by
  have hs' := hs
  obtain ⟨ht, ⟨z0, z1⟩, ⟨m0, m1⟩, -, -, -, ⟨e0, e1⟩, hx, -⟩ := hs'
  have hz' := hz
  obtain ⟨o0, o1, s0, s1, -, -⟩ := hz'
  unfold bg
  by_cases g : exO M k d = -1
  · have := C0_r (d := d) hs hz
    rw [if_pos g]
    show (C0 M k d = -1 ∨ 13000 ≤ C0 M k d) ∧ C0 M k d ≤ _
    omega
  · rw [if_neg g]
    by_cases g2 : iV M (32 + 6 * k) (exO M k d).toNat = -1
    · rw [if_pos g2]
      omega
    · have q := exO_r e0 g
      have := (hx (exO M k d).toNat (by omega)).2
      have c := com_r (l := iV M (32 + 6 * k) (exO M k d).toNat) hz
      rw [if_neg g2]
      omega
/-- a series that the law asks: its days in a row -/
def AQ (M : xM) (k T : Nat) (p : Nat) : Prop := Wd M ∧ SV M k ∧ (∀ z, z < 3 → Zv M z) ∧ RVg (iV M (30 + 6 * k)) ∧ inM M p ∧ mS M p = .inr (0, 800) ∧ 1044 ≤ p ∧ T ≤ 800 ∧ ∀ i : Nat, i < T → Dg (iV M (30 + 6 * k)) (iV M p i)
theorem AQ.zz (h : AQ M k T p) : Zv M (zk M k) := h.2.2.1 _ (by have := h.2.1.2.1; unfold zk; omega)
theorem AQ.un {P : Nat → Prop} (h : AQ M k T p) (hk : k < 12) (u : Un P M N) (h1 : ∀ a, 12 ≤ a → a < 116 → P a) (h2 : P p) : AQ N k T p := by
  obtain ⟨w, sv, zv, rv, ip, sp, p0, t8, dg⟩ := h
  have e30 : iV N (30 + 6 * k) = iV M (30 + 6 * k) := funext (fun j => u.i (h1 _ (by omega) (by omega)))
  have ep : iV N p = iV M p := funext (fun j => u.i h2)
  refine ⟨u.wd w, sv.of (fun a j a0 a1 => u.i (h1 a (by omega) (by omega))), fun z hz => (zv z hz).of (fun a j a0 a1 => u.i (h1 a (by omega) (by omega))), by rw [e30]; exact rv, u.1.inM ip, by rw [u.1.s]; exact sp, p0, t8, fun i hi => ?_⟩
  rw [e30, ep]
  exact dg i hi
theorem AQ.day (h : AQ M k T p) {i : Nat} (hi : i < T) : 10 ≤ iV M p i ∧ iV M p i ≤ 146000 := by
  have d := h.2.2.2.2.2.2.2.2 i hi
  have r := h.2.2.2.1
  have f0 := r.1
  have l := r.2.2.2.2.2.2.2.2.1
  have := d.1
  have := d.2.1
  omega
theorem AQ.bgn (h : AQ M k T p) (hkk : kk = (k : Int)) (hk : k < 12) (hf : 10000 ≤ f) {i : Nat} (hi : i < T) : f_Calendarhall_begin O f 1 kk (iV M p i) M = some (bg M k (iV M p i), M) := e_begin h.1 hkk hk h.2.1 h.zz (nxG hk h.2.2.2.1 hf) (h.2.2.2.2.2.2.2.2 i hi) (by omega)
theorem am_9 (hkk : kk = (k : Int)) (hk : k < 12) (hf : 10000 ≤ f) (hq : 1044 ≤ q1) (hpq : p ≠ q1) : ∀ (r t v : Nat) (M : xM), AQ M k T p → Ar q1 T M → v + r = T → r < t → (∀ i, i < v → iV M q1 i = bg M k (iV M p i)) → ∃ N, f_Law_areMoved_9 O f t 1 0 kk p (T : Int) x q1 (v : Int) M = (xcl (nAJ N 0 (T : Int)) fun x1 M1 => f_Law_areMoved_45 O f f 1 0 kk p (T : Int) x q1 x1 0 M1) ∧ Un (fun a => a ≠ q1) M N ∧ ∀ i, i < T → iV N q1 i = bg M k (iV M p i) := by
  intro r
  induction r with
  | zero =>
    intro t v M h a hv ht g
    obtain ⟨t, rfl⟩ : ∃ n', t = n' + 1 := ⟨t - 1, by omega⟩
    refine ⟨M, ?_, Un.rf, fun i hi => g i (by omega)⟩
    show (if yw (T : Int) ≤ yw (v : Int) then _ else _) = _
    rw [le_T (by omega) (by omega) (by have := h.2.2.2.2.2.2.2.1; omega)]
  | succ r ih =>
    intro t v M h a hv ht g
    obtain ⟨t, rfl⟩ : ∃ n', t = n' + 1 := ⟨t - 1, by omega⟩
    have t8 := h.2.2.2.2.2.2.2.1
    have vd : ((v : Int)).toNat = v := by omega
    have dv := h.day (i := v) (by omega)
    have br := bg_rng h.2.1 h.zz dv.1 dv.2
    obtain ⟨L, eL⟩ : ∃ L, L = iS M q1 v (bg M k (iV M p v)) := ⟨_, rfl⟩
    have uL : Un (fun a => a ≠ q1) M L := by rw [eL]; exact Un.rf.iS (by (try dsimp only); omega)
    have z1 : iV M (29 + 6 * k) 1 < 3 := h.2.1.2.1.2
    have bL : ∀ e, bg L k e = bg M k e := fun e => bg_of hk z1 (fun b j h1 h2 => uL.i (by (try dsimp only); omega))
    have pL : ∀ j, iV L p j = iV M p j := fun j => uL.i hpq
    obtain ⟨N, eN, uN, gN⟩ := ih t (v + 1) L (h.un hk uL (fun a a0 a1 => by (try dsimp only); omega) hpq) (a.un uL) (by omega) (by omega) (fun i hi => by
      rw [bL, pL, eL]
      by_cases c : i = v
      · rw [c, iV_s (by omega) (by omega)]
      · rw [iV_o (by omega)]
        exact g i (by omega))
    refine ⟨N, ?_, uL.tr uN, fun i hi => by rw [gN i hi, bL, pL]⟩
    rw [show ((v + 1 : Nat) : Int) = (v : Int) + 1 by omega] at eN
    rw [← eN]
    show (if yw (T : Int) ≤ yw (v : Int) then _ else _) = _
    have wj := a.wJ (ix := (v : Int)) (x := bg M k (iV M p v)) (by omega) (by omega) (γ := Int × xM) (A := fun M3 => f_Law_areMoved_9 O f t 1 0 kk p (T : Int) x q1 ((v : Int) + 1) M3)
    rw [vd, ← eL] at wj
    rw [le_F (by omega) (by omega) (by omega), z_aJ h.2.2.2.2.1 h.2.2.2.2.2.1 (by omega) (by omega) (by omega), vd, a_Cal_is h.1, h.bgn hkk hk hf (by omega), xcl_e, wj]
theorem am_45 (hf : 10000 ≤ f) (t8 : T ≤ 800) (h12 : q1 ≠ q2) : ∀ (r t v : Nat) (M : xM), Ar q1 T M → Ar q2 T M → v + r = T → r < t → (∀ i, i < v → iV M q2 i = iV M q1 i) → ∃ N, f_Law_areMoved_45 O f t 1 0 kk p (T : Int) x q1 q2 (v : Int) M = ((isO O N 0 15).bind fun _ => xcl (f_LDraw_n O f 0 4 N) fun x1 M1 => xcl (f_Math_min O f (T : Int) (1 + x1) M1) fun x2 M2 => f_Law_areMoved_85 O f f 1 0 kk p (T : Int) x q1 q2 x2 0 M2) ∧ Un (fun a => a ≠ q2) M N ∧ ∀ i, i < T → iV N q2 i = iV M q1 i := by
  intro r
  induction r with
  | zero =>
    intro t v M a1 a2 hv ht g
    obtain ⟨t, rfl⟩ : ∃ n', t = n' + 1 := ⟨t - 1, by omega⟩
    refine ⟨M, ?_, Un.rf, fun i hi => g i (by omega)⟩
    show (if yw (T : Int) ≤ yw (v : Int) then _ else _) = _
    rw [le_T (by omega) (by omega) (by omega)]
  | succ r ih =>
    intro t v M a1 a2 hv ht g
    obtain ⟨t, rfl⟩ : ∃ n', t = n' + 1 := ⟨t - 1, by omega⟩
    have vd : ((v : Int)).toNat = v := by omega
    have r1 := iV_r M q1 v
    obtain ⟨L, eL⟩ : ∃ L, L = iS M q2 v (iV M q1 v) := ⟨_, rfl⟩
    have uL : Un (fun a => a ≠ q2) M L := by rw [eL]; exact Un.rf.iS (by (try dsimp only); omega)
    have pL : ∀ j, iV L q1 j = iV M q1 j := fun j => uL.i h12
    obtain ⟨N, eN, uN, gN⟩ := ih t (v + 1) L (a1.un uL) (a2.un uL) (by omega) (by omega) (fun i hi => by
      rw [pL, eL]
      by_cases c : i = v
      · rw [c, iV_sv]
      · rw [iV_o (by omega)]
        exact g i (by omega))
    refine ⟨N, ?_, uL.tr uN, fun i hi => by rw [gN i hi, pL]⟩
    rw [show ((v + 1 : Nat) : Int) = (v : Int) + 1 by omega] at eN
    rw [← eN]
    show (if yw (T : Int) ≤ yw (v : Int) then _ else _) = _
    have wj := a2.wJ (ix := (v : Int)) (x := iV M q1 v) (by omega) (by omega) (γ := Int × xM) (A := fun M3 => f_Law_areMoved_45 O f t 1 0 kk p (T : Int) x q1 q2 ((v : Int) + 1) M3)
    rw [vd, ← eL] at wj
    rw [le_F (by omega) (by omega) (by omega), a1.aJ (by omega) (by omega), vd, wj]
/-- all begins are asked for anew -/
theorem am_161 {K : Nat → Nat → Int → Nat → Int → Int → Nat → Nat → Int → Int → xM → Option (Int × xM)} {v8 v9 : Int} (hkk : kk = (k : Int)) (hk : k < 12) (hf : 10000 ≤ f) (h : AQ M k T p) (a : Ar q2 T M) (g : ∀ i, i < T → iV M q2 i = bg M k (iV M p i)) : ∀ (r t v : Nat), v + r = T → r < t → f_Law_areMoved_161 O f K t 1 0 kk p (T : Int) x q1 q2 v8 v9 (v : Int) M = K 1 0 kk p (T : Int) x q1 q2 v8 (v9 + 1) M := by
  intro r
  have t8 := h.2.2.2.2.2.2.2.1
  induction r with
  | zero =>
    intro t v hv ht
    obtain ⟨t, rfl⟩ : ∃ n', t = n' + 1 := ⟨t - 1, by omega⟩
    show (if yw (T : Int) ≤ yw (v : Int) then _ else _) = _
    rw [le_T (by omega) (by omega) (by omega)]
  | succ r ih =>
    intro t v hv ht
    obtain ⟨t, rfl⟩ : ∃ n', t = n' + 1 := ⟨t - 1, by omega⟩
    have vd : ((v : Int)).toNat = v := by omega
    have e := ih t (v + 1) (by omega) (by omega)
    rw [show ((v + 1 : Nat) : Int) = (v : Int) + 1 by omega] at e
    rw [← e]
    show (if yw (T : Int) ≤ yw (v : Int) then _ else _) = _
    rw [le_F (by omega) (by omega) (by omega), z_aJ h.2.2.2.2.1 h.2.2.2.2.2.1 (by omega) (by omega) (by omega), vd, a_Cal_is h.1, h.bgn hkk hk hf (by omega), xcl_e, a.aJ (by omega) (by omega), vd, g v (by omega), eq_T rfl]
theorem am_375 (hkk : kk = (k : Int)) (hk : k < 12) (hf : 10000 ≤ f) (h : AQ M k T p) (a : Ar q1 T M) (g : ∀ i, i < T → iV M q1 i = bg M k (iV M p i)) : ∀ (r t v : Nat), v + r = T → r < t → f_Law_areMoved_375 O f t 1 kk p (T : Int) q1 (v : Int) M = some (1, M) := by
  intro r
  have t8 := h.2.2.2.2.2.2.2.1
  induction r with
  | zero =>
    intro t v hv ht
    obtain ⟨t, rfl⟩ : ∃ n', t = n' + 1 := ⟨t - 1, by omega⟩
    show (if yw (T : Int) ≤ yw (v : Int) then _ else _) = _
    rw [le_T (by omega) (by omega) (by omega)]
  | succ r ih =>
    intro t v hv ht
    obtain ⟨t, rfl⟩ : ∃ n', t = n' + 1 := ⟨t - 1, by omega⟩
    have vd : ((v : Int)).toNat = v := by omega
    have e := ih t (v + 1) (by omega) (by omega)
    rw [show ((v + 1 : Nat) : Int) = (v : Int) + 1 by omega] at e
    rw [← e]
    show (if yw (T : Int) ≤ yw (v : Int) then _ else _) = _
    rw [le_F (by omega) (by omega) (by omega), z_aJ h.2.2.2.2.1 h.2.2.2.2.2.1 (by omega) (by omega) (by omega), vd, a_Cal_is h.1, h.bgn hkk hk hf (by omega), xcl_e, a.aJ (by omega) (by omega), vd, g v (by omega), eq_T rfl]
end AM1
end
/-! draft 673.moved2 -/
section
/-! ===== areMoved: the moves ===== -/
/-- after so many moves -/
def MVJ (M0 M : xM) (k T p q1 q2 c : Nat) (lim : Int) : Prop := Bs M ∧ AQ M k T p ∧ EXd M k ∧ iV M (29 + 6 * k) 7 ≤ c ∧ Ar q2 T M ∧ (∀ i, i < T → iV M q2 i = bg M k (iV M p i)) ∧ (∀ j, iV M (30 + 6 * k) j = iV M0 (30 + 6 * k) j) ∧ Un (fun a => a = p ∨ a = q1 ∨ (1044 ≤ a ∧ a ≠ q2) ∨ (12 ≤ a ∧ a < 21)) M0 M ∧ (∀ e, lim < e → bg M k e = bg M0 k e) ∧ ∃ F, UD M c F ∧ (c = 0 → ∀ a j, 2 ≤ a → a < 115 → iV M a j = iV M0 a j) ∧ (0 < c → ∀ a j, 2 ≤ a → a < 115 → iV (F (c - 1)) a j = iV M0 a j)
section AM2
variable {O : Nat → Option va_E} {f k T : Nat} {M M0 N : xM} {kk d x v8 lim : Int} {p q1 q2 : Nat}
/-- one move more -/
theorem mvj_step {M7 : xM} {c i : Nat} {b : Int} {F : Nat → xM} (hk : k < 12) (hp2 : p ≠ q2) (h12 : q1 ≠ q2) (hq : 1044 ≤ q2) (hq1 : 1044 ≤ q1) (h : MVJ M0 M k T p q1 q2 c lim) (inj : ∀ i j, i < T → j < T → iV M0 p i = iV M0 p j → i = j) (hl : ∀ i, i < T → iV M0 p i ≤ lim) (hi : i < T) (A : xM) (uA : Un (fun a => a ≠ 0) M A) (bo : Bs M7) (ud : UD M7 (c + 1) (psh A F)) (hF : UD M c F ∧ (c = 0 → ∀ a j, 2 ≤ a → a < 115 → iV M a j = iV M0 a j) ∧ (0 < c → ∀ a j, 2 ≤ a → a < 115 → iV (F (c - 1)) a j = iV M0 a j)) (ex : EXo A M7 k (iV M p i) b) (b0 : -2147483648 ≤ b) (b1 : b ≤ 2147483647) : MVJ M0 (iS M7 q2 i b) k T p q1 q2 (c + 1) lim := by
  obtain ⟨h1, h2, h3, h4, h5, h6, h7, h8, h9, -⟩ := h
  obtain ⟨x1, x2, x3, x4, x5, x6, x7, x8⟩ := ex
  have uM7 : Un (fun a => (1044 ≤ a) ∨ (1 < a ∧ a < 140 ∧ a ≠ 29 + 6 * k ∧ a ≠ 31 + 6 * k ∧ a ≠ 32 + 6 * k)) M M7 := (uA.le (fun a q => by (try dsimp only at q ⊢); omega)).tr (x8.le (fun a q => by (try dsimp only at q ⊢); omega))
  have iA : ∀ a j, a ≠ 0 → iV A a j = iV M a j := fun a j ha => uA.i ha
  have zA : iV A (29 + 6 * k) 1 < 3 := by rw [iA _ _ (by omega)]; exact h2.2.1.2.1.2
  have zM : iV M (29 + 6 * k) 1 < 3 := h2.2.1.2.1.2
  have bA : ∀ e, bg A k e = bg M k e := fun e => bg_of hk zM (fun b j a0 a1 => iA b j (by omega))
  obtain ⟨L, eL⟩ : ∃ L, L = iS M7 q2 i b := ⟨_, rfl⟩
  have uL : Un (fun a => a ≠ q2) M7 L := by rw [eL]; exact Un.rf.iS (by (try dsimp only); omega)
  have z7 : iV M7 (29 + 6 * k) 1 < 3 := by rw [x4 1 (by decide)]; exact zA
  have bL : ∀ e, bg L k e = bg M7 k e := fun e => bg_of hk z7 (fun b j a0 a1 => uL.i (by (try dsimp only); omega))
  have p0 := h2.2.2.2.2.2.2.1
  have e30 : ∀ j, iV M7 (30 + 6 * k) j = iV M (30 + 6 * k) j := fun j => uM7.i (by (try dsimp only); omega)
  have em : iV M7 (30 + 6 * k) = iV M (30 + 6 * k) := funext e30
  have ep : ∀ j, iV M7 p j = iV M p j := fun j => uM7.i (by (try dsimp only); omega)
  have epm : iV M7 p = iV M p := funext ep
  have eq0 : ∀ j, iV M p j = iV M0 p j := fun j => h8.i (by (try dsimp only); omega)
  have aq7 : AQ M7 k T p := by
    obtain ⟨w, sv, zv, rv, ip, sp, pp, t8, dg⟩ := h2
    refine ⟨bo.1, x1, fun z hz => (zv z hz).of (fun a j a0 a1 => uM7.i (by (try dsimp only); omega)), by rw [em]; exact rv, uM7.1.inM ip, by rw [uM7.1.s]; exact sp, pp, t8, fun i hi => ?_⟩
    rw [em, epm]
    exact dg i hi
  rw [← eL]
  refine ⟨bo.un uL (by (try dsimp only); omega) (fun j hj => by (try dsimp only); omega), aq7.un hk uL (fun a a0 a1 => by (try dsimp only); omega) hp2, ?_, ?_, (h5.un uM7).un uL, fun j hj => ?_, fun j => ?_, ?_, fun e he => ?_, psh A F, ud.un uL (by (try dsimp only); omega) (fun a a0 a1 => by (try dsimp only); omega), fun z => absurd z (by omega), fun _ a j a0 a1 => ?_⟩
  · intro j hj
    rw [uL.i (by (try dsimp only); omega)] at hj
    rw [uL.i (by (try dsimp only); omega), show iV L (30 + 6 * k) = iV M7 (30 + 6 * k) from funext (fun j => uL.i (by (try dsimp only); omega))]
    exact x2 j hj
  · rw [uL.i (by (try dsimp only); omega)]
    rw [iA _ _ (by omega)] at x5
    omega
  · rw [bL, uL.i hp2, ep]
    by_cases c : j = i
    · rw [c, eL, iV_s b0 b1, x6]
    · rw [eL, iV_o (by omega), x7 _ (fun z => c (inj j i hj hi (by rw [← eq0, ← eq0]; exact z))), bA, uM7.i (by (try dsimp only); omega)]
      exact h6 j hj
  · rw [uL.i (by (try dsimp only); omega), e30]
    exact h7 j
  · exact h8.tr ((uM7.le (fun a q => by (try dsimp only at q ⊢); omega)).tr (uL.le (fun a q => by (try dsimp only at q ⊢); omega)))
  · rw [bL, x7 e (fun z => by
      have := hl i hi
      rw [eq0] at z
      omega), bA]
    exact h9 e he
  · by_cases z : c = 0
    · rw [z]
      show iV (psh A F 0) a j = _
      rw [show psh A F 0 = A from if_pos rfl, iA _ _ (by omega)]
      exact hF.2.1 z a j a0 a1
    · rw [show c + 1 - 1 = c by omega, show psh A F c = F (c - 1) from if_neg z]
      exact hF.2.2 (by omega) a j a0 a1
end AM2
end
/-! draft 674.moved3 -/
section
/-! ===== areMoved: up to four moves ===== -/
section AM3
variable {O : Nat → Option va_E} {f k T : Nat} {M M0 N : xM} {kk d x v8 lim : Int} {p q1 q2 : Nat}
theorem am_85 (hkk : kk = (k : Int)) (hk : k < 12) (hf : 10000 ≤ f) (T1 : 1 ≤ T) (hp1 : p ≠ q1) (hp2 : p ≠ q2) (h12 : q1 ≠ q2) (hq : 1044 ≤ q2) (hq1 : 1044 ≤ q1) (h4 : v8 ≤ 4) (inj : ∀ i j, i < T → j < T → iV M0 p i = iV M0 p j → i = j) (hl : ∀ i, i < T → iV M0 p i ≤ lim) (l4 : lim ≤ 100000) : ∀ (r t c : Nat) (M : xM), MVJ M0 M k T p q1 q2 c lim → (c : Int) + r = v8 → r < t → ∃ t' N, f_Law_areMoved_85 O f t 1 0 kk p (T : Int) x q1 q2 v8 (c : Int) M = f_Law_areMoved_85 O f (t' + 1) 1 0 kk p (T : Int) x q1 q2 v8 v8 N ∧ MVJ M0 N k T p q1 q2 v8.toNat lim ∧ Un (fun a => a = p ∨ a = q1 ∨ (1044 ≤ a ∧ a ≠ q2)) M N := by
  intro r
  induction r with
  | zero =>
    intro t c M h hc ht
    obtain ⟨t, rfl⟩ : ∃ n', t = n' + 1 := ⟨t - 1, by omega⟩
    refine ⟨t, M, by rw [show (c : Int) = v8 by omega], by rw [show v8.toNat = c by omega]; exact h, Un.rf⟩
  | succ r ih =>
    intro t c M h hc ht
    obtain ⟨t, rfl⟩ : ∃ n', t = n' + 1 := ⟨t - 1, by omega⟩
    have h' := h
    obtain ⟨h1, h2, h3, h4', h5, h6, h7, h8, h9, F, hF1, hF2, hF3⟩ := h'
    have t8 := h2.2.2.2.2.2.2.2.1
    have p0 := h2.2.2.2.2.2.2.1
    obtain ⟨y, M3, e3, y0, y1, w3, u3, i3⟩ := dn_ok (O := O) (f := f) (m := (T : Int)) h1.1 (by omega) (by omega)
    obtain ⟨b, M4, e4, hb, w4, u4, i4⟩ := di_ok (O := O) (f := f) (m := 3) w3 (by omega) (by omega)
    have yi : y.toNat < T := by omega
    -- a drawing more keeps all
    have keep : ∀ A : xM, Un (fun a => a ≠ 0) M A → Bs A ∧ AQ A k T p ∧ EXd A k ∧ iV A (29 + 6 * k) 7 ≤ 9 ∧ UD A c F := fun A u => by
      refine ⟨h1.un u (by (try dsimp only); omega) (fun j hj => by (try dsimp only); omega), h2.un hk u (fun a a0 a1 => by (try dsimp only); omega) (by (try dsimp only); omega), fun i hi => ?_, ?_, hF1.un u (by (try dsimp only); omega) (fun a a0 a1 => by (try dsimp only); omega)⟩
      · rw [u.i (by (try dsimp only); omega)] at hi
        rw [u.i (by (try dsimp only); omega), show iV A (30 + 6 * k) = iV M (30 + 6 * k) from funext (fun j => u.i (by (try dsimp only); omega))]
        exact h3 i hi
      · rw [u.i (by (try dsimp only); omega)]
        omega
    -- behind a move
    have fin : ∀ (A M7 : xM) (w : Int), Un (fun a => a ≠ 0) M A → Bs M7 → UD M7 (c + 1) (psh A F) → EXo A M7 k (iV M p y.toNat) w → -2147483648 ≤ w → w ≤ 2147483647 → ∃ t' N, ((wJ M7 q2 y w).bind fun M8 => f_Law_areMoved_158 O f (f_Law_areMoved_85 O f t) 1 0 kk p (T : Int) x q1 q2 v8 (c : Int) M8) = f_Law_areMoved_85 O f (t' + 1) 1 0 kk p (T : Int) x q1 q2 v8 v8 N ∧ MVJ M0 N k T p q1 q2 v8.toNat lim ∧ Un (fun a => a = p ∨ a = q1 ∨ (1044 ≤ a ∧ a ≠ q2)) M N := by
      intro A M7 w uA bo ud ex w0 w1
      have ms := mvj_step hk hp2 h12 hq hq1 h inj hl yi A uA bo ud ⟨hF1, hF2, hF3⟩ ex w0 w1
      obtain ⟨t', N, eN, jN, uN⟩ := ih t (c + 1) (iS M7 q2 y.toNat w) ms (by omega) (by omega)
      have u7 := ex.2.2.2.2.2.2.2
      refine ⟨t', N, ?_, jN, ?_⟩
      · have a7 : Ar q2 T M7 := (h5.un uA).un u7
        rw [a7.wJ (by omega) (by omega)]
        have e161 := am_161 (O := O) (x := x) (K := f_Law_areMoved_85 O f t) (q1 := q1) (v8 := v8) (v9 := (c : Int)) hkk hk hf ms.2.1 ms.2.2.2.2.1 ms.2.2.2.2.2.1 T f 0 (by omega) (by omega)
        rw [show ((0 : Nat) : Int) = 0 from rfl] at e161
        unfold f_Law_areMoved_158
        rw [e161, ← eN, show ((c + 1 : Nat) : Int) = (c : Int) + 1 by omega]
      · exact ((uA.le (fun a q => by (try dsimp only at q ⊢); omega)).tr ((u7.le (fun a q => by (try dsimp only at q ⊢); omega)).iS (by (try dsimp only); omega))).tr uN
    show ∃ t' N, (if yw v8 ≤ yw (c : Int) then _ else _) = _ ∧ _
    rw [le_F (by omega) (by omega) (by omega), h1.1.is (k := 0) (ci := 15) (by decide) (by decide), e3, xcl_e, w3.is (k := 0) (ci := 15) (by decide) (by decide), e4, xcl_e]
    have uM4 : Un (fun a => a ≠ 0) M M4 := u3.tr u4
    have ip4 := uM4.1.inM h2.2.2.2.2.1
    have sp4 : mS M4 p = .inr (0, 800) := by rw [uM4.1.s]; exact h2.2.2.2.2.2.1
    have v4 : iV M4 p y.toNat = iV M p y.toNat := by rw [i4, i3]
    have dy := h2.day (i := y.toNat) yi
    have dD := h2.2.2.2.2.2.2.2.2 y.toNat yi
    have dl := hl y.toNat yi
    have eq0 : ∀ j, iV M p j = iV M0 p j := fun j => h8.i (by (try dsimp only); omega)
    rw [← eq0] at dl
    rcases hb with rfl | rfl
    · obtain ⟨y5, M5, e5, y50, y51, w5, u5, i5⟩ := dn_ok (O := O) (f := f) (m := 5) w4 (by omega) (by omega)
      obtain ⟨y6, M6, e6, y60, y61, w6, u6, i6⟩ := dn_ok (O := O) (f := f) (m := 1440) w5 (by omega) (by omega)
      have uM6 : Un (fun a => a ≠ 0) M M6 := (uM4.tr u5).tr u6
      obtain ⟨b6, q6, x6, n6, d6⟩ := keep M6 uM6
      have em6 : iV M6 (30 + 6 * k) = iV M (30 + 6 * k) := funext (fun j => uM6.i (by (try dsimp only); omega))
      obtain ⟨M7, e7, b7, ud7, ex7⟩ := move2_ok (O := O) (f := f) (d := iV M p y.toNat) (td := iV M p y.toNat + y5) (tm := y6) b6 d6 (by omega) hkk hk q6.2.1 q6.zz q6.2.2.2.1 x6 n6 (by rw [em6]; exact dD) (by omega) (by omega) (by omega) (by omega) hf
      have cr := com_r (l := (iV M p y.toNat + y5) * 1440 + y6) q6.zz
      rw [eq_T rfl, z_aJ ip4 sp4 (by omega) (by omega) (by omega), z_aJ ip4 sp4 (by omega) (by omega) (by omega), v4, w4.is (k := 0) (ci := 15) (by decide) (by decide), e5, xcl_e, w5.is (k := 0) (ci := 15) (by decide) (by decide), e6, xcl_e, a_Cal_is w6, e7, xcl_e]
      exact fin M6 M7 _ uM6 b7 ud7 ex7 (by omega) (by omega)
    · obtain ⟨b6, q6, x6, n6, d6⟩ := keep M4 uM4
      have em6 : iV M4 (30 + 6 * k) = iV M (30 + 6 * k) := funext (fun j => uM4.i (by (try dsimp only); omega))
      obtain ⟨M7, z, e7, b7, ud7, ex7⟩ := leave2_ok (O := O) (f := f) (d := iV M p y.toNat) b6 d6 (by omega) hkk hk q6.2.1 q6.2.2.2.1 x6 n6 (by rw [em6]; exact dD) hf
      rw [eq_F (by omega) (by omega) (by omega) (by omega) (by omega), z_aJ ip4 sp4 (by omega) (by omega) (by omega), v4, a_Cal_is w4, e7, xcl_e]
      exact fin M4 M7 _ uM4 b7 ud7 ex7 (by omega) (by omega)
end AM3
end
/-! draft 675.moved4 -/
section
/-! ===== areMoved: dates counted against the row ===== -/
section AM4
variable {O : Nat → Option va_E} {f k T : Nat} {M N : xM} {kk d x a v10 u w : Int} {p q1 q2 : Nat} {A : Nat → Int} {D W : Int → Prop}
theorem dy_mono {n i j : Nat} (h : dyL A D a n v10) (hi : i < j) (hj : j < n) : A i < A j := by
  obtain ⟨a1, a2, a3, a4⟩ := h i (by omega)
  obtain ⟨b1, b2, b3, b4⟩ := h j hj
  by_cases g : A i < A j
  · exact g
  · have := nD_mono (P := D) (a := a) (b := A j) (c := A i) (by omega) (by omega)
    omega
theorem dy_inj {n i j : Nat} (h : dyL A D a n v10) (hi : i < n) (hj : j < n) (e : A i = A j) : i = j := by
  rcases Nat.lt_trichotomy i j with g | g | g
  · have := dy_mono h g hj
    omega
  · exact g
  · have := dy_mono h g hi
    omega
theorem dy_mem (h : dyL A D a (nD D a v10) v10) (hd : D d) (h0 : a ≤ d) (h1 : d ≤ v10) : ∃ i, i < nD D a v10 ∧ A i = d ∧ i + 1 = nD D a d := by
  have q := (nD_last (P := D) (a := a) (b := d) h0).1 hd
  have m := nD_mono (P := D) (a := a) (b := d) (c := v10) (by omega) h1
  obtain ⟨a1, a2, a3, a4⟩ := h (nD D a d - 1) (by omega)
  exact ⟨nD D a d - 1, by omega, nD_inj a1 h0 a3 hd (by omega), by omega⟩
theorem dy_count (h : dyL A D a (nD D a v10) v10) : ∀ (n : Nat) (d : Int), d = a - 1 + n → d ≤ v10 → nD (fun e => D e ∧ W e) a d = ctN (fun i => bB (W (A i))) (nD D a d) := by
  intro n
  induction n with
  | zero =>
    intro d e _
    rw [nD_e (by omega), nD_e (by omega)]
    rfl
  | succ n ih =>
    intro d e hd
    have q := ih (d - 1) (by omega) (by omega)
    have lD := nD_last (P := D) (a := a) (b := d) (by omega)
    have lW := nD_last (P := fun e => D e ∧ W e) (a := a) (b := d) (by omega)
    by_cases g : D d
    · obtain ⟨i, i1, i2, i3⟩ := dy_mem h g (by omega) hd
      rw [lD.1 g] at i3 ⊢
      have st : ctN (fun i => bB (W (A i))) (nD D a (d - 1) + 1) = ctN (fun i => bB (W (A i))) (nD D a (d - 1)) + (if bB (W (A (nD D a (d - 1)))) = true then 1 else 0) := rfl
      rw [st, ← q, show nD D a (d - 1) = i by omega, i2]
      by_cases g2 : W d
      · rw [if_pos (bB_iff.mpr g2), lW.1 ⟨g, g2⟩]
      · rw [if_neg (fun z => g2 (bB_iff.mp z)), lW.2 (fun z => g2 z.2)]
        rfl
    · rw [lD.2 g, lW.2 (fun z => g z.1), q]
/-- the best so far -/
def btI (g : Nat → Int) (u w : Int) (v : Nat) (b : Int) : Prop := (b = -1 ∧ ∀ i, i < v → ¬ (u ≤ g i ∧ g i < w)) ∨ ∃ n : Nat, b = n ∧ n < v ∧ (u ≤ g n ∧ g n < w) ∧ ∀ i, i < v → (u ≤ g i ∧ g i < w) → g n < g i ∨ (g n = g i ∧ n ≤ i)
theorem am_246 {v8 : Int} {G : Nat → Int} {R : Option (Int × xM)} (aq : Ar q2 T M) (t8 : T ≤ 800) (g : ∀ i, i < T → iV M q2 i = G i) (gr : ∀ i, i < T → -1000 ≤ G i ∧ G i ≤ 1000000000) (u0 : 0 ≤ u) (u1 : u ≤ 1000000000) (w0 : -1000000 ≤ w) (w1 : w ≤ 1000000000) (fin : ∀ b, btI G u w T b → (if yw w ≤ yw u then f_Law_areMoved_329 O f 1 kk p (T : Int) q1 v8 u b M else ((isO O M 1 12).bind fun _ => xcl (f_Calendarhall_countDates O f 1 kk u w M) fun x1 M1 => if yw ((ctN (fun i => bB (u ≤ G i ∧ G i < w)) T : Nat) : Int) = yw x1 then f_Law_areMoved_329 O f 1 kk p (T : Int) q1 v8 u b M1 else some (0, M1))) = R) : ∀ (r t v : Nat) (b : Int), v + r = T → r < t → btI G u w v b → f_Law_areMoved_246 O f t 1 kk p (T : Int) q1 q2 v8 u w ((ctN (fun i => bB (u ≤ G i ∧ G i < w)) v : Nat) : Int) b (v : Int) M = R := by
  intro r
  induction r with
  | zero =>
    intro t v b hv ht hb
    obtain ⟨t, rfl⟩ : ∃ n', t = n' + 1 := ⟨t - 1, by omega⟩
    have e : v = T := by omega
    rw [e] at hb
    rw [← fin b hb, e]
    show (if yw (T : Int) ≤ yw (T : Int) then _ else _) = _
    rw [le_T (by omega) (by omega) (by omega)]
  | succ r ih =>
    intro t v b hv ht hb
    obtain ⟨t, rfl⟩ : ∃ n', t = n' + 1 := ⟨t - 1, by omega⟩
    have vd : ((v : Int)).toNat = v := by omega
    have gv := g v (by omega)
    have rv := gr v (by omega)
    have rd : ∀ {B : Int → Option (Int × xM)}, (aJ O M q2 (v : Int)).bind B = B (G v) := fun {B} => by rw [aq.aJ (by omega) (by omega), vd, gv]
    have st : ctN (fun i => bB (u ≤ G i ∧ G i < w)) (v + 1) = ctN (fun i => bB (u ≤ G i ∧ G i < w)) v + (if bB (u ≤ G v ∧ G v < w) = true then 1 else 0) := rfl
    -- not in the window
    have no : ¬ (u ≤ G v ∧ G v < w) → f_Law_areMoved_246 O f t 1 kk p (T : Int) q1 q2 v8 u w ((ctN (fun i => bB (u ≤ G i ∧ G i < w)) v : Nat) : Int) b ((v : Int) + 1) M = R := fun hn => by
      have q := ih t (v + 1) b (by omega) (by omega) (by
        rcases hb with ⟨h1, h2⟩ | ⟨n, h1, h2, h3, h4⟩
        · exact Or.inl ⟨h1, fun i hi => by
            by_cases c : i = v
            · rw [c]
              exact hn
            · exact h2 i (by omega)⟩
        · exact Or.inr ⟨n, h1, by omega, h3, fun i hi hw => by
            by_cases c : i = v
            · rw [c] at hw
              exact (hn hw).elim
            · exact h4 i (by omega) hw⟩)
      rw [st, if_neg (fun z => hn (bB_iff.mp z)), Nat.add_zero, show ((v + 1 : Nat) : Int) = (v : Int) + 1 by omega] at q
      exact q
    show (if yw (T : Int) ≤ yw (v : Int) then _ else _) = _
    rw [le_F (by omega) (by omega) (by omega), rd]
    by_cases c1 : G v < u
    · rw [lt_T c1 (by omega) (by omega)]
      exact no (fun z => by omega)
    rw [lt_F (by omega) (by omega) (by omega), rd]
    by_cases c2 : G v < w
    · have hin : u ≤ G v ∧ G v < w := ⟨by omega, c2⟩
      have nxt : ∀ b2, btI G u w (v + 1) b2 → f_Law_areMoved_246 O f t 1 kk p (T : Int) q1 q2 v8 u w (((ctN (fun i => bB (u ≤ G i ∧ G i < w)) v : Nat) : Int) + 1) b2 ((v : Int) + 1) M = R := fun b2 h2 => by
        have q := ih t (v + 1) b2 (by omega) (by omega) h2
        rw [st, if_pos (bB_iff.mpr hin), show ((v + 1 : Nat) : Int) = (v : Int) + 1 by omega, show (((ctN (fun i => bB (u ≤ G i ∧ G i < w)) v + 1 : Nat)) : Int) = ((ctN (fun i => bB (u ≤ G i ∧ G i < w)) v : Nat) : Int) + 1 by omega] at q
        exact q
      rw [lt_T c2 (by omega) (by omega)]
      rcases hb with ⟨h1, h2⟩ | ⟨n, h1, h2, h3, h4⟩
      · rw [eq_T h1]
        unfold f_Law_areMoved_298
        exact nxt _ (Or.inr ⟨v, rfl, by omega, hin, fun i hi hw => by
          by_cases c : i = v
          · exact Or.inr ⟨by rw [c], by omega⟩
          · exact (h2 i (by omega) hw).elim⟩)
      · have nd : ((n : Int)).toNat = n := by omega
        have rn := gr n (by omega)
        rw [h1, eq_F (by omega) (by omega) (by omega) (by omega) (by omega), rd, aq.aJ (by omega) (by omega), nd, g n (by omega)]
        by_cases c3 : G n ≤ G v
        · rw [le_T c3 (by omega) (by omega)]
          exact nxt _ (Or.inr ⟨n, rfl, by omega, h3, fun i hi hw => by
            by_cases c : i = v
            · rw [c]
              by_cases c4 : G n = G v
              · exact Or.inr ⟨c4, by omega⟩
              · exact Or.inl (by omega)
            · exact h4 i (by omega) hw⟩)
        · rw [le_F (by omega) (by omega) (by omega)]
          unfold f_Law_areMoved_298
          exact nxt _ (Or.inr ⟨v, rfl, by omega, hin, fun i hi hw => by
            by_cases c : i = v
            · exact Or.inr ⟨by rw [c], by omega⟩
            · have := h4 i (by omega) hw
              exact Or.inl (by omega)⟩)
    · rw [lt_F (by omega) (by omega) (by omega)]
      exact no (fun z => by omega)
end AM4
end
/-! draft 676.moved5 -/
section
/-! ===== areMoved: the next date, and all undone ===== -/
section AM5
variable {O : Nat → Option va_E} {f k T : Nat} {M N : xM} {kk d x a v10 u w v8 : Int} {p q1 q2 : Nat} {F : Nat → xM}
theorem am_329 {b : Int} (hkk : kk = (k : Int)) (hk : k < 12) (hf : 10000 ≤ f) (h : AQ M k T p) (hE : EXd M k) (eT : T = nD (Dg (iV M (30 + 6 * k))) (iV M (30 + 6 * k) 0) v10) (dl : dyL (iV M p) (Dg (iV M (30 + 6 * k))) (iV M (30 + 6 * k) 0) T v10) (hi : ∀ e, v10 < e → Dg (iV M (30 + 6 * k)) e → w ≤ bg M k e) (u0 : 14400 ≤ u) (u1 : u ≤ 150000000) (hb : btI (fun i => bg M k (iV M p i)) u w T b) : f_Law_areMoved_329 O f 1 kk p (T : Int) q1 v8 u b M = f_Law_areMoved_351 O f 1 kk p (T : Int) q1 v8 M := by
  have t8 := h.2.2.2.2.2.2.2.1
  unfold f_Law_areMoved_329
  rcases hb with ⟨h1, h2⟩ | ⟨n, h1, h2, h3, h4⟩
  · rw [eq_T h1]
  · dsimp only at h3
    have nd : ((n : Int)).toNat = n := by omega
    have dn := h.day (i := n) h2
    have Dn := h.2.2.2.2.2.2.2.2 n h2
    obtain ⟨y, ey, oy⟩ := nextDate_ok (O := O) (f := f) (c := u) h.1 hkk hk h.2.1 h.zz h.2.2.2.1 hE u0 u1 hf
    have r0 := h.2.2.2.1.1
    have e : y = iV M p n := by
      rcases oy with ⟨q1, q2⟩ | ⟨q1, q2, q3, q4⟩
      · have := q2 _ Dn (by omega)
        omega
      · have c := q4 _ Dn (by omega) h3.1
        have yd := (nxG (O := O) (f := f) hk h.2.2.2.1 hf).1 y q1
        unfold rw' at c
        have by1 : bg M k y ≤ bg M k (iV M p n) := by omega
        have yl : y ≤ v10 := by
          by_cases g : y ≤ v10
          · exact g
          · have := hi y (by omega) q1
            omega
        subst eT
        obtain ⟨i, i1, i2, -⟩ := dy_mem dl q1 q1.1 yl
        have w2 := h4 i i1 (by
          show u ≤ bg M k (iV M p i) ∧ bg M k (iV M p i) < w
          rw [i2]
          omega)
        dsimp only at w2
        rw [i2] at w2
        rcases w2 with w3 | ⟨w3, w4⟩
        · omega
        · by_cases g : n = i
          · rw [g, i2]
          · have := dy_mono dl (show n < i by omega) i1
            rw [i2] at this
            omega
    rw [h1, eq_F (by omega) (by omega) (by omega) (by omega) (by omega), a_Cal_is h.1, ey, xcl_e, z_aJ h.2.2.2.2.1 h.2.2.2.2.2.1 (by omega) (by omega) (by omega), nd, eq_T e]
theorem am_354 (hf : 10000 ≤ f) (h8 : v8 ≤ 100) (h80 : 0 ≤ v8) : ∀ (c t : Nat) (F : Nat → xM) (M : xM), Bs M → UD M (c + 1) F → c + 1 < t → (c : Int) + 1 ≤ v8 → ∃ N, f_Law_areMoved_354 O f t 1 kk p (T : Int) q1 v8 (v8 - (c + 1)) M = f_Law_areMoved_375 O f f 1 kk p (T : Int) q1 0 N ∧ Bs N ∧ CpH 2 2 (F c) N ∧ Un (fun a => a ≠ 1 ∧ (a < 2 ∨ 115 ≤ a)) M N := by
  intro c
  induction c with
  | zero =>
    intro t F M h hu ht hc
    obtain ⟨t, rfl⟩ : ∃ n', t = n' + 1 + 1 := ⟨t - 2, by omega⟩
    obtain ⟨N, y, e, y0, uN, cN, bN, dN⟩ := undo_ok (O := O) (f := f) h hu (by omega)
    refine ⟨N, ?_, bN, cN, uN⟩
    show (if yw v8 ≤ yw (v8 - (((0 : Nat) : Int) + 1)) then _ else _) = _
    rw [le_F (by omega) (by omega) (by omega), a_Cal_is h.1, e, xcl_e]
    show (if yw v8 ≤ yw (v8 - (((0 : Nat) : Int) + 1) + 1) then _ else _) = _
    rw [le_T (by omega) (by omega) (by omega)]
  | succ c ih =>
    intro t F M h hu ht hc
    obtain ⟨t, rfl⟩ : ∃ n', t = n' + 1 := ⟨t - 1, by omega⟩
    obtain ⟨L, y, e, y0, uL, cL, bL, dL⟩ := undo_ok (O := O) (f := f) h hu (by omega)
    obtain ⟨N, eN, bN, cN, uN⟩ := ih t (fun j => F (j + 1)) L bL dL (by omega) (by omega)
    refine ⟨N, ?_, bN, cN, uL.tr uN⟩
    show (if yw v8 ≤ yw (v8 - (((c + 1 : Nat) : Int) + 1)) then _ else _) = _
    rw [le_F (by omega) (by omega) (by omega), a_Cal_is h.1, e, xcl_e, ← eN, show v8 - (((c + 1 : Nat) : Int) + 1) + 1 = v8 - ((c : Int) + 1) by omega]
end AM5
end
/-! draft 677.moved6 -/
section
/-! ===== areMoved holds ===== -/
section AM6
variable {O : Nat → Option va_E} {f k T : Nat} {M N : xM} {kk d x v10 : Int} {p : Nat}
theorem areMoved_ok (hkk : kk = (k : Int)) (hk : k < 12) (hf : 10000 ≤ f) (bo : Bs M) (h : AQ M k T p) (h7 : iV M (29 + 6 * k) 7 = 0) (f1 : iV M (30 + 6 * k) 0 ≤ 3009) (ev : v10 = iV M (30 + 6 * k) 0 + 799) (T1 : 1 ≤ T) (eT : T = nD (Dg (iV M (30 + 6 * k))) (iV M (30 + 6 * k) 0) v10) (dl : dyL (iV M p) (Dg (iV M (30 + 6 * k))) (iV M (30 + 6 * k) 0) T v10) (hb : M.1 ≤ 1000000) : ∃ N, f_Law_areMoved O f 1 0 kk p (T : Int) v10 M = some (1, N) ∧ Bs N ∧ (∀ j, j < 12 → kEq M N j) ∧ (∀ z, z < 3 → zEq M N z) ∧ Kp (fun a => 1044 ≤ a) M N ∧ N.1 = M.1 + 2 ∧ N.2.1 = M.2.1 + (T + T) := by
  have w := bo.1
  have M4 : 1044 ≤ M.1 := w.1
  have t8 := h.2.2.2.2.2.2.2.1
  have p0 := h.2.2.2.2.2.2.1
  have pM : p < M.1 := h.2.2.2.2.1.2
  have r0 := h.2.2.2.1.1
  have aqx : ∀ {L : xM} {P : Nat → Prop}, Kp P M L → L.1 ≤ 500000000 → (∀ a, 12 ≤ a → a < 116 → P a) → P p → AQ L k T p := fun {L P} u lb h1 h2 => by
    obtain ⟨w, sv, zv, rv, ip, sp, pp, t8, dg⟩ := h
    have e30 : iV L (30 + 6 * k) = iV M (30 + 6 * k) := funext (fun j => u.i (by omega) (h1 _ (by omega) (by omega)))
    have ep : iV L p = iV M p := funext (fun j => u.i pM h2)
    refine ⟨u.wd w lb, sv.of (fun a j a0 a1 => u.i (by omega) (h1 a (by omega) (by omega))), fun z hz => (zv z hz).of (fun a j a0 a1 => u.i (by omega) (h1 a (by omega) (by omega))), by rw [e30]; exact rv, ⟨by have := u.1; omega, by have := u.1; omega⟩, by rw [(u.2.1 p pM).1]; exact sp, pp, t8, fun i hi => ?_⟩
    rw [e30, ep]
    exact dg i hi
  have z3 : ∀ {L : xM}, (∀ b j, 12 ≤ b → b < 116 → iV L b j = iV M b j) → ∀ e, bg L k e = bg M k e := fun {L} q e => bg_of hk h.2.1.2.1.2 q
  -- the first row
  obtain ⟨A, eA, xA, aA, -, nA, sA⟩ := ar_new (x := (T : Int)) (M := M) (by omega) (by omega) (by omega)
  obtain ⟨q1, eq1⟩ : ∃ q, q = M.1 := ⟨_, rfl⟩
  rw [← eq1] at eA aA
  rw [Int.toNat_natCast] at aA sA
  have kA : Kp (fun a => a ≠ q1) M A := xA.kp
  obtain ⟨B, eB, uB, gB⟩ := am_9 (O := O) (f := f) (x := v10) (q1 := q1) hkk hk hf (by omega) (by omega) T f 0 A (aqx kA (by omega) (fun a a0 a1 => by (try dsimp only); omega) (by (try dsimp only); omega)) aA (by omega) (by omega) (fun i hi => absurd hi (Nat.not_lt_zero _))
  have kB : Kp (fun a => a ≠ q1) M B := kA.tr uB.kp
  have nB : B.1 = q1 + 1 := by rw [uB.1.1, nA, eq1]
  -- the second row
  obtain ⟨C, eC, xC, aC, -, nC, sC⟩ := ar_new (x := (T : Int)) (M := B) (by omega) (by omega) (by omega)
  obtain ⟨q2, eq2⟩ : ∃ q, q = B.1 := ⟨_, rfl⟩
  rw [← eq2] at eC aC
  rw [Int.toNat_natCast] at aC sC
  have kC : Kp (fun a => a ≠ q1) M C := kB.tr xC.kp
  have aB1 : Ar q1 T B := aA.un uB
  have aC1 : Ar q1 T C := aB1.kp (P := fun _ => True) xC.kp (by omega)
  obtain ⟨D, eD, uD, gD⟩ := am_45 (O := O) (f := f) (p := p) (kk := kk) (x := v10) hf t8 (show q1 ≠ q2 by omega) T f 0 C aC1 aC (by omega) (by omega) (fun i hi => absurd hi (Nat.not_lt_zero _))
  have kD : Kp (fun a => a ≠ q1 ∧ a ≠ q2) M D := (kC.le (fun a q => q.1)).tr (uD.kp.le (fun a q => q.2))
  have wD : Wd D := kD.wd w (by rw [uD.1.1]; omega)
  obtain ⟨y, E, eE, y0, y1, wE, uE, iE⟩ := dn_ok (O := O) (f := f) (m := 4) wD (by omega) (by omega)
  have kE : Kp (fun a => a ≠ 0 ∧ a ≠ q1 ∧ a ≠ q2) M E := (kD.le (fun a q => q.2)).tr (uE.kp.le (fun a q => q.1))
  have E1 : E.1 = M.1 + 2 := by rw [uE.1.1, uD.1.1, nC, ← eq2]; omega
  have E2 : E.2.1 = M.2.1 + (T + T) := by rw [uE.1.2.1, uD.1.2.1, sC, uB.1.2.1, sA]; omega
  have iM : ∀ a j, a < M.1 → a ≠ 0 → iV E a j = iV M a j := fun a j h1 h2 => kE.i h1 (by (try dsimp only); omega)
  have aqE : AQ E k T p := aqx kE (by omega) (fun a a0 a1 => by (try dsimp only); omega) (by (try dsimp only); omega)
  have boE : Bs E := bo.kp kE (by omega) (by (try dsimp only); omega) (fun j hj => by (try dsimp only); omega)
  have bgE : ∀ e, bg E k e = bg M k e := z3 (fun b j b0 b1 => iM b j (by omega) (by omega))
  have rE : iV E (30 + 6 * k) = iV M (30 + 6 * k) := funext (fun j => iM _ j (by omega) (by omega))
  have pE : iV E p = iV M p := funext (fun j => iM _ j pM (by omega))
  have aE1 : Ar q1 T E := (aC1.un uD).un uE
  have aE2 : Ar q2 T E := (aC.un uD).un uE
  have g1 : ∀ i, i < T → iV E q1 i = bg E k (iV E p i) := fun i hi => by
    rw [bgE, pE, iE, uD.i (by (try dsimp only); omega), xC.i (by omega), gB i hi, bg_of hk h.2.1.2.1.2 (fun b j b0 b1 => xA.i (by omega)), xA.i (by omega)]
  have g2 : ∀ i, i < T → iV E q2 i = bg E k (iV E p i) := fun i hi => by
    rw [← g1 i hi, iE, iE, gD i hi, uD.i (by (try dsimp only); omega)]
  have xE : EXd E k := fun i hi => by
    rw [iM _ _ (by omega) (by omega), h7] at hi
    omega
  -- the moves
  obtain ⟨v8, e8⟩ : ∃ v8, v8 = min (T : Int) (1 + y) := ⟨_, rfl⟩
  have j0 : MVJ E E k T p q1 q2 0 v10 := ⟨boE, aqE, xE, by rw [iM _ _ (by omega) (by omega), h7]; omega, aE2, g2, fun _ => rfl, Un.rf, fun _ _ => rfl, fun _ => E, UD.nil boE.2.1, fun _ _ _ _ _ => rfl, fun z => absurd z (by omega)⟩
  obtain ⟨t', L, eL, jL, uL⟩ := am_85 (O := O) (x := v10) hkk hk hf T1 (show p ≠ q1 by omega) (show p ≠ q2 by omega) (show q1 ≠ q2 by omega) (by omega) (by omega) (show v8 ≤ 4 by omega) (fun i j hi hj e => dy_inj dl hi hj (by rw [← pE]; exact e)) (fun i hi => by rw [pE]; exact (dl i hi).2.1) (by omega) v8.toNat f 0 E j0 (by omega) (by omega)
  obtain ⟨l1, l2, l3, l4, l5, l6, l7, l8, l9, F, l10, l11, l12⟩ := jL
  have L1 : L.1 = E.1 := l8.1.1
  have rL : iV L (30 + 6 * k) = iV M (30 + 6 * k) := by rw [funext l7]; exact rE
  have pL : iV L p = iV M p := by rw [← pE]; exact funext (fun j => l8.i (by (try dsimp only); omega))
  have aL1 : Ar q1 T L := aE1.un l8
  have q1L : ∀ j, iV L q1 j = iV E q1 j := fun j => l8.i (by (try dsimp only); omega)
  have d0 := h.day (i := 0) (by omega)
  have dd0 := (dl 0 (by omega)).2.1
  have zE := aqE.zz
  have exO0 : ∀ e, bg E k e = C0 E k e := fun e => by
    unfold bg exO
    rw [iM _ _ (by omega) (by omega), h7]
    exact if_pos rfl
  have c0r := C0_r (d := iV M p 0) aqE.2.1 zE
  have zE' := zE
  obtain ⟨o0, o1, s0, s1, -, -⟩ := zE'
  have mE := aqE.2.1.2.2.1
  obtain ⟨x1, ex1⟩ : ∃ x1, x1 = bg E k (iV M p 0) := ⟨_, rfl⟩
  have x1b : 13000 ≤ x1 ∧ x1 ≤ 6000000 := by
    rw [ex1, exO0]
    omega
  obtain ⟨u, eu⟩ : ∃ u, u = max 14400 (x1 - 2000) := ⟨_, rfl⟩
  obtain ⟨ww, ew⟩ : ∃ ww, ww = min (u + 525600) (1440 * (v10 - 1) - 1500) := ⟨_, rfl⟩
  have far : ∀ e, v10 < e → Dg (iV L (30 + 6 * k)) e → ww ≤ bg L k e := fun e he _ => by
    rw [l9 e he, exO0]
    have := C0_r (d := e) aqE.2.1 zE
    omega
  have dlL : dyL (iV L p) (Dg (iV L (30 + 6 * k))) (iV L (30 + 6 * k) 0) T v10 := by rw [pL, rL]; exact dl
  have eTL : T = nD (Dg (iV L (30 + 6 * k))) (iV L (30 + 6 * k) 0) v10 := by rw [rL]; exact eT
  -- undone
  have v8p : (((v8.toNat - 1 : Nat) : Int)) + 1 = v8 := by omega
  obtain ⟨Q, eQ, bQ, cQ, uQ⟩ := am_354 (O := O) (f := f) (kk := kk) (p := p) (T := T) (q1 := q1) (v8 := v8) hf (by omega) (by omega) (v8.toNat - 1) f F L l1 (by rw [show v8.toNat - 1 + 1 = v8.toNat by omega]; exact l10) (by omega) (by omega)
  rw [v8p, show v8 - v8 = 0 by omega] at eQ
  have l12' := l12 (by omega)
  have kQ : ∀ j, j < 12 → kEq E Q j := fun j hj => (kEq.of hj (fun a i a0 a1 => l12' a i a0 a1)).tr (cQ.ke hj)
  have zQ : ∀ z, z < 3 → zEq E Q z := fun z hz => (zEq.of hz (fun a i a0 a1 => l12' a i a0 a1)).tr (cQ.ze hz)
  have rQ : ∀ j, j < 8 → iV Q (30 + 6 * k) j = iV E (30 + 6 * k) j := (kQ k hk).fs.2.1
  have r8Q := r8 rQ
  have pQ : ∀ j, iV Q p j = iV E p j := fun j => by rw [uQ.i (by (try dsimp only); omega), l8.i (by (try dsimp only); omega)]
  have q1Q : ∀ j, iV Q q1 j = iV E q1 j := fun j => by rw [uQ.i (by (try dsimp only); omega), q1L]
  have zk3 : zk E k < 3 := by have := aqE.2.1.2.1; unfold zk; omega
  have aqQ : AQ Q k T p := by
    refine ⟨bQ.1, (kQ k hk).sv aqE.2.1, fun z hz => (zQ z hz).zv (aqE.2.2.1 z hz), r8Q.2.2.1 aqE.2.2.2.1, uQ.1.inM l2.2.2.2.2.1, by rw [uQ.1.s]; exact l2.2.2.2.2.2.1, p0, t8, fun i hi => ?_⟩
    rw [r8Q.2.1, pQ]
    exact aqE.2.2.2.2.2.2.2.2 i hi
  have fin375 : f_Law_areMoved_375 O f f 1 kk p (T : Int) q1 0 Q = some (1, Q) := am_375 (O := O) hkk hk hf aqQ (aL1.un uQ) (fun i hi => by
    rw [q1Q, pQ, g1 i hi]
    exact ((kQ k hk).bgn (zQ _ zk3) aqE.2.1).symm) T f 0 (by omega) (by omega)
  have t351 : f_Law_areMoved_351 O f 1 kk p (T : Int) q1 v8 L = some (1, Q) := by
    unfold f_Law_areMoved_351
    rw [eQ, fin375]
  -- the count and the next date
  have t246 := am_246 (O := O) (f := f) (kk := kk) (p := p) (q1 := q1) (v8 := v8) (u := u) (w := ww) (G := fun i => bg L k (iV L p i)) (R := some (1, Q)) l5 t8 l6 (fun i hi => by
    have dy := l2.day hi
    have br := bg_rng l2.2.1 l2.zz dy.1 dy.2
    omega) (by omega) (by omega) (by omega) (by omega) (fun b hb => by
    have a329 := am_329 (O := O) (q1 := q1) (v8 := v8) hkk hk hf l2 l3 eTL dlL far (by omega) (by omega) hb
    by_cases g : ww ≤ u
    · rw [le_T g (by omega) (by omega), a329, t351]
    · have cd := countDates_ok (O := O) (f := f) (u := u) (v := ww) l2.1 hkk hk l2.2.1 l2.zz l2.2.2.2.1 l3 (by omega) (by omega) (by omega) (by omega) hf
      have ec : nD (fun d => Dg (iV L (30 + 6 * k)) d ∧ u ≤ bg L k d ∧ bg L k d < ww) 0 146000 = ctN (fun i => bB (u ≤ bg L k (iV L p i) ∧ bg L k (iV L p i) < ww)) T := by
        have rL0 : iV L (30 + 6 * k) 0 = iV M (30 + 6 * k) 0 := by rw [rL]
        rw [nD_add (P := fun d => Dg (iV L (30 + 6 * k)) d ∧ u ≤ bg L k d ∧ bg L k d < ww) (a := 0) (b := 146000) (c := v10) (by omega) (by omega), nD_0 (P := fun d => Dg (iV L (30 + 6 * k)) d ∧ u ≤ bg L k d ∧ bg L k d < ww) (a := v10 + 1) (b := 146000) (fun d d0 d1 z => by have := far d (by omega) z.1; omega), nD_add (P := fun d => Dg (iV L (30 + 6 * k)) d ∧ u ≤ bg L k d ∧ bg L k d < ww) (a := 0) (b := v10) (c := iV L (30 + 6 * k) 0 - 1) (by omega) (by omega), nD_0 (P := fun d => Dg (iV L (30 + 6 * k)) d ∧ u ≤ bg L k d ∧ bg L k d < ww) (a := 0) (b := iV L (30 + 6 * k) 0 - 1) (fun d d0 d1 z => by have := z.1.1; omega), show iV L (30 + 6 * k) 0 - 1 + 1 = iV L (30 + 6 * k) 0 by omega]
        have dc := dy_count (A := iV L p) (D := Dg (iV L (30 + 6 * k))) (a := iV L (30 + 6 * k) 0) (v10 := v10) (W := fun d => u ≤ bg L k d ∧ bg L k d < ww) (by rw [← eTL]; exact dlL) 800 v10 (by omega) (Int.le_refl _)
        rw [← eTL] at dc
        rw [dc]
        omega
      rw [ec] at cd
      rw [le_F (by omega) (by omega) (by omega), a_Cal_is l2.1, cd, xcl_e, eq_T rfl, a329, t351]) T f 0 (-1) (by omega) (by omega) (Or.inl ⟨rfl, fun i hi => absurd hi (Nat.not_lt_zero _)⟩)
  rw [show ((ctN (fun i => bB (u ≤ (fun i => bg L k (iV L p i)) i ∧ (fun i => bg L k (iV L p i)) i < ww)) 0 : Nat) : Int) = 0 from rfl, show ((0 : Nat) : Int) = 0 from rfl] at t246
  have kF : Kp (fun a => 1044 ≤ a ∧ a ≠ q1 ∧ a ≠ q2) M Q := (kE.le (fun a q => by (try dsimp only at q ⊢); omega)).tr (((l8.le (fun a q => by (try dsimp only at q ⊢); omega)).tr (uQ.le (fun a q => by (try dsimp only at q ⊢); omega))).kp.le (fun a q => q))
  refine ⟨Q, ?_, bQ, fun j hj => (kEq.of hj (fun a i a0 a1 => iM a i (by omega) (by omega))).tr (kQ j hj), fun z hz => (zEq.of hz (fun a i a0 a1 => iM a i (by omega) (by omega))).tr (zQ z hz), ⟨kF.1, kF.2.1, fun a ha q => kF.2.2 a ha ⟨q, by omega, by omega⟩⟩, by rw [uQ.1.1, L1, E1], by rw [uQ.1.2.1, l8.1.2.1, E2]⟩
  unfold f_Law_areMoved
  rw [eA, xcl_e, show f_Law_areMoved_9 O f f 1 0 kk p (T : Int) v10 q1 0 A = _ from eB, eC, xcl_e, show f_Law_areMoved_45 O f f 1 0 kk p (T : Int) v10 q1 q2 0 C = _ from eD, wD.is (k := 0) (ci := 15) (by decide) (by decide), eE, xcl_e, xc_of (e_min (by omega) (by omega) (by omega) (by omega)), ← e8, show f_Law_areMoved_85 O f f 1 0 kk p (T : Int) v10 q1 q2 v8 0 E = _ from eL]
  show (if yw v8 ≤ yw v8 then _ else _) = _
  rw [le_T (Int.le_refl _) (by omega) (by omega), aL1.aJ (by omega) (by omega), show ((0 : Int)).toNat = 0 from rfl, q1L, g1 0 (by omega), pE, ← ex1, xc_of (e_max (by omega) (by omega) (by omega) (by omega)), ← eu, xc_of (e_min (by omega) (by omega) (by omega) (by omega)), ← ew]
  exact t246
end AM6
end
/-! draft 678.begin -/
section
/-! ===== a rule that begins at a later day of its own ===== -/
theorem mod_sh {a b c s : Int} (h : (b - c) % s = 0) : (a - b) % s = 0 ↔ (a - c) % s = 0 := by
  have hb := Int.dvd_of_emod_eq_zero h
  constructor
  · intro q
    have qa := Int.dvd_of_emod_eq_zero q
    have := Int.dvd_add qa hb
    rw [show a - b + (b - c) = a - c by omega] at this
    exact Int.emod_eq_zero_of_dvd this
  · intro q
    have qa := Int.dvd_of_emod_eq_zero q
    have := Int.dvd_sub qa hb
    rw [show a - c - (b - c) = a - b by omega] at this
    exact Int.emod_eq_zero_of_dvd this
theorem hol_begin {r r' : Nat → Int} {d e : Int} (k0 : r 1 ≠ 0) (hd : hol r d) (h0 : r' 0 = d) (h : ∀ j, 1 ≤ j → j ≤ 4 → r' j = r j) : hol r' e ↔ hol r e := by
  unfold hol at hd ⊢
  have es : sdR r' = sdR r := by
    unfold sdR
    rw [h 1 (by decide) (by decide), h 2 (by decide) (by decide)]
  rw [es, h0, h 1 (by decide) (by decide), h 2 (by decide) (by decide), h 3 (by decide) (by decide)]
  rw [if_neg k0] at hd ⊢
  rw [if_neg k0]
  by_cases k1 : r 1 = 1
  · rw [if_pos k1] at hd ⊢
    rw [if_pos k1]
    exact mod_sh hd
  rw [if_neg k1] at hd ⊢
  rw [if_neg k1]
  by_cases k2 : r 1 = 2
  · rw [if_pos k2] at hd ⊢
    rw [if_pos k2]
    have m := mod_sh (a := (e + 5) / 7) hd.2
    exact ⟨fun z => ⟨z.1, m.mp z.2⟩, fun z => ⟨z.1, m.mpr z.2⟩⟩
  rw [if_neg k2] at hd ⊢
  rw [if_neg k2]
  have m := mod_sh (a := cMonth e) hd.1
  have mc : mcR r' e ↔ mcR r e := by
    have hd2 := hd.2
    unfold mcR at hd2 ⊢
    rw [h 1 (by decide) (by decide), h 3 (by decide) (by decide), h 4 (by decide) (by decide), h0]
    by_cases k5 : r 1 = 5
    · rw [if_pos k5] at hd2 ⊢
      rw [if_pos k5]
      rw [hd2]
    · rw [if_neg k5, if_neg k5]
  exact ⟨fun z => ⟨m.mp z.1, mc.mp z.2⟩, fun z => ⟨m.mpr z.1, mc.mpr z.2⟩⟩
/-- before a day of the rule all days that hold are its days -/
theorem dg_hol {r : Nat → Int} {d e : Int} (hd : Dg r d) (h0 : r 0 ≤ e) (h1 : e ≤ d) : Dg r e ↔ hol r e := ⟨fun z => z.2.2, fun z => ⟨h0, by have := hd.2.1; omega, z⟩⟩
/-- what is left of a rule from a day on is sound, and its end is right -/
theorem so_begin {r r' : Nat → Int} {d : Int} (rv : RVg r) (so : SO r) (k0 : r 1 ≠ 0) (hd : Dg r d) (h0 : r' 0 = d) (h : ∀ j, 1 ≤ j → j ≤ 5 → r' j = r j) (h6 : r' 6 = if r 5 = 1 then r 6 - ((nD (Dg r) (r 0) (d - 1) : Nat) : Int) else r 6) (h7 : r' 7 = r 7) : RVg r' ∧ SO r' ∧ (∀ e, Dg r' e ↔ d ≤ e ∧ Dg r e) := by
  have hh : ∀ e, hol r' e ↔ hol r e := fun e => hol_begin k0 hd.2.2 h0 (fun j j1 j2 => h j j1 (by omega))
  have he : hol r' = hol r := funext (fun e => propext (hh e))
  have f0 := rv.1
  have l0 := rv.2.2.2.2.2.2.2.2.1
  have dg : ∀ e, Dg r' e ↔ d ≤ e ∧ Dg r e := fun e => by
    unfold Dg
    rw [h0, h7, he]
    exact ⟨fun z => ⟨z.1, by have := hd.1; omega, z.2.1, z.2.2⟩, fun z => ⟨z.1, z.2.2.1, z.2.2.2⟩⟩
  refine ⟨?_, fun e q0 q1 => ?_, dg⟩
  · have dl := hd.2.1
    have d0 := hd.1
    unfold RVg at rv ⊢
    rw [h0, h7, h 1 (by decide) (by decide), h 2 (by decide) (by decide), h 3 (by decide) (by decide), h 4 (by decide) (by decide)]
    exact ⟨by omega, rv.2⟩
  · rw [h0] at q0
    have d0 := hd.1
    rw [dg e, so e (by omega) q1, he, h0, h 5 (by decide) (by decide), h6]
    have cn : nD (hol r) (r 0) e = nD (Dg r) (r 0) (d - 1) + nD (hol r) d e := by
      rw [nD_add (P := hol r) (a := r 0) (b := e) (c := d - 1) (by omega) (by omega), show d - 1 + 1 = d by omega, nD_of (P := hol r) (Q := Dg r) (a := r 0) (b := d - 1) (fun x x0 x1 => (dg_hol hd x0 (by omega)).symm)]
    rw [cn]
    constructor
    · rintro ⟨-, z1, z2, z3⟩
      refine ⟨z1, fun z => ?_, fun z => ?_⟩
      · rw [if_pos z]
        have := z2 z
        omega
      · rw [if_neg (by omega)]
        exact z3 z
    · rintro ⟨z1, z2, z3⟩
      refine ⟨q0, z1, fun z => ?_, fun z => ?_⟩
      · have := z2 z
        rw [if_pos z] at this
        omega
      · have := z3 z
        rw [if_neg (by omega)] at this
        exact this
end
/-! draft 679.fromhere -/
section
/-! ===== fromHere ===== -/
section FRH
variable {O : Nat → Option va_E} {f k k2 n : Nat} {M N : xM} {F : Nat → xM} {kk d mi le e0 : Int}
/-- no exceptions to keep -/
theorem keep0 {a b : Int} (h : Wd M) (hk : k < 12) (h7 : iV M (29 + 6 * k) 7 = 0) (hf : 1 ≤ f) : f_Series_keepExceptions O f (29 + 6 * k) a b M = some ((), M) := by
  obtain ⟨f', rfl⟩ : ∃ n', f = n' + 1 := ⟨f - 1, by omega⟩
  unfold f_Series_keepExceptions
  rw [a_Series_exceptions h hk, h7, a_Series_exceptionDays h hk, n_Series_exceptionDays h hk, xc_of (e_min (by omega) (by omega) (by omega) (by omega))]
  show (if yw (min 0 10 - 1) < yw 0 then _ else _) = _
  rw [lt_T (by omega) (by omega) (by omega)]
/-- a rule begins at a day of its own -/
theorem beginAt_ok (h : Wd M) (hk : k < 12) (hr : RVg (iV M (30 + 6 * k))) (d0 : -2147483648 ≤ d) (d1 : d ≤ 200000) (dm : -1000 ≤ d) (r6 : iV M (30 + 6 * k) 5 = 1 → 1 ≤ iV M (30 + 6 * k) 6 ∧ iV M (30 + 6 * k) 6 ≤ 500) (hf : 10000 ≤ f) : ∃ N, f_Rule_beginAt O f (30 + 6 * k) d M = some ((), N) ∧ Wd N ∧ Un (fun a => a ≠ 30 + 6 * k) M N ∧ iV N (30 + 6 * k) 0 = d ∧ (∀ j, j ≠ 0 → j ≠ 6 → iV N (30 + 6 * k) j = iV M (30 + 6 * k) j) ∧ iV N (30 + 6 * k) 6 = if iV M (30 + 6 * k) 5 = 1 then iV M (30 + 6 * k) 6 - ((nD (Dg (iV M (30 + 6 * k))) (iV M (30 + 6 * k) 0) (d - 1) : Nat) : Int) else iV M (30 + 6 * k) 6 := by
  have f0 := hr.1
  have r5 := iV_r M (30 + 6 * k) 5
  unfold f_Rule_beginAt
  rw [a_Rule_how h hk]
  by_cases c : iV M (30 + 6 * k) 5 = 1
  · obtain ⟨x, ex⟩ : ∃ x, x = ((nD (Dg (iV M (30 + 6 * k))) (iV M (30 + 6 * k) 0) (d - 1) : Nat) : Int) := ⟨_, rfl⟩
    have xb : 0 ≤ x ∧ x ≤ 1000000 := by
      by_cases g : iV M (30 + 6 * k) 0 ≤ d
      · have := nD_le (P := Dg (iV M (30 + 6 * k))) (a := iV M (30 + 6 * k) 0) (b := d - 1) (by omega)
        omega
      · rw [nD_e (by omega)] at ex
        omega
    have q := r6 c
    have w1 : Wd (iS M (30 + 6 * k) 6 (iV M (30 + 6 * k) 6 - x)) := h
    rw [eq_T c, a_Rule_number h hk, a_Rule_first h hk, a_Rule_is h hk, countG_ok h hk hr (by omega) (by omega) (by omega) (by omega) hf, xcl_e, ← ex, p_Rule_number h hk]
    unfold f_Rule_beginAt_28
    rw [p_Rule_first w1 hk, if_pos c]
    refine ⟨_, rfl, h, (Un.rf.iS (by (try dsimp only); omega)).iS (by (try dsimp only); omega), by rw [iV_s d0 (by omega)], fun j j0 j6 => by rw [iV_o (by omega), iV_o (by omega)], by rw [iV_o (by omega), iV_s (by omega) (by omega)]⟩
  · rw [eq_F c (by omega) (by omega) (by omega) (by omega)]
    unfold f_Rule_beginAt_28
    rw [p_Rule_first h hk, if_neg c]
    exact ⟨_, rfl, h, Un.rf.iS (by (try dsimp only); omega), by rw [iV_s d0 (by omega)], fun j j0 j6 => by rw [iV_o (by omega)], by rw [iV_o (by omega)]⟩
theorem fromHere_ok (h : Bs M) (hu : UD M n F) (hn : n ≤ 7) (hkk : kk = (k : Int)) (hk : k < 12) (hk2 : k2 < 12) (kn : k ≠ k2) (fr : f_Hall_freeSeries O f 2 M = some ((k2 : Int), M)) (ht : iV M (29 + 6 * k) 0 = 1) (h5 : iV M (29 + 6 * k) 5 = 0 ∨ iV M (29 + 6 * k) 5 = 1) (h7 : iV M (29 + 6 * k) 7 = 0) (hr : RVg (iV M (30 + 6 * k))) (so : SO (iV M (30 + 6 * k))) (sd : sdA (iV M (30 + 6 * k) 1) (iV M (30 + 6 * k) 2) (iV M (30 + 6 * k) 3) (iV M (30 + 6 * k) 4)) (k0 : iV M (30 + 6 * k) 1 ≠ 0) (r6 : iV M (30 + 6 * k) 5 = 1 → 1 ≤ iV M (30 + 6 * k) 6 ∧ iV M (30 + 6 * k) 6 ≤ 500) (hd : Dg (iV M (30 + 6 * k)) d) (he : Dg (iV M (30 + 6 * k)) e0) (hde : e0 < d) (m0 : 0 ≤ mi) (m1 : mi ≤ 1439) (l0 : 1 ≤ le) (l1 : le ≤ 600) (hf : 10000 ≤ f) : ∃ M', f_Calendarhall_fromHere O f 1 kk d mi le M = some ((k2 : Int), M') ∧ Bs M' ∧ UD M' (n + 1) (psh M F) ∧ Un (fun a => a = 0 ∨ 1044 ≤ a ∨ (1 < a ∧ a < 140 ∧ (a < 29 + 6 * k ∨ 35 + 6 * k ≤ a) ∧ (a < 29 + 6 * k2 ∨ 35 + 6 * k2 ≤ a))) M M' ∧ (iV M' (29 + 6 * k) 0 = 1 ∧ iV M' (29 + 6 * k2) 0 = 1) ∧ (RVg (iV M' (30 + 6 * k)) ∧ SO (iV M' (30 + 6 * k)) ∧ iV M' (30 + 6 * k) 0 = iV M (30 + 6 * k) 0 ∧ iV M' (30 + 6 * k) 5 = 2 ∧ iV M' (30 + 6 * k) 6 = d - 1 ∧ ∀ e, e ≤ 146000 → (Dg (iV M' (30 + 6 * k)) e ↔ Dg (iV M (30 + 6 * k)) e ∧ e < d)) ∧ (RVg (iV M' (30 + 6 * k2)) ∧ SO (iV M' (30 + 6 * k2)) ∧ iV M' (30 + 6 * k2) 6 = (if iV M (30 + 6 * k) 5 = 1 then iV M (30 + 6 * k) 6 - ((nD (Dg (iV M (30 + 6 * k))) (iV M (30 + 6 * k) 0) (d - 1) : Nat) : Int) else iV M (30 + 6 * k) 6) ∧ ∀ e, Dg (iV M' (30 + 6 * k2)) e ↔ d ≤ e ∧ Dg (iV M (30 + 6 * k)) e) := by
  subst hkk
  have w := h.1
  have nx := nxG (O := O) (f := f) hk hr hf
  have db := nx.1 d hd
  have f0 := hr.1
  have hd0 := hd.1
  have he0 := he.1
  obtain ⟨b, eb, hb⟩ := isDayG_ok (O := O) (f := f) w hk hr (d := d) (by omega) (by omega) (by omega)
  have hb1 : b = 1 := by
    rcases hb with ⟨-, q⟩ | ⟨q, -⟩
    · exact absurd hd q
    · exact q
  obtain ⟨x, ex, ox⟩ := nextG_ok (O := O) (f := f) w hk hr (d := 10) (by omega) (by omega) hf
  have xd : x ≠ d ∧ -1 ≤ x ∧ x ≤ 146000 := by
    rcases ox with ⟨q1, q2⟩ | ⟨q1, q2, q3⟩
    · omega
    · have xb := nx.1 x q2
      refine ⟨fun z => ?_, by omega, by omega⟩
      exact q3 e0 (by omega) (by omega) he
  obtain ⟨N, eN, uN, bN, dN⟩ := save_ud (O := O) (f := f) w hu h.2.2 hn (by omega)
  have wN := bN.1
  have nv : ∀ a j, 1 < a → a < 140 → iV N a j = iV M a j := fun a j h1 h2 => uN.i (by (try dsimp only); omega)
  have sb : ∀ q, q < 12 → seB (29 + 6 * q) := fun q hq => by
    have := Hb.two.se hq
    rw [show 2 + (27 + 6 * q) = 29 + 6 * q by omega] at this
    exact this
  obtain ⟨A, eA, uA, cA⟩ := e_secopy (O := O) (f := f) wN (sb k2 hk2) (sb k hk) (by omega) (by rw [nv _ _ (by omega) (by omega)]; omega) (by rw [nv _ _ (by omega) (by omega)]; exact h5)
  have wA := uA.wd wN
  have a29 : ∀ j, j < 8 → j ≠ 6 → iV A (29 + 6 * k2) j = iV M (29 + 6 * k) j := fun j hj h6 => by
    have := cA 0 j (by unfold seF; omega)
    rw [Nat.add_zero, Nat.add_zero] at this
    rw [this, nv _ _ (by omega) (by omega)]
  have a30 : ∀ j, j < 8 → iV A (30 + 6 * k2) j = iV M (30 + 6 * k) j := fun j hj => by
    have := cA 1 j (by unfold seF; omega)
    rw [show 29 + 6 * k2 + 1 = 30 + 6 * k2 by omega, show 29 + 6 * k + 1 = 30 + 6 * k by omega] at this
    rw [this, nv _ _ (by omega) (by omega)]
  have ao : ∀ a j, 1 < a → a < 140 → (a < 29 + 6 * k2 ∨ 35 + 6 * k2 ≤ a) → iV A a j = iV M a j := fun a j h1 h2 h3 => by rw [uA.i (by (try dsimp only); omega), nv a j h1 h2]
  obtain ⟨B, eB⟩ : ∃ B, B = iS (iS A (29 + 6 * k2) 2 mi) (29 + 6 * k2) 3 le := ⟨_, rfl⟩
  have wB : Wd B := by rw [eB]; exact wA
  have uB : Un (fun a => a ≠ 29 + 6 * k2) A B := by rw [eB]; exact (Un.rf.iS (by (try dsimp only); omega)).iS (by (try dsimp only); omega)
  have B7 : iV B (29 + 6 * k2) 7 = 0 := by rw [eB, iV_o (by omega), iV_o (by omega), a29 7 (by decide) (by decide), h7]
  have rB : ∀ j, j < 8 → iV B (30 + 6 * k2) j = iV M (30 + 6 * k) j := fun j hj => by rw [uB.i (by (try dsimp only); omega), a30 j hj]
  have r8B := r8 rB
  obtain ⟨C, eC, wC, uC, C0, Co, C6⟩ := beginAt_ok (O := O) (f := f) (d := d) wB hk2 (r8B.2.2.1 hr) (by omega) (by omega) (by omega) (by rw [rB 5 (by decide), rB 6 (by decide)]; exact r6) hf
  rw [rB 5 (by decide), rB 6 (by decide), r8B.2.1, rB 0 (by decide)] at C6
  have sob := so_begin (r := iV M (30 + 6 * k)) (r' := iV C (30 + 6 * k2)) hr so k0 hd C0 (fun j j1 j2 => by rw [Co j (by omega) (by omega), rB j (by omega)]) C6 (by rw [Co 7 (by decide) (by decide), rB 7 (by decide)])
  have co : ∀ a j, 1 < a → a < 140 → (a < 29 + 6 * k2 ∨ 35 + 6 * k2 ≤ a) → iV C a j = iV M a j := fun a j h1 h2 h3 => by rw [uC.i (by (try dsimp only); omega), uB.i (by (try dsimp only); omega), ao a j h1 h2 h3]
  have C7 : iV C (29 + 6 * k) 7 = 0 := by rw [co _ _ (by omega) (by omega) (by omega), h7]
  obtain ⟨E, eE, wE, uE, E5, E6, Eo⟩ := rule_end (O := O) (f := f) (q := 2) (w := d - 1) wC hk (by omega) (by omega) (by omega) (by omega)
  have rE : ∀ j, j ≤ 4 → iV E (30 + 6 * k) j = iV M (30 + 6 * k) j := fun j hj => by rw [Eo j (by omega) (by omega), co _ _ (by omega) (by omega) (by omega)]
  obtain ⟨M', eM, uM, vM, rvM, soM⟩ := settleG_ok (O := O) (f := f) wE hk (rvg_of (by rw [rE 0 (by omega)]; omega) (by rw [rE 0 (by omega)]; omega) (by rw [rE 1 (by omega), rE 2 (by omega), rE 3 (by omega), rE 4 (by omega)]; exact sd)) (by rw [E5, E6]; omega) hf
  have wM := uM.wd wE
  have uNM : Un (fun a => (a < 29 + 6 * k ∨ 35 + 6 * k ≤ a) ∧ (a < 29 + 6 * k2 ∨ 35 + 6 * k2 ≤ a)) N M' := ((((uA.le (fun a q => by (try dsimp only at q ⊢); omega)).tr (uB.le (fun a q => by (try dsimp only at q ⊢); omega))).tr (uC.le (fun a q => by (try dsimp only at q ⊢); omega))).tr (uE.le (fun a q => by (try dsimp only at q ⊢); omega))).tr (uM.le (fun a q => by (try dsimp only at q ⊢); omega))
  have mo : ∀ a j, a ≠ 30 + 6 * k → iV M' a j = iV C a j := fun a j ha => by rw [uM.i (by (try dsimp only); omega), uE.i (by (try dsimp only); omega)]
  have c2 : iV C (29 + 6 * k2) 0 = 1 ∧ (iV C (29 + 6 * k2) 5 = 0 ∨ iV C (29 + 6 * k2) 5 = 1) := by
    rw [uC.i (by (try dsimp only); omega), uC.i (by (try dsimp only); omega), eB, iV_o (by omega), iV_o (by omega), iV_o (by omega), iV_o (by omega), a29 0 (by decide) (by decide), a29 5 (by decide) (by decide)]
    exact ⟨ht, h5⟩
  have boM : BoB 2 M' := fun q hq => by
    have q0 := bN.2.2 q hq
    rw [show 2 + (27 + 6 * q) = 29 + 6 * q by omega] at q0 ⊢
    by_cases g2 : q = k2
    · rw [g2, mo _ _ (by omega), mo _ _ (by omega)]
      exact ⟨Or.inr c2.1, c2.2⟩
    · rw [mo _ _ (by omega), mo _ _ (by omega), co _ _ (by omega) (by omega) (by omega), co _ _ (by omega) (by omega) (by omega), ← nv _ _ (by omega) (by omega), ← nv _ _ (by omega) (by omega)]
      exact q0
  have rn : ∀ j, iV M' (30 + 6 * k2) j = iV C (30 + 6 * k2) j := fun j => mo _ j (by omega)
  have rne : iV M' (30 + 6 * k2) = iV C (30 + 6 * k2) := funext rn
  have ho : hol (iV M' (30 + 6 * k)) = hol (iV M (30 + 6 * k)) := hol_of (fun j hj => by rw [vM j (by omega), rE j hj])
  refine ⟨M', ?_, ⟨wM, bN.2.1.un uNM (by (try dsimp only); omega), boM⟩, dN.un uNM (by (try dsimp only); omega) (fun a a0 a1 => by (try dsimp only); omega), (uN.le (fun a q => by (try dsimp only at q ⊢); omega)).tr (uNM.le (fun a q => by (try dsimp only at q ⊢); omega)), ⟨?_, ?_⟩, ⟨rvM, soM, ?_, ?_, ?_, fun e he2 => ?_⟩, ⟨by rw [rne]; exact sob.1, by rw [rne]; exact sob.2.1, by rw [rn 6]; exact C6, fun e => by rw [rne]; exact sob.2.2 e⟩⟩
  · have any : ∀ {δ : Type} {A : Nat → xM → Option δ}, xcl (f_Hall_anySeries O f 2 (k2 : Int) N) A = A (29 + 6 * k2) N := fun {δ A} => by
      rw [B_anySeries Hb.two wN (by omega) (by omega), show 2 + (27 + 6 * ((k2 : Int)).toNat) = 29 + 6 * k2 by omega]
    unfold f_Calendarhall_fromHere
    rw [a_Cal_is w, xc_of (s_num w hk ht), c_needRange m0 m1 (by omega) (by omega), c_needRange l0 l1 (by omega) (by omega), a_Series_rule w hk, a_Rule_is w hk, eb, xcl_e, hb1, eq_F (by omega) (by omega) (by omega) (by omega) (by omega), a_Series_rule w hk, a_Rule_is w hk, ex, xcl_e, eq_F xd.1 (by omega) (by omega) (by omega) (by omega), a_Cal_hall w, a_Hall_is w, fr, xcl_e, eq_F (by omega) (by omega) (by omega) (by omega) (by omega), a_Cal_is w, eN, xcl_e, a_Cal_hall wN, a_Hall_is wN, any, a_Series_is wN hk2, eA, xcl_e, p_Series_minute wA hk2, p_Series_length (M := iS A (29 + 6 * k2) 2 mi) wA hk2, ← eB, a_Series_is wB hk2, keep0 wB hk2 B7 (by omega), xcl_e, a_Series_rule wB hk2, a_Rule_is wB hk2, eC, xcl_e, a_Series_is wC hk, keep0 wC hk C7 (by omega), xcl_e, a_Series_rule wC hk, a_Rule_is wC hk, eE, xcl_e, a_Series_rule wE hk, a_Rule_is wE hk, eM, xcl_e]
  · rw [mo _ _ (by omega), co _ _ (by omega) (by omega) (by omega), ht]
  · rw [mo _ _ (by omega)]
    exact c2.1
  · rw [vM 0 (by decide), rE 0 (by omega)]
  · rw [vM 5 (by decide), E5]
  · rw [vM 6 (by decide), E6]
  · have r0M : iV M' (30 + 6 * k) 0 = iV M (30 + 6 * k) 0 := by rw [vM 0 (by decide), rE 0 (by omega)]
    constructor
    · intro z
      have z0 := z.1
      rw [r0M] at z0
      have q := (soM e (by rw [r0M]; exact z0) he2).mp z
      rw [ho, vM 5 (by decide), E5, vM 6 (by decide), E6] at q
      have q2 := q.2.2 rfl
      exact ⟨(dg_hol hd z0 (by omega)).mpr q.1, by omega⟩
    · rintro ⟨z, ze⟩
      refine (soM e (by rw [r0M]; exact z.1) he2).mpr ?_
      rw [ho, vM 5 (by decide), E5, vM 6 (by decide), E6]
      exact ⟨z.2.2, fun q => absurd q (by omega), fun _ => by omega⟩
end FRH
end
