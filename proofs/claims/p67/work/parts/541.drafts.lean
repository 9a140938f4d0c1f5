/-! draft 541.zonecalls -/
section
/-! ===== calls about zones ===== -/
def Bs (M : xM) : Prop := Wd M ∧ Sv M ∧ BoB 2 M
section ZCA
variable {O : Nat → Option va_E} {f : Nat} {M N : xM} {k : Nat} {z c l : Int}
theorem Bs.un {P : Nat → Prop} (h : Bs M) (u : Un P M N) (h1 : P 1) (h2 : ∀ k, k < 12 → P (2 + (27 + 6 * k))) : Bs N := ⟨u.wd h.1, h.2.1.un u h1, h.2.2.un u h2⟩
theorem Bs.ex (h : Bs M) (x : Ex M N) (hb : N.1 ≤ 500000000) : Bs N := by
  obtain ⟨a, b, c⟩ := h
  have hM := a.1
  refine ⟨x.wd a hb, ?_, fun k hk => ?_⟩
  · unfold Sv
    rw [x.i (by omega), x.i (by omega)]
    exact b
  · rw [x.i (by omega), x.i (by omega)]
    exact c k hk
theorem bs_save (h : Bs M) (hf : 20 ≤ f) : ∃ M', f_Calendarhall_saveForUndo O f 1 M = some ((), M') ∧ Un (fun a => a ≠ 1 ∧ (a < 140 ∨ 1044 ≤ a)) M M' ∧ Bs M' := by
  obtain ⟨M', e, u, w, s, b⟩ := sv_un (O := O) h.1 h.2.1 h.2.2 hf
  exact ⟨M', e, u, w, s, b⟩
theorem Zv.of (h : Zv M k) (e : ∀ a j, 12 + 3 * k ≤ a → a < 15 + 3 * k → iV N a j = iV M a j) : Zv N k := by
  unfold Zv rV
  simp (disch := omega) only [e]
  exact h
theorem sm_of {s : Int} (e : ∀ a j, 12 + 3 * k ≤ a → a < 15 + 3 * k → iV N a j = iV M a j) : sm N k s = sm M k s := by
  unfold sm sR
  simp (disch := omega) only [e]
theorem loc_of (e : ∀ a j, 12 + 3 * k ≤ a → a < 15 + 3 * k → iV N a j = iV M a j) : loc N k c = loc M k c := by
  unfold loc
  simp (disch := omega) only [e, sm_of e]
theorem com_of (e : ∀ a j, 12 + 3 * k ≤ a → a < 15 + 3 * k → iV N a j = iV M a j) : com N k c = com M k c := by
  unfold com
  simp (disch := omega) only [e, sm_of e]
theorem e_toLocal (h : Wd M) (z0 : 0 ≤ z) (z1 : z < 3) (hz : Zv M z.toNat) (h0 : 14400 ≤ c) (h1 : c ≤ 210240000) : f_Calendarhall_toLocal O f 1 z c M = some (loc M z.toNat c, M) := by
  unfold f_Calendarhall_toLocal
  rw [a_Cal_is h, c_zoneNumbered h z0 z1, c_needMinute h0 h1, a_Zone_is h (by omega), xc_of (e_localOf h (by omega) hz (by omega) (by omega))]
theorem c_toLocal (h : Wd M) (z0 : 0 ≤ z) (z1 : z < 3) (hz : Zv M z.toNat) (h0 : 14400 ≤ c) (h1 : c ≤ 210240000) {δ : Type} {A : _ → xM → Option δ} : xcl (f_Calendarhall_toLocal O f 1 z c M) A = A (loc M z.toNat c) (M) := xc_of (e_toLocal h z0 z1 hz h0 h1) A
theorem e_toCommon {b : Int} (h : Wd M) (z0 : 0 ≤ z) (z1 : z < 3) (hz : Zv M z.toNat) (h0 : 14400 ≤ c) (h1 : c ≤ 210240000) (hb : b = 0 ∨ b = 1) : f_Calendarhall_toCommon O f 1 z c b M = some ((if b = 0 then fst M z.toNat c else snd M z.toNat c), M) := by
  unfold f_Calendarhall_toCommon
  rw [a_Cal_is h, c_zoneNumbered h z0 z1, c_needMinute h0 h1]
  rcases hb with rfl | rfl
  · rw [eq_T rfl, a_Zone_is h (by omega), xc_of (e_firstOf h (by omega) hz (by omega) (by omega)), if_pos rfl]
  · rw [eq_F (by omega) (by omega) (by omega) (by omega) (by omega), a_Zone_is h (by omega), xc_of (e_secondOf h (by omega) hz (by omega) (by omega)), if_neg (by omega)]
theorem c_toCommon {b : Int} (h : Wd M) (z0 : 0 ≤ z) (z1 : z < 3) (hz : Zv M z.toNat) (h0 : 14400 ≤ c) (h1 : c ≤ 210240000) (hb : b = 0 ∨ b = 1) {δ : Type} {A : _ → xM → Option δ} : xcl (f_Calendarhall_toCommon O f 1 z c b M) A = A ((if b = 0 then fst M z.toNat c else snd M z.toNat c)) (M) := xc_of (e_toCommon h z0 z1 hz h0 h1 hb) A
theorem er_47 (h : Wd M) (hz : ∀ k, k < 3 → Zv M k) {w : Int} (hf : 1000 ≤ f) : ∀ (r n : Nat) (v : Int), 0 ≤ v → v + r = 3 → r < n → f_Calendarhall_errors_47 O f n 1 w v M = some (w, M) := by
  intro r
  induction r with
  | zero =>
    intro n v h0 h1 h2
    obtain ⟨n, rfl⟩ : ∃ n', n = n' + 1 := ⟨n - 1, by omega⟩
    show (if yw 3 ≤ yw v then _ else _) = _
    rw [le_T (by omega) (by omega) (by omega)]
  | succ r ih =>
    intro n v h0 h1 h2
    obtain ⟨n, rfl⟩ : ∃ n', n = n' + 1 := ⟨n - 1, by omega⟩
    show (if yw 3 ≤ yw v then _ else _) = _
    rw [le_F (by omega) (by omega) (by omega), a_Cal_hall h, a_Hall_is h, c_anyZone h (by omega) (by omega), a_Zone_is h (by omega), xc_of (e_zisRight h (by omega) (hz _ (by omega)) hf), eq_F (by omega) (by omega) (by omega) (by omega) (by omega)]
    exact ih n (v + 1) (by omega) (by omega) (by omega)
/-- no errors, where the series that are there are right -/
theorem er_4 (h : Wd M) (hz : ∀ k, k < 3 → Zv M k) (hs : ∀ k : Nat, k < 12 → iV M (29 + 6 * k) 0 = 0 ∨ (iV M (29 + 6 * k) 0 = 1 ∧ f_Rule_isRight O f (30 + 6 * k) M = some (1, M))) (hf : 1000 ≤ f) : ∀ (r n : Nat) (v : Int), 0 ≤ v → v + r = 12 → r < n → f_Calendarhall_errors_4 O f n 1 0 v M = some (0, M) := by
  intro r
  induction r with
  | zero =>
    intro n v h0 h1 h2
    obtain ⟨n, rfl⟩ : ∃ n', n = n' + 1 := ⟨n - 1, by omega⟩
    show (if yw 12 ≤ yw v then _ else _) = _
    rw [le_T (by omega) (by omega) (by omega)]
    exact er_47 h hz hf 3 f 0 (by omega) (by omega) (by omega)
  | succ r ih =>
    intro n v h0 h1 h2
    obtain ⟨n, rfl⟩ : ∃ n', n = n' + 1 := ⟨n - 1, by omega⟩
    show (if yw 12 ≤ yw v then _ else _) = _
    rw [le_F (by omega) (by omega) (by omega), a_Cal_hall h, a_Hall_is h, c_anySeries h (by omega) (by omega), a_Series_isThere h (by omega)]
    rcases hs v.toNat (by omega) with e | ⟨e, er⟩
    · rw [eq_T e]
      exact ih n (v + 1) (by omega) (by omega) (by omega)
    · rw [eq_F (by omega) (by omega) (by omega) (by omega) (by omega), a_Series_rule h (by omega), a_Rule_is h (by omega), er, xcl_e, eq_F (by omega) (by omega) (by omega) (by omega) (by omega)]
      exact ih n (v + 1) (by omega) (by omega) (by omega)
theorem e_errors (h : Wd M) (hz : ∀ k, k < 3 → Zv M k) (hs : ∀ k : Nat, k < 12 → iV M (29 + 6 * k) 0 = 0 ∨ (iV M (29 + 6 * k) 0 = 1 ∧ f_Rule_isRight O f (30 + 6 * k) M = some (1, M))) (hf : 1000 ≤ f) : f_Calendarhall_errors O f 1 M = some (0, M) := er_4 h hz hs hf 12 f 0 (by omega) (by omega) (by omega)
theorem c_errors (h : Wd M) (hz : ∀ k, k < 3 → Zv M k) (hs : ∀ k : Nat, k < 12 → iV M (29 + 6 * k) 0 = 0 ∨ (iV M (29 + 6 * k) 0 = 1 ∧ f_Rule_isRight O f (30 + 6 * k) M = some (1, M))) (hf : 1000 ≤ f) {δ : Type} {A : _ → xM → Option δ} : xcl (f_Calendarhall_errors O f 1 M) A = A (0) (M) := xc_of (e_errors h hz hs hf) A
theorem rem15 {p : Int} (h0 : -100 ≤ p) (h1 : p ≤ 100) : 15 * p - jdiv (15 * p) 15 * 15 = 0 := by
  rw [jdiv_t (by omega) (by omega) (by omega) (by omega), Int.mul_tdiv_cancel_left p (by decide)]
  omega
theorem sz_ok {p q : Int} (h : Bs M) (z0 : 0 ≤ z) (z1 : z < 3) (p0 : -48 ≤ p) (p1 : p ≤ 56) (q0 : 0 ≤ q) (q1 : q ≤ 8) (hf : 20 ≤ f) : ∃ M' r, f_Calendarhall_setZone O f 1 z (15 * p) (15 * q) M = some (r, M') ∧ Bs M' ∧ Un (fun a => a = 0 ∨ 1044 ≤ a ∨ (1 < a ∧ a < 140 ∧ a ≠ 12 + 3 * z.toNat)) M M' ∧ iV M' (12 + 3 * z.toNat) 0 = 15 * p ∧ iV M' (12 + 3 * z.toNat) 1 = 15 * q := by
  have hw := h.1
  obtain ⟨N, eN, uN, bN⟩ := bs_save (O := O) (f := f) h hf
  have wN := bN.1
  have w5 : Wd (iS N (12 + 3 * z.toNat) 0 (15 * p)) := wN
  obtain ⟨L, eL⟩ : ∃ L, L = iS (iS N (12 + 3 * z.toNat) 0 (15 * p)) (12 + 3 * z.toNat) 1 (15 * q) := ⟨_, rfl⟩
  have uL : Un (fun a => a ≠ 12 + 3 * z.toNat) N L := by
    rw [eL]
    exact (Un.rf.iS (by (try dsimp only); omega)).iS (by (try dsimp only); omega)
  refine ⟨L, iV M (12 + 3 * z.toNat) 0, ?_, bN.un uL (by (try dsimp only); omega) (fun k hk => by (try dsimp only); omega), (uN.le (fun a q => by (try dsimp only at q ⊢); omega)).tr (uL.le (fun a q => by (try dsimp only at q ⊢); omega)), ?_, ?_⟩
  · unfold f_Calendarhall_setZone
    rw [a_Cal_is hw, c_zoneNumbered hw z0 z1, c_needRange (by omega) (by omega) (by omega) (by omega), c_needRange (by omega) (by omega) (by omega) (by omega), rem15 (by omega) (by omega), eq_T rfl, rem15 (by omega) (by omega), eq_T rfl, a_Zone_offset hw (by omega), a_Cal_is hw, eN, xcl_e, p_Zone_offset wN (by omega), p_Zone_shift w5 (by omega), ← eL]
  · rw [eL, iV_o (by omega), iV_s (by omega) (by omega)]
  · rw [eL, iV_s (by omega) (by omega)]
/-- where a switch's row lies -/
def rwA (z b : Int) : Nat := if b = 0 then 14 + 3 * z.toNat else 13 + 3 * z.toNat
theorem e_switchMonth {b : Int} (h : Wd M) (z0 : 0 ≤ z) (z1 : z < 3) (hb : b = 0 ∨ b = 1) : f_Zone_switchMonth O f (12 + 3 * z.toNat) b M = some (iV M (rwA z b) 0, M) := by
  have rF := z4 (O := O) (γ := Int × xM) (h.b (k := 13 + 3 * z.toNat) (by omega)) ((h.s (by omega)).trans (shp_Zone_forth (by omega)))
  have rB := z4 (O := O) (γ := Int × xM) (h.b (k := 14 + 3 * z.toNat) (by omega)) ((h.s (by omega)).trans (shp_Zone_back (by omega)))
  unfold f_Zone_switchMonth rwA
  rcases hb with rfl | rfl
  · rw [eq_T rfl, if_pos rfl, a_Zone_back h (by omega), rB.1]
  · rw [eq_F (by omega) (by omega) (by omega) (by omega) (by omega), if_neg (by omega), a_Zone_forth h (by omega), rF.1]
theorem c_switchMonth {b : Int} (h : Wd M) (z0 : 0 ≤ z) (z1 : z < 3) (hb : b = 0 ∨ b = 1) {δ : Type} {A : _ → xM → Option δ} : xcl (f_Zone_switchMonth O f (12 + 3 * z.toNat) b M) A = A (iV M (rwA z b) 0) (M) := xc_of (e_switchMonth h z0 z1 hb) A
theorem ss_ok {b m p w t : Int} (h : Bs M) (z0 : 0 ≤ z) (z1 : z < 3) (hb : b = 0 ∨ b = 1) (m0 : 1 ≤ m) (m1 : m ≤ 12) (p0 : 1 ≤ p) (p1 : p ≤ 5) (w0 : 0 ≤ w) (w1 : w ≤ 6) (t0 : 0 ≤ t) (t1 : t ≤ 1439) (hne : m ≠ iV M (rwA z (1 - b)) 0) (hf : 20 ≤ f) : ∃ M', f_Calendarhall_setSwitch O f 1 z b m p w t M = some (iV M (rwA z b) 0, M') ∧ Bs M' ∧ Un (fun a => a = 0 ∨ 1044 ≤ a ∨ (1 < a ∧ a < 140 ∧ a ≠ rwA z b)) M M' ∧ iV M' (rwA z b) 0 = m ∧ iV M' (rwA z b) 1 = p ∧ iV M' (rwA z b) 2 = w ∧ iV M' (rwA z b) 3 = t := by
  have hw := h.1
  obtain ⟨N, eN, uN, bN⟩ := bs_save (O := O) (f := f) h hf
  have wN := bN.1
  have hr : rwA z b = 13 + 3 * z.toNat ∨ rwA z b = 14 + 3 * z.toNat := by
    unfold rwA
    split <;> omega
  have hlt : 12 < rwA z b ∧ rwA z b < 24 := by omega
  have hsh : shp (rwA z b) = .inr (0, 4) := by
    rcases hr with e | e <;> rw [e]
    · exact shp_Zone_forth (by omega)
    · exact shp_Zone_back (by omega)
  obtain ⟨a, ea⟩ : ∃ a, a = rwA z b := ⟨_, rfl⟩
  obtain ⟨L, eL⟩ : ∃ L, L = iS (iS (iS (iS N a 0 m) a 1 p) a 2 w) a 3 t := ⟨_, rfl⟩
  rw [← ea] at hlt hsh ⊢
  have uL : Un (fun x => x ≠ a) N L := by
    rw [eL]
    exact (((Un.rf.iS (by (try dsimp only); omega)).iS (by (try dsimp only); omega)).iS (by (try dsimp only); omega)).iS (by (try dsimp only); omega)
  have put : f_Zone_putSwitch_15 O f m p w t a N = some ((), L) := by
    have q1 : Wd (iS N a 0 m) := wN
    have q2 : Wd (iS (iS N a 0 m) a 1 p) := wN
    have q3 : Wd (iS (iS (iS N a 0 m) a 1 p) a 2 w) := wN
    unfold f_Zone_putSwitch_15
    rw [wN.wJ (k := a) (n := 4) (by omega) hsh (by decide) (by decide) (by decide)]
    show (wJ (iS N a 0 m) a 1 p).bind _ = _
    rw [q1.wJ (k := a) (n := 4) (by omega) hsh (by decide) (by decide) (by decide)]
    show (wJ (iS (iS N a 0 m) a 1 p) a 2 w).bind _ = _
    rw [q2.wJ (k := a) (n := 4) (by omega) hsh (by decide) (by decide) (by decide)]
    show (wJ (iS (iS (iS N a 0 m) a 1 p) a 2 w) a 3 t).bind _ = _
    rw [q3.wJ (k := a) (n := 4) (by omega) hsh (by decide) (by decide) (by decide), eL]
    rfl
  have put2 : f_Zone_putSwitch O f (12 + 3 * z.toNat) b m p w t N = some ((), L) := by
    unfold f_Zone_putSwitch
    rcases hb with rfl | rfl
    · have : a = 14 + 3 * z.toNat := by rw [ea]; exact if_pos rfl
      rw [eq_T rfl, a_Zone_back wN (by omega), ← this]
      exact put
    · have : a = 13 + 3 * z.toNat := by rw [ea]; exact if_neg (by omega)
      rw [eq_F (by omega) (by omega) (by omega) (by omega) (by omega), a_Zone_forth wN (by omega), ← this]
      exact put
  have rn := iV_r M (rwA z (1 - b)) 0
  refine ⟨L, ?_, bN.un uL (by (try dsimp only); omega) (fun k hk => by (try dsimp only); omega), (uN.le (fun a q => by (try dsimp only at q ⊢); omega)).tr (uL.le (fun a q => by (try dsimp only at q ⊢); omega)), ?_, ?_, ?_, ?_⟩
  · have body : f_Calendarhall_setSwitch_50 O f 1 b m p w t (12 + 3 * z.toNat) m (12 + 3 * z.toNat) (1 - b) M = some (iV M a 0, L) := by
      unfold f_Calendarhall_setSwitch_50
      rw [a_Zone_is hw (by omega), xc_of (e_switchMonth hw z0 z1 (by omega)), eq_F hne (by omega) (by omega) (by omega) (by omega), a_Zone_is hw (by omega), xc_of (e_switchMonth hw z0 z1 hb), a_Cal_is hw, eN, xcl_e, a_Zone_is wN (by omega), put2, xcl_e, ← ea]
    unfold f_Calendarhall_setSwitch
    rw [a_Cal_is hw, c_zoneNumbered hw z0 z1, c_needRange (by omega) (by omega) (by omega) (by omega), c_needRange (by omega) (by omega) (by omega) (by omega), c_needRange (by omega) (by omega) (by omega) (by omega), c_needRange (by omega) (by omega) (by omega) (by omega)]
    rcases hb with rfl | rfl
    · rw [eq_T rfl]
      exact body
    · rw [eq_F (by omega) (by omega) (by omega) (by omega) (by omega)]
      exact body
  · rw [eL, iV_o (by omega), iV_o (by omega), iV_o (by omega), iV_s (by omega) (by omega)]
  · rw [eL, iV_o (by omega), iV_o (by omega), iV_s (by omega) (by omega)]
  · rw [eL, iV_o (by omega), iV_s (by omega) (by omega)]
  · rw [eL, iV_s (by omega) (by omega)]
end ZCA
theorem Bs.kp {P : Nat → Prop} {M N : xM} (h : Bs M) (u : Kp P M N) (hb : N.1 ≤ 500000000) (h1 : P 1) (h2 : ∀ k, k < 12 → P (2 + (27 + 6 * k))) : Bs N := by
  have hM := h.1.1
  refine ⟨u.wd h.1 hb, ?_, fun k hk => ?_⟩
  · unfold Sv
    rw [u.i (by omega) h1, u.i (by omega) h1]
    exact h.2.1
  · rw [u.i (by omega) (h2 k hk), u.i (by omega) (h2 k hk)]
    exact h.2.2 k hk
end
/-! draft 542.ldays -/
section
/-! ===== the law's own calendar ===== -/
/-- what the law's days tell -/
def ldV (j : Nat) (d : Int) : Int := if j = 0 then 2000 + cMonth d / 12 else if j = 1 then cMonth d % 12 + 1 else if j = 2 then d - cBegin (cMonth d) + 1 else (d + 5) % 7
def LDs (n : Nat) (M : xM) : Prop := 1044 ≤ n ∧ n + 5 ≤ M.1 ∧ M.1 ≤ 500000000 ∧ mS M n = .inl 14 ∧ ∀ j : Nat, j < 4 → mR M n j = some (n + 1 + j) ∧ mS M (n + 1 + j) = .inr (0, 6000)
def LDv (n : Nat) (M : xM) (v : Int) : Prop := ∀ j d : Nat, j < 4 → (d : Int) < v → iV M (n + 1 + j) d = ldV j d
def LD (n : Nat) (M : xM) : Prop := LDs n M ∧ LDv n M 6000
section LDY
variable {O : Nat → Option va_E} {f n : Nat} {M N : xM} {d y m : Int} {γ : Type}
theorem LDs.sm (h : LDs n M) (s : Sm M N) : LDs n N := by
  obtain ⟨a, b, c, e, g⟩ := h
  refine ⟨a, by rw [s.1]; exact b, by rw [s.1]; exact c, by rw [s.s]; exact e, fun j hj => ?_⟩
  rw [s.r, s.s]
  exact g j hj
theorem LDs.gR (h : LDs n M) {j : Nat} (hj : j < 4) {A : Nat → Option γ} : (gR O M n 14 j).bind A = A (n + 1 + j) := by
  have q : ∀ j, j < 4 → j < xNf 14 ∧ xkR (xTy 14 j) = true := by decide
  exact z_gR ⟨by have := h.2.1; have := h.2.2.1; omega, by have := h.2.1; omega⟩ h.2.2.2.1 (q j hj).1 (q j hj).2 (h.2.2.2.2 j hj).1
theorem LDs.is (h : LDs n M) {A : Unit → Option γ} : (isO O M n 14).bind A = A () := z_is ⟨by have := h.2.1; have := h.2.2.1; omega, by have := h.2.1; omega⟩ h.2.2.2.1
theorem LDs.aJ (h : LDs n M) {j : Nat} (hj : j < 4) (h0 : 0 ≤ d) (h1 : d < 6000) {A : Int → Option γ} : (aJ O M (n + 1 + j) d).bind A = A (iV M (n + 1 + j) d.toNat) := z_aJ ⟨by have := h.2.1; have := h.2.2.1; omega, by have := h.2.1; omega⟩ (h.2.2.2.2 j hj).2 h0 h1 (by omega)
theorem LDs.wJ (h : LDs n M) {j : Nat} {x : Int} (hj : j < 4) (h0 : 0 ≤ d) (h1 : d < 6000) {A : xM → Option γ} : (wJ M (n + 1 + j) d x).bind A = A (iS M (n + 1 + j) d.toNat x) := z_wJ ⟨by have := h.2.1; have := h.2.2.1; omega, by have := h.2.1; omega⟩ (h.2.2.2.2 j hj).2 h0 h1 (by omega)
theorem LD.at (h : LD n M) {j : Nat} (hj : j < 4) (h0 : 0 ≤ d) (h1 : d < 6000) {A : Int → Option γ} : (aJ O M (n + 1 + j) d).bind A = A (ldV j d) := by
  rw [h.1.aJ hj h0 h1, h.2 j d.toNat hj (by omega), Int.toNat_of_nonneg h0]
theorem LD.un {P : Nat → Prop} (h : LD n M) (u : Un P M N) (hp : ∀ j, j < 4 → P (n + 1 + j)) : LD n N := ⟨h.1.sm u.1, fun j d hj hd => by rw [u.i (hp j hj)]; exact h.2 j d hj hd⟩
theorem LD.ex (h : LD n M) (x : Ex M N) (hb : N.1 ≤ 500000000) : LD n N := by
  obtain ⟨⟨a, b, c, e, g⟩, v⟩ := h
  refine ⟨⟨a, by have := x.1; omega, hb, by rw [(x.2 n (by omega)).1]; exact e, fun j hj => ?_⟩, fun j d hj hd => ?_⟩
  · rw [(x.2 n (by omega)).2.2.2, (x.2 (n + 1 + j) (by omega)).1]
    exact g j hj
  · rw [x.i (by omega)]
    exact v j d hj hd
theorem e_LDlength (y0 : 2000 ≤ y) (y1 : y ≤ 2399) (m0 : 1 ≤ m) (m1 : m ≤ 12) : f_LDays_length O f n y m M = some (cLen (12 * (y - 2000) + m - 1), M) := by
  have t26 : ∀ b : Int, b = 0 ∨ b = 1 → f_LDays_length_26 O f m b M = some ((if m = 2 then (if b = 0 then 28 else 29) else if m = 4 ∨ m = 6 ∨ m = 9 ∨ m = 11 then 30 else 31), M) := by
    intro b hb
    unfold f_LDays_length_26
    have hm : m = 1 ∨ m = 2 ∨ m = 3 ∨ m = 4 ∨ m = 5 ∨ m = 6 ∨ m = 7 ∨ m = 8 ∨ m = 9 ∨ m = 10 ∨ m = 11 ∨ m = 12 := by omega
    rcases hb with rfl | rfl <;> rcases hm with rfl | rfl | rfl | rfl | rfl | rfl | rfl | rfl | rfl | rfl | rfl | rfl <;> rfl
  unfold f_LDays_length f_LDays_length_21 f_LDays_length_25
  rw [t26 1 (Or.inr rfl), t26 0 (Or.inl rfl), jrem_e (by omega) (by omega) (by omega) (by omega), jrem_e (by omega) (by omega) (by omega) (by omega), jrem_e (by omega) (by omega) (by omega) (by omega)]
  have hl : ∀ b : Int, (b = 1 ↔ cLeap (y - 2000)) → b = 0 ∨ b = 1 → (if m = 2 then (if b = 0 then 28 else 29) else if m = 4 ∨ m = 6 ∨ m = 9 ∨ m = 11 then 30 else 31) = cLen (12 * (y - 2000) + m - 1) := by
    intro b hb hb2
    by_cases e : m = 2
    · subst e
      rw [if_pos rfl, show 12 * (y - 2000) + 2 - 1 = 12 * (y - 2000) + 1 by omega, c_len]
      rcases hb2 with rfl | rfl
      · rw [if_pos rfl, if_neg (fun q => by have := hb.mpr q; omega)]
      · rw [if_neg (show ¬ ((1 : Int) = 0) by omega), if_pos (hb.mp rfl)]
    · rw [if_neg e]
      unfold cLen
      rw [show (12 * (y - 2000) + m - 1) % 12 = m - 1 by omega, if_neg (show ¬ (m - 1 = 1) by omega)]
      by_cases g : m = 4 ∨ m = 6 ∨ m = 9 ∨ m = 11
      · rw [if_pos g, if_pos (by omega)]
      · rw [if_neg g, if_neg (by omega)]
  by_cases g4 : y % 400 = 0
  · rw [eq_T g4, hl 1 ⟨fun _ => ⟨by omega, Or.inr (by omega)⟩, fun _ => rfl⟩ (Or.inr rfl)]
  rw [eq_F g4 (by omega) (by omega) (by omega) (by omega)]
  by_cases g : y % 4 = 0
  · rw [eq_T g]
    by_cases g1 : y % 100 = 0
    · rw [eq_T g1, hl 0 ⟨fun q => by omega, fun q => by omega⟩ (Or.inl rfl)]
    · rw [eq_F g1 (by omega) (by omega) (by omega) (by omega), hl 1 ⟨fun _ => ⟨by omega, Or.inl (by omega)⟩, fun _ => rfl⟩ (Or.inr rfl)]
  · rw [eq_F g (by omega) (by omega) (by omega) (by omega), hl 0 ⟨fun q => by omega, fun q => by omega⟩ (Or.inl rfl)]
theorem c_LDlength (y0 : 2000 ≤ y) (y1 : y ≤ 2399) (m0 : 1 ≤ m) (m1 : m ≤ 12) {δ : Type} {A : _ → xM → Option δ} : xcl (f_LDays_length O f n y m M) A = A (cLen (12 * (y - 2000) + m - 1)) (M) := xc_of (e_LDlength y0 y1 m0 m1) A
theorem ld_51 : ∀ (r t : Nat) (y m c v : Int) (M : xM), LDs n M → LDv n M v → 0 ≤ v → v + r = 6000 → r < t → y = 2000 + cMonth v / 12 → m = cMonth v % 12 + 1 → c = v - cBegin (cMonth v) + 1 → ∃ M', f_LDays_ctor_51 O f t n y m c v M = some ((), M') ∧ LDs n M' ∧ LDv n M' 6000 ∧ Un (fun a => a ≤ n ∨ n + 5 ≤ a) M M' := by
  intro r
  induction r with
  | zero =>
    intro t y m c v M hs hv h0 h1 h2 _ _ _
    obtain ⟨t, rfl⟩ : ∃ n', t = n' + 1 := ⟨t - 1, by omega⟩
    refine ⟨M, ?_, hs, fun j d hj hd => hv j d hj (by omega), Un.rf⟩
    show (if yw 6000 ≤ yw v then _ else _) = _
    rw [le_T (by omega) (by omega) (by omega)]
  | succ r ih =>
    intro t y m c v M hs hv h0 h1 h2 hy hm hc
    obtain ⟨t, rfl⟩ : ∃ n', t = n' + 1 := ⟨t - 1, by omega⟩
    obtain ⟨c0, c1, c2, c3⟩ := c_in (d := v) h0 (by omega)
    have hl := cLen_r (cMonth v)
    have hcb := c_begin_r c0 c1
    obtain ⟨w, ew⟩ : ∃ w, w = (v + 5) % 7 := ⟨_, rfl⟩
    obtain ⟨M4, e4⟩ : ∃ M4, M4 = iS (iS (iS (iS M (n + 1 + 0) v.toNat y) (n + 1 + 1) v.toNat m) (n + 1 + 2) v.toNat c) (n + 1 + 3) v.toNat w := ⟨_, rfl⟩
    have u4 : Un (fun a => a ≤ n ∨ n + 5 ≤ a) M M4 := by
      rw [e4]
      exact (((Un.rf.iS (by (try dsimp only); omega)).iS (by (try dsimp only); omega)).iS (by (try dsimp only); omega)).iS (by (try dsimp only); omega)
    have s4 : LDs n M4 := hs.sm u4.1
    have v4 : LDv n M4 (v + 1) := by
      intro j d hj hd
      by_cases e : (d : Int) = v
      · have ed : d = v.toNat := by omega
        rw [e4, ed]
        have hj4 : j = 0 ∨ j = 1 ∨ j = 2 ∨ j = 3 := by omega
        have hvz : ((v.toNat : Nat) : Int) = v := by omega
        rw [hvz]
        rcases hj4 with rfl | rfl | rfl | rfl
        · rw [iV_o (by omega), iV_o (by omega), iV_o (by omega), iV_s (by omega) (by omega)]
          exact hy
        · rw [iV_o (by omega), iV_o (by omega), iV_s (by omega) (by omega)]
          exact hm
        · rw [iV_o (by omega), iV_s (by omega) (by omega)]
          exact hc
        · rw [iV_s (by omega) (by omega)]
          exact ew
      · rw [e4, iV_o (by omega), iV_o (by omega), iV_o (by omega), iV_o (by omega)]
        exact hv j d hj (by omega)
    have step : ∀ y' m' c' : Int, y' = 2000 + cMonth (v + 1) / 12 → m' = cMonth (v + 1) % 12 + 1 → c' = (v + 1) - cBegin (cMonth (v + 1)) + 1 → ∃ M', f_LDays_ctor_51 O f t n y' m' c' (v + 1) M4 = some ((), M') ∧ LDs n M' ∧ LDv n M' 6000 ∧ Un (fun a => a ≤ n ∨ n + 5 ≤ a) M M' := by
      intro y' m' c' g1 g2 g3
      obtain ⟨M', e', s', v', u'⟩ := ih t y' m' c' (v + 1) M4 s4 v4 (by omega) (by omega) (by omega) g1 g2 g3
      exact ⟨M', e', s', v', u4.tr u'⟩
    -- the turn's end
    have t112 : f_LDays_ctor_112 O f (f_LDays_ctor_51 O f t) n y m c v (n + 1 + 3) v w (iS (iS (iS M (n + 1 + 0) v.toNat y) (n + 1 + 1) v.toNat m) (n + 1 + 2) v.toNat c) = if yw (cLen (cMonth v)) < yw (c + 1) then (if yw 12 < yw (m + 1) then f_LDays_ctor_51 O f t n (y + 1) 1 1 (v + 1) M4 else f_LDays_ctor_51 O f t n y (m + 1) 1 (v + 1) M4) else f_LDays_ctor_51 O f t n y m (c + 1) (v + 1) M4 := by
      have s3 : LDs n (iS (iS (iS M (n + 1 + 0) v.toNat y) (n + 1 + 1) v.toNat m) (n + 1 + 2) v.toNat c) := hs
      unfold f_LDays_ctor_112
      rw [s3.wJ (by decide) h0 (by omega), ← e4, s4.is, xc_of (e_LDlength (by omega) (by omega) (by omega) (by omega)), show 12 * (y - 2000) + m - 1 = cMonth v by omega]
    have fin : ∃ M', f_LDays_ctor_112 O f (f_LDays_ctor_51 O f t) n y m c v (n + 1 + 3) v w (iS (iS (iS M (n + 1 + 0) v.toNat y) (n + 1 + 1) v.toNat m) (n + 1 + 2) v.toNat c) = some ((), M') ∧ LDs n M' ∧ LDv n M' 6000 ∧ Un (fun a => a ≤ n ∨ n + 5 ≤ a) M M' := by
      rw [t112]
      by_cases g : cLen (cMonth v) < c + 1
      · have hn : cBegin (cMonth v + 1) = v + 1 := by
          rw [c_next c0 (by
            rcases Int.lt_or_le (cMonth v) 4799 with q | q
            · exact q
            · exfalso
              have e99 : cMonth v = 4799 := by omega
              have b99 : cBegin 4799 = 146066 := by decide
              rw [e99, b99] at c2
              omega)]
          omega
        have c99 : cMonth v < 4799 := by
          rcases Int.lt_or_le (cMonth v) 4799 with q | q
          · exact q
          · exfalso
            have e99 : cMonth v = 4799 := by omega
            have b99 : cBegin 4799 = 146066 := by decide
            rw [e99, b99] at c2
            omega
        have hl2 := cLen_r (cMonth v + 1)
        have hu : cMonth (v + 1) = cMonth v + 1 := c_uniq (by omega) (by omega) (by omega) (by omega) (by omega)
        rw [lt_T g (by omega) (by omega)]
        by_cases g2 : 12 < m + 1
        · rw [lt_T g2 (by omega) (by omega)]
          exact step _ _ _ (by omega) (by omega) (by rw [hu]; omega)
        · rw [lt_F (by omega) (by omega) (by omega)]
          exact step _ _ _ (by omega) (by omega) (by rw [hu]; omega)
      · have hu : cMonth (v + 1) = cMonth v := c_uniq (by omega) (by omega) (by omega) (by omega) (by omega)
        rw [lt_F (by omega) (by omega) (by omega)]
        exact step _ _ _ (by omega) (by omega) (by rw [hu]; omega)
    obtain ⟨M', e', z⟩ := fin
    refine ⟨M', ?_, z⟩
    rw [← e']
    have s1 : LDs n (iS M (n + 1 + 0) v.toNat y) := hs
    have s2 : LDs n (iS (iS M (n + 1 + 0) v.toNat y) (n + 1 + 1) v.toNat m) := hs
    have s3 : LDs n (iS (iS (iS M (n + 1 + 0) v.toNat y) (n + 1 + 1) v.toNat m) (n + 1 + 2) v.toNat c) := hs
    show (if yw 6000 ≤ yw v then _ else _) = _
    rw [le_F (by omega) (by omega) (by omega), hs.gR (j := 0) (by decide), hs.wJ (j := 0) (by decide) h0 (by omega), s1.gR (j := 1) (by decide), s1.wJ (j := 1) (by decide) h0 (by omega), s2.gR (j := 2) (by decide), s2.wJ (j := 2) (by decide) h0 (by omega), s3.gR (j := 3) (by decide)]
    by_cases g : v = 0
    · rw [eq_T g, show w = 5 by omega]
    · have hp := hv 3 (v - 1).toNat (by decide) (by omega)
      rw [show (((v - 1).toNat : Nat) : Int) = v - 1 by omega] at hp
      have hp2 : ldV 3 (v - 1) = (v - 1 + 5) % 7 := rfl
      rw [eq_F g (by omega) (by omega) (by omega) (by omega), s3.gR (j := 3) (by decide), s3.aJ (j := 3) (by decide) (by omega) (by omega), iV_o (by omega), iV_o (by omega), iV_o (by omega), hp, hp2, jrem_e (by omega) (by omega) (by omega) (by omega), show ((v - 1 + 5) % 7 + 1) % 7 = w by omega]
/-- the law's calendar is made -/
theorem ld_ok (hM : 1044 ≤ M.1) (hb : M.1 ≤ 1000000) (hf : 7000 ≤ f) : ∃ N M', nO M 14 = some (M.1, N) ∧ f_LDays_ctor O f M.1 N = some ((), M') ∧ LD M.1 M' ∧ Ex M M' ∧ M'.1 = M.1 + 5 ∧ M'.2.1 = M.2.1 + 24004 := by
  obtain ⟨n, en⟩ : ∃ n, n = M.1 := ⟨_, rfl⟩
  obtain ⟨N0, e0⟩ : ∃ N0, N0 = mnew M (.inl 14) (xNf 14) := ⟨_, rfl⟩
  have g0 : nO M 14 = some (M.1, N0) := by
    unfold nO
    rw [if_pos (by omega), e0]
  have k0 : N0.1 = n + 1 := by rw [e0, en]; rfl
  have s0 : N0.2.1 = M.2.1 + 4 := by rw [e0]; rfl
  have x0 : Ex M N0 := by rw [e0]; exact Ex.new
  have sh0 : mS N0 n = .inl 14 := by
    rw [e0, en]
    exact if_pos rfl
  -- a row, and its place in the object
  have row : ∀ (j : Nat) (L : xM), j < 4 → L.1 = n + 1 + j → mS L n = .inl 14 → ∃ L', (∀ A : xM → Option (Unit × xM), (xcl (nAJ L 0 6000) fun x1 M1 => (pR M1 n 14 j (some x1)).bind A) = A L') ∧ L'.1 = n + 1 + (j + 1) ∧ L'.2.1 = L.2.1 + 6000 ∧ mS L' n = .inl 14 ∧ mR L' n j = some (n + 1 + j) ∧ mS L' (n + 1 + j) = .inr (0, 6000) ∧ (∀ a, a < L.1 → mS L' a = mS L a ∧ mI L' a = mI L a ∧ mL L' a = mL L a ∧ (a ≠ n → mR L' a = mR L a)) ∧ (∀ i, i ≠ j → mR L' n i = mR L n i) := by
    intro j L hj hL hS
    have q : ∀ j, j < 4 → j < xNf 14 ∧ xkR (xTy 14 j) = true := by decide
    obtain ⟨L1, e1⟩ : ∃ L1, L1 = mnew L (.inr (0, (6000 : Int).toNat)) (6000 : Int).toNat := ⟨_, rfl⟩
    have k1 : L1.1 = n + 1 + (j + 1) := by
      rw [e1]
      show L.1 + 1 = _
      omega
    have hs1 : mS L1 n = .inl 14 := by
      rw [e1]
      exact (if_neg (by omega)).trans hS
    refine ⟨msR L1 n (mup (mR L1 n) j (some (n + 1 + j))), ?_, ?_, ?_, ?_, ?_, ?_, ?_, ?_⟩
    · intro A
      rw [x_nAJ (by omega) (by omega) (by omega), xcl_e, ← e1, c_pR (by omega) (by omega) hs1 (q j hj).1 (q j hj).2, hL]
      rfl
    · exact k1
    · show L1.2.1 = _
      rw [e1]
      rfl
    · exact hs1
    · show (if n = n then mup (mR L1 n) j (some (n + 1 + j)) else mR L1 n) j = _
      rw [if_pos rfl]
      exact if_pos rfl
    · show mS L1 (n + 1 + j) = _
      rw [e1]
      exact if_pos hL.symm
    · intro a ha
      refine ⟨?_, ?_, ?_, fun hn => ?_⟩
      · show mS L1 a = _
        rw [e1]
        exact if_neg (by omega)
      · show mI L1 a = _
        rw [e1]
        exact if_neg (by omega)
      · show mL L1 a = _
        rw [e1]
        exact if_neg (by omega)
      · show (if a = n then mup (mR L1 n) j (some (n + 1 + j)) else mR L1 a) = _
        rw [if_neg hn, e1]
        exact if_neg (by omega)
    · intro i hi
      show (if n = n then mup (mR L1 n) j (some (n + 1 + j)) else mR L1 n) i = _
      rw [if_pos rfl]
      show (if i = j then _ else mR L1 n i) = _
      rw [if_neg hi, e1]
      show (if n = L.1 then _ else mR L n) i = _
      rw [if_neg (by omega)]
  obtain ⟨L1, a1, b1, c1, d1, r1, t1, o1, p1⟩ := row 0 N0 (by decide) k0 sh0
  obtain ⟨L2, a2, b2, c2, d2, r2, t2, o2, p2⟩ := row 1 L1 (by decide) b1 d1
  obtain ⟨L3, a3, b3, c3, d3, r3, t3, o3, p3⟩ := row 2 L2 (by decide) b2 d2
  obtain ⟨L4, a4, b4, c4, d4, r4, t4, o4, p4⟩ := row 3 L3 (by decide) b3 d3
  have hs : LDs n L4 := by
    refine ⟨by omega, by omega, by omega, d4, fun j hj => ?_⟩
    have hj4 : j = 0 ∨ j = 1 ∨ j = 2 ∨ j = 3 := by omega
    rcases hj4 with rfl | rfl | rfl | rfl
    · refine ⟨by rw [p4 0 (by omega), p3 0 (by omega), p2 0 (by omega)]; exact r1, ?_⟩
      rw [(o4 (n + 1 + 0) (by omega)).1, (o3 (n + 1 + 0) (by omega)).1, (o2 (n + 1 + 0) (by omega)).1]
      exact t1
    · refine ⟨by rw [p4 1 (by omega), p3 1 (by omega)]; exact r2, ?_⟩
      rw [(o4 (n + 1 + 1) (by omega)).1, (o3 (n + 1 + 1) (by omega)).1]
      exact t2
    · refine ⟨by rw [p4 2 (by omega)]; exact r3, ?_⟩
      rw [(o4 (n + 1 + 2) (by omega)).1]
      exact t3
    · exact ⟨r4, t4⟩
  have ex4 : ∀ L : xM, Un (fun a => a ≤ n ∨ n + 5 ≤ a) L4 L → Ex M L := by
    intro L u
    refine ⟨by rw [u.1.1]; omega, fun a ha => ?_⟩
    have q1 := o1 a (by omega)
    have q2 := o2 a (by omega)
    have q3 := o3 a (by omega)
    have q4 := o4 a (by omega)
    have q0 := x0.2 a ha
    have qu := u.2 a (by (try dsimp only); omega)
    refine ⟨?_, ?_, ?_, ?_⟩
    · rw [u.1.s, q4.1, q3.1, q2.1, q1.1, q0.1]
    · rw [qu.1, q4.2.1, q3.2.1, q2.2.1, q1.2.1, q0.2.1]
    · rw [qu.2, q4.2.2.1, q3.2.2.1, q2.2.2.1, q1.2.2.1, q0.2.2.1]
    · rw [u.1.r, q4.2.2.2 (by omega), q3.2.2.2 (by omega), q2.2.2.2 (by omega), q1.2.2.2 (by omega), q0.2.2.2]
  obtain ⟨M', e', s', v', u'⟩ := ld_51 (O := O) (f := f) 6000 f 2000 1 1 0 L4 hs (fun j d hj hd => by omega) (by omega) (by omega) (by omega) (by decide) (by decide) (by decide)
  refine ⟨N0, M', g0, ?_, ?_, ex4 M' u', ?_, ?_⟩
  · rw [← en]
    unfold f_LDays_ctor
    rw [a1, a2, a3, a4]
    exact e'
  · rw [← en]
    exact ⟨s', v'⟩
  · rw [u'.1.1]
    omega
  · rw [u'.1.2.1]
    omega
end LDY
theorem LD.kp {n : Nat} {P : Nat → Prop} {M N : xM} (h : LD n M) (x : Kp P M N) (hb : N.1 ≤ 500000000) (hp : ∀ j, j < 4 → P (n + 1 + j)) : LD n N := by
  obtain ⟨⟨a, b, c, e, g⟩, v⟩ := h
  refine ⟨⟨a, by have := x.1; omega, hb, by rw [(x.2.1 n (by omega)).1]; exact e, fun j hj => ?_⟩, fun j d hj hd => ?_⟩
  · rw [(x.2.1 n (by omega)).2, (x.2.1 (n + 1 + j) (by omega)).1]
    exact g j hj
  · rw [x.i (by omega) (hp j hj)]
    exact v j d hj hd
end
/-! draft 543.arezones -/
section
/-! ===== the law of zones: its searches ===== -/
/-- the month's number -/
def mIx (y m : Int) : Int := 12 * (y - 2000) + m - 1
theorem cB132 : cBegin 132 = 4018 := by decide
theorem mIx_b {y m : Int} (y0 : 2000 ≤ y) (y1 : y ≤ 2010) (m0 : 1 ≤ m) (m1 : m ≤ 12) : 0 ≤ mIx y m ∧ mIx y m < 132 ∧ 0 ≤ cBegin (mIx y m) ∧ cBegin (mIx y m) + cLen (mIx y m) ≤ 4018 := by
  have h1 : 0 ≤ mIx y m := by unfold mIx; omega
  have h2 : mIx y m < 132 := by unfold mIx; omega
  have h3 := c_mono h1 h2 (by omega)
  rw [cB132] at h3
  exact ⟨h1, h2, (c_begin_r h1 (by omega)).1, h3⟩
section AZO
variable {O : Nat → Option va_E} {f : Nat} {M N : xM} {y : Int}
/-- the law's zone branch: its rows -/
def Zr (M : xM) : Prop := Ar 1049 2 M ∧ Ar 1050 2 M ∧ Ar 1051 2 M ∧ Ar 1052 2 M ∧ Ar 1053 2 M ∧ ∀ k : Nat, k < 2 → 1 ≤ iV M 1049 k ∧ iV M 1049 k ≤ 12 ∧ 1 ≤ iV M 1050 k ∧ iV M 1050 k ≤ 5 ∧ 0 ≤ iV M 1051 k ∧ iV M 1051 k ≤ 6 ∧ 0 ≤ iV M 1052 k ∧ iV M 1052 k ≤ 1439
/-- the switch that the law reckons -/
def atL (M : xM) (y : Int) (k : Nat) : Int := sW (iV M 1050 k) (iV M 1051 k) (iV M 1052 k) (mIx y (iV M 1049 k))
theorem Zr.un {P : Nat → Prop} (h : Zr M) (u : Un P M N) (p : P 1049 ∧ P 1050 ∧ P 1051 ∧ P 1052) : Zr N := by
  obtain ⟨a, b, c, d, e, g⟩ := h
  refine ⟨a.un u, b.un u, c.un u, d.un u, e.un u, fun k hk => ?_⟩
  rw [u.i p.1, u.i p.2.1, u.i p.2.2.1, u.i p.2.2.2]
  exact g k hk
theorem atL.un {P : Nat → Prop} {k : Nat} (u : Un P M N) (p : P 1049 ∧ P 1050 ∧ P 1051 ∧ P 1052) : atL N y k = atL M y k := by
  unfold atL
  rw [u.i p.1, u.i p.2.1, u.i p.2.2.1, u.i p.2.2.2]
/-- the weekday is looked for -/
theorem az_255 {K : Nat → Nat → Nat → Int → Int → Nat → Nat → Nat → Nat → Nat → Int → Int → xM → Option (Int × xM)} {o s y : Int} {k : Nat} (hl : LD 1044 M) (hz : Zr M) (hk : k < 2) (y0 : 2001 ≤ y) (y1 : y ≤ 2010) : ∀ (r n : Nat) (v : Int), 0 ≤ v → v + r = cBegin (mIx y (iV M 1049 k)) + (iV M 1051 k - cBegin (mIx y (iV M 1049 k)) - 5) % 7 → cBegin (mIx y (iV M 1049 k)) ≤ v → r < n → f_Law_areZones_255 O f K n 1 0 1044 o s 1049 1050 1051 1052 1053 y (k : Int) v (cBegin (mIx y (iV M 1049 k)) + cLen (mIx y (iV M 1049 k)) - 1) M = K 1 0 1044 o s 1049 1050 1051 1052 1053 y ((k : Int) + 1) (iS M 1053 k (atL M y k)) := by
  obtain ⟨A0, A1, A2, A3, A4, hr⟩ := hz
  obtain ⟨m0, m1, p0, p1, w0, w1, t0, t1⟩ := hr k hk
  obtain ⟨b0, b1, b2, b3⟩ := mIx_b (y := y) (m := iV M 1049 k) (by omega) y1 m0 m1
  have hcl := cLen_r (mIx y (iV M 1049 k))
  have q0 : 0 ≤ (iV M 1051 k - cBegin (mIx y (iV M 1049 k)) - 5) % 7 := Int.emod_nonneg _ (by decide)
  have q1 : (iV M 1051 k - cBegin (mIx y (iV M 1049 k)) - 5) % 7 < 7 := Int.emod_lt_of_pos _ (by decide)
  have kz : ((k : Int)).toNat = k := by omega
  intro r
  induction r with
  | zero =>
    intro n v h0 h1 h2 h3
    obtain ⟨n, rfl⟩ : ∃ n', n = n' + 1 := ⟨n - 1, by omega⟩
    have ev : v = cBegin (mIx y (iV M 1049 k)) + (iV M 1051 k - cBegin (mIx y (iV M 1049 k)) - 5) % 7 := by omega
    have t301 : ∀ x : Int, x * 1440 + iV M 1052 k = atL M y k → f_Law_areZones_301 O f K 1 0 1044 o s 1049 1050 1051 1052 1053 y (k : Int) x M = K 1 0 1044 o s 1049 1050 1051 1052 1053 y ((k : Int) + 1) (iS M 1053 k (atL M y k)) := by
      intro x hx
      unfold f_Law_areZones_301
      rw [A3.aJ (by omega) (by omega), kz, A4.wJ (by omega) (by omega), kz, ← hx, Int.mul_comm]
    have e3 : ldV 3 v = (v + 5) % 7 := rfl
    show (gR O M 1044 14 3).bind _ = _
    rw [hl.1.gR (j := 3) (by decide), hl.at (j := 3) (by decide) h0 (by omega), A2.aJ (by omega) (by omega), kz, e3, eq_T (by omega), A1.aJ (by omega) (by omega), kz, ev]
    have hat : atL M y k = sW (iV M 1050 k) (iV M 1051 k) (iV M 1052 k) (mIx y (iV M 1049 k)) := rfl
    unfold sW at hat
    generalize (iV M 1051 k - cBegin (mIx y (iV M 1049 k)) - 5) % 7 = q at *
    generalize cBegin (mIx y (iV M 1049 k)) = b at *
    generalize cLen (mIx y (iV M 1049 k)) = l at *
    by_cases g : b + q + 7 * (iV M 1050 k - 1) < b + l
    · rw [if_pos g] at hat
      rw [le_T (by omega) (by omega) (by omega), t301 _ hat.symm]
    · rw [if_neg g] at hat
      rw [le_F (by omega) (by omega) (by omega), xlet_e, t301 _ (by omega)]
  | succ r ih =>
    intro n v h0 h1 h2 h3
    obtain ⟨n, rfl⟩ : ∃ n', n = n' + 1 := ⟨n - 1, by omega⟩
    have e3 : ldV 3 v = (v + 5) % 7 := rfl
    show (gR O M 1044 14 3).bind _ = _
    rw [hl.1.gR (j := 3) (by decide), hl.at (j := 3) (by decide) h0 (by omega), A2.aJ (by omega) (by omega), kz, e3, eq_F (by omega) (by omega) (by omega) (by omega) (by omega)]
    exact ih n (v + 1) (by omega) (by omega) (by omega) (by omega)
/-- the month is looked for -/
theorem az_214 {K : Nat → Nat → Nat → Int → Int → Nat → Nat → Nat → Nat → Nat → Int → Int → xM → Option (Int × xM)} {o s y : Int} {k : Nat} (hl : LD 1044 M) (hz : Zr M) (hk : k < 2) (y0 : 2001 ≤ y) (y1 : y ≤ 2010) (hf : 10 ≤ f) : ∀ (r n : Nat) (v : Int), 0 ≤ v → v + r = cBegin (mIx y (iV M 1049 k)) → r < n → f_Law_areZones_214 O f K n 1 0 1044 o s 1049 1050 1051 1052 1053 y (k : Int) v M = K 1 0 1044 o s 1049 1050 1051 1052 1053 y ((k : Int) + 1) (iS M 1053 k (atL M y k)) := by
  have hz' := hz
  obtain ⟨A0, A1, A2, A3, A4, hr⟩ := hz'
  obtain ⟨m0, m1, p0, p1, w0, w1, t0, t1⟩ := hr k hk
  obtain ⟨b0, b1, b2, b3⟩ := mIx_b (y := y) (m := iV M 1049 k) (by omega) y1 m0 m1
  have hcl := cLen_r (mIx y (iV M 1049 k))
  have kz : ((k : Int)).toNat = k := by omega
  have hmx : mIx y (iV M 1049 k) = 12 * (y - 2000) + iV M 1049 k - 1 := rfl
  intro r
  induction r with
  | zero =>
    intro n v h0 h1 h2
    obtain ⟨n, rfl⟩ : ∃ n', n = n' + 1 := ⟨n - 1, by omega⟩
    have hm : cMonth v = mIx y (iV M 1049 k) := c_uniq b0 (by omega) (by omega) (by omega) (by omega)
    have e0 : ldV 0 v = 2000 + cMonth v / 12 := rfl
    have e1 : ldV 1 v = cMonth v % 12 + 1 := rfl
    have e2 : ldV 2 v = v - cBegin (cMonth v) + 1 := rfl
    have last : f_LDays_last O f 1044 v M = some (cBegin (mIx y (iV M 1049 k)) + cLen (mIx y (iV M 1049 k)) - 1, M) := by
      unfold f_LDays_last f_LDays_first
      rw [hl.1.is, hl.1.gR (j := 2) (by decide), hl.at (j := 2) (by decide) h0 (by omega), xcl_e, hl.1.gR (j := 0) (by decide), hl.at (j := 0) (by decide) h0 (by omega), hl.1.gR (j := 1) (by decide), hl.at (j := 1) (by decide) h0 (by omega), hl.1.is, e0, e1, e2, hm, xc_of (e_LDlength (by omega) (by omega) (by omega) (by omega)), show 12 * (2000 + mIx y (iV M 1049 k) / 12 - 2000) + (mIx y (iV M 1049 k) % 12 + 1) - 1 = mIx y (iV M 1049 k) by omega]
      congr 2
      omega
    show (gR O M 1044 14 0).bind _ = _
    rw [hl.1.gR (j := 0) (by decide), hl.at (j := 0) (by decide) h0 (by omega), e0, hm, eq_T (by omega), hl.1.gR (j := 1) (by decide), hl.at (j := 1) (by decide) h0 (by omega), A0.aJ (by omega) (by omega), kz, e1, hm, eq_T (by omega), hl.1.is, last, xcl_e]
    have q0 : 0 ≤ (iV M 1051 k - cBegin (mIx y (iV M 1049 k)) - 5) % 7 := Int.emod_nonneg _ (by decide)
    have q1 : (iV M 1051 k - cBegin (mIx y (iV M 1049 k)) - 5) % 7 < 7 := Int.emod_lt_of_pos _ (by decide)
    exact az_255 hl hz hk y0 y1 ((iV M 1051 k - cBegin (mIx y (iV M 1049 k)) - 5) % 7).toNat f v h0 (by omega) (by omega) (by omega)
  | succ r ih =>
    intro n v h0 h1 h2
    obtain ⟨n, rfl⟩ : ∃ n', n = n' + 1 := ⟨n - 1, by omega⟩
    obtain ⟨c0, c1, c2, c3⟩ := c_in (d := v) h0 (by omega)
    have hm : cMonth v ≠ mIx y (iV M 1049 k) := by
      intro e
      rw [e] at c2
      omega
    have hmb : cMonth v / 12 ≤ 399 := by omega
    have e0 : ldV 0 v = 2000 + cMonth v / 12 := rfl
    have e1 : ldV 1 v = cMonth v % 12 + 1 := rfl
    show (gR O M 1044 14 0).bind _ = _
    rw [hl.1.gR (j := 0) (by decide), hl.at (j := 0) (by decide) h0 (by omega), e0]
    by_cases g : 2000 + cMonth v / 12 = y
    · rw [eq_T g, hl.1.gR (j := 1) (by decide), hl.at (j := 1) (by decide) h0 (by omega), A0.aJ (by omega) (by omega), kz, e1, eq_F (by omega) (by omega) (by omega) (by omega) (by omega)]
      exact ih n (v + 1) (by omega) (by omega) (by omega)
    · rw [eq_F g (by omega) (by omega) (by omega) (by omega)]
      exact ih n (v + 1) (by omega) (by omega) (by omega)
/-- both switches -/
theorem az_205 {o s y : Int} (hl : LD 1044 M) (hz : Zr M) (y0 : 2001 ≤ y) (y1 : y ≤ 2010) (hf : 5000 ≤ f) : ∃ M', f_Law_areZones_205 O f f 1 0 1044 o s 1049 1050 1051 1052 1053 y 0 M = f_Law_areZones_327 O f f 1 0 1044 o s 1049 1053 y 0 M' ∧ Un (fun a => a ≠ 1053) M M' ∧ ∀ k : Nat, k < 2 → iV M' 1053 k = atL M y k := by
  have rng : ∀ k, k < 2 → -2147483648 ≤ atL M y k ∧ atL M y k ≤ 2147483647 := by
    intro k hk
    obtain ⟨m0, m1, p0, p1, w0, w1, t0, t1⟩ := hz.2.2.2.2.2 k hk
    obtain ⟨b0, b1, b2, b3⟩ := mIx_b (y := y) (m := iV M 1049 k) (by omega) y1 m0 m1
    have := sW_in (pl := iV M 1050 k) (wd := iV M 1051 k) (mi := iV M 1052 k) (m := mIx y (iV M 1049 k)) p0 p1 t0 t1
    unfold atL
    omega
  have st : ∀ k, k < 2 → 0 ≤ cBegin (mIx y (iV M 1049 k)) ∧ cBegin (mIx y (iV M 1049 k)) ≤ 4018 := by
    intro k hk
    obtain ⟨m0, m1, -⟩ := hz.2.2.2.2.2 k hk
    obtain ⟨b0, b1, b2, b3⟩ := mIx_b (y := y) (m := iV M 1049 k) (by omega) y1 m0 m1
    have := cLen_r (mIx y (iV M 1049 k))
    omega
  obtain ⟨f3, rfl⟩ : ∃ f3, f = f3 + 3 := ⟨f - 3, by omega⟩
  have u1 : Un (fun a => a ≠ 1053) M (iS M 1053 0 (atL M y 0)) := Un.rf.iS (fun q => q rfl)
  have z1 : Zr (iS M 1053 0 (atL M y 0)) := hz.un u1 (by (try dsimp only); omega)
  have l1 : LD 1044 (iS M 1053 0 (atL M y 0)) := hl.un u1 (fun j hj => by (try dsimp only); omega)
  have at1 : atL (iS M 1053 0 (atL M y 0)) y 1 = atL M y 1 := atL.un u1 (by (try dsimp only); omega)
  have m1 : iV (iS M 1053 0 (atL M y 0)) 1049 1 = iV M 1049 1 := u1.i (by (try dsimp only); omega)
  refine ⟨iS (iS M 1053 0 (atL M y 0)) 1053 1 (atL M y 1), ?_, u1.iS (fun q => q rfl), fun k hk => ?_⟩
  · show (if yw 2 ≤ yw 0 then _ else _) = _
    rw [le_F (by omega) (by omega) (by omega)]
    have s0 := st 0 (by omega)
    have s1 := st 1 (by omega)
    have a0 := az_214 (O := O) (f := f3 + 3) (K := f_Law_areZones_205 O (f3 + 3) (f3 + 2)) (o := o) (s := s) (k := 0) hl hz (by omega) y0 y1 (by omega) (cBegin (mIx y (iV M 1049 0))).toNat (f3 + 3) 0 (by omega) (by omega) (by omega)
    refine Eq.trans a0 ?_
    show (if yw 2 ≤ yw 1 then _ else _) = _
    rw [le_F (by omega) (by omega) (by omega)]
    have a1 := az_214 (O := O) (f := f3 + 3) (K := f_Law_areZones_205 O (f3 + 3) (f3 + 1)) (o := o) (s := s) (k := 1) l1 z1 (by omega) y0 y1 (by omega) (cBegin (mIx y (iV M 1049 1))).toNat (f3 + 3) 0 (by omega) (by rw [m1]; omega) (by omega)
    rw [at1] at a1
    refine Eq.trans a1 ?_
    show (if yw 2 ≤ yw 2 then _ else _) = _
    rw [le_T (by omega) (by omega) (by omega)]
  · have hk2 : k = 0 ∨ k = 1 := by omega
    rcases hk2 with rfl | rfl
    · rw [iV_o (by omega), iV_s (rng 0 (by omega)).1 (rng 0 (by omega)).2]
    · rw [iV_s (rng 1 (by omega)).1 (rng 1 (by omega)).2]
end AZO
end
/-! draft 544.zonelaw -/
section
/-! ===== the law of zones ===== -/
section AZL
variable {O : Nat → Option va_E} {f : Nat} {M N : xM} {y : Int}
def Zc0 (M : xM) : Prop := Bs M ∧ (∀ k, k < 3 → Zv M k) ∧ (∀ k : Nat, k < 12 → iV M (29 + 6 * k) 0 = 0) ∧ Zr M ∧ (iV M 16 0 = iV M 1049 0 ∧ iV M 16 1 = iV M 1050 0 ∧ iV M 16 2 = iV M 1051 0 ∧ iV M 16 3 = iV M 1052 0 ∧ iV M 17 0 = iV M 1049 1 ∧ iV M 17 1 = iV M 1050 1 ∧ iV M 17 2 = iV M 1051 1 ∧ iV M 17 3 = iV M 1052 1) ∧ iV M 1049 0 ≠ iV M 1049 1
def Zc (M : xM) (y : Int) : Prop := Zc0 M ∧ ∀ k : Nat, k < 2 → iV M 1053 k = atL M y k
theorem Zc0.un {P : Nat → Prop} (h : Zc0 M) (u : Un P M N) (p : ∀ a, 1 ≤ a → a < 1053 → P a) : Zc0 N := by
  obtain ⟨a, b, c, d, e, g⟩ := h
  have hv : ∀ a j, 1 ≤ a → a < 1053 → iV N a j = iV M a j := fun a j h1 h2 => u.i (p a h1 h2)
  refine ⟨a.un u (p 1 (by omega) (by omega)) (fun k hk => p _ (by omega) (by omega)), fun k hk => (b k hk).of (fun a j h1 h2 => hv a j (by omega) (by omega)), fun k hk => by rw [hv _ _ (by omega) (by omega)]; exact c k hk, d.un u ⟨p _ (by omega) (by omega), p _ (by omega) (by omega), p _ (by omega) (by omega), p _ (by omega) (by omega)⟩, ?_, ?_⟩
  · simp (disch := omega) only [hv]
    exact e
  · simp (disch := omega) only [hv]
    exact g
theorem Zc.un {P : Nat → Prop} (h : Zc M y) (u : Un P M N) (p : ∀ a, 1 ≤ a → P a) : Zc N y := ⟨h.1.un u (fun a h1 _ => p a h1), fun k hk => by rw [u.i (p 1053 (by omega)), atL.un u ⟨p _ (by omega), p _ (by omega), p _ (by omega), p _ (by omega)⟩]; exact h.2 k hk⟩
theorem Zc.at (h : Zc M y) : iV M 1053 0 = sR M 16 (mIx y (iV M 16 0)) ∧ iV M 1053 1 = sR M 17 (mIx y (iV M 17 0)) := by
  obtain ⟨⟨-, -, -, -, ⟨e1, e2, e3, e4, e5, e6, e7, e8⟩, -⟩, g⟩ := h
  refine ⟨?_, ?_⟩
  · rw [g 0 (by omega)]
    unfold atL sR
    rw [e1, e2, e3, e4]
  · rw [g 1 (by omega)]
    unfold atL sR
    rw [e5, e6, e7, e8]
/-- the law's summer -/
theorem law_sum (h : Zc M y) (y0 : 2001 ≤ y) (y1 : y ≤ 2010) {s : Int} (hs : 0 < iV M 15 1) (s0 : 1440 * cBegin (mIx y 1) ≤ s) (s1 : s < 1440 * cBegin (mIx (y + 1) 1)) : sm M 1 s = if iV M 1049 0 < iV M 1049 1 then (if iV M 1053 0 ≤ s ∧ s < iV M 1053 1 then 1 else 0) else (if iV M 1053 0 ≤ s ∨ s < iV M 1053 1 then 1 else 0) := by
  obtain ⟨t0, t1⟩ := h.at
  obtain ⟨⟨-, hz, -, hzr, ⟨e1, -, -, -, e5, -⟩, hne⟩, -⟩ := h
  obtain ⟨-, -, -, -, rF, rB⟩ := hz 1 (by omega)
  have rF' : rV M 16 := rF
  have rB' : rV M 17 := rB
  obtain ⟨F0, F1, Fp0, Fp1, Fw0, Fw1, Ft0, Ft1⟩ := rF'
  obtain ⟨B0, B1, Bp0, Bp1, Bw0, Bw1, Bt0, Bt1⟩ := rB'
  rw [t0, t1, ← e1, ← e5]
  rw [← e1, ← e5] at hne
  have g1 := sW_in (wd := iV M 16 2) (m := mIx y (iV M 16 0)) Fp0 Fp1 Ft0 Ft1
  have g2 := sW_in (wd := iV M 17 2) (m := mIx y (iV M 17 0)) Bp0 Bp1 Bt0 Bt1
  have hx1 : 0 ≤ mIx y 1 ∧ mIx (y + 1) 1 = mIx y 1 + 12 ∧ mIx y 1 + 12 ≤ 132 ∧ mIx y 1 % 12 = 0 := by unfold mIx; omega
  have hF : mIx y (iV M 16 0) = mIx y 1 + (iV M 16 0 - 1) := by unfold mIx; omega
  have hB : mIx y (iV M 17 0) = mIx y 1 + (iV M 17 0 - 1) := by unfold mIx; omega
  have hc132 : cBegin (mIx y 1 + 12) ≤ 4018 := by
    by_cases q : mIx y 1 + 12 = 132
    · rw [q]
      exact Int.le_of_eq cB132
    · have a1 := c_mono (m := mIx y 1 + 12) (k := 132) (by omega) (by omega) (by omega)
      have a2 := cLen_r (mIx y 1 + 12)
      rw [cB132] at a1
      omega
  have hb0 := c_begin_r (m := mIx y 1) (by omega) (by omega)
  rw [hx1.2.1] at s1
  obtain ⟨c0, c1, c2, c3⟩ := c_in (d := s / 1440) (by omega) (by omega)
  have lo : mIx y 1 ≤ cMonth (s / 1440) := by
    rcases Int.lt_or_le (cMonth (s / 1440)) (mIx y 1) with q | q
    · have := c_mono c0 q (by omega)
      omega
    · exact q
  have hi : cMonth (s / 1440) < mIx y 1 + 12 := by
    rcases Int.lt_or_le (cMonth (s / 1440)) (mIx y 1 + 12) with q | q
    · exact q
    · exfalso
      by_cases e : cMonth (s / 1440) = mIx y 1 + 12
      · rw [e] at c2
        omega
      · have a1 := c_mono (m := mIx y 1 + 12) (k := cMonth (s / 1440)) (by omega) (by omega) c1
        have a2 := cLen_r (mIx y 1 + 12)
        omega
  have hsm : sm M 1 s = if iV M 15 1 = 0 then 0 else if cMonth (s / 1440) % 12 + 1 = iV M 16 0 then (if s < sR M 16 (cMonth (s / 1440)) then 0 else 1) else if cMonth (s / 1440) % 12 + 1 = iV M 17 0 then (if s < sR M 17 (cMonth (s / 1440)) then 1 else 0) else if (min (iV M 16 0) (iV M 17 0) < cMonth (s / 1440) % 12 + 1 ∧ cMonth (s / 1440) % 12 + 1 < max (iV M 16 0) (iV M 17 0)) then (if iV M 16 0 < iV M 17 0 then 1 else 0) else (if iV M 16 0 < iV M 17 0 then 0 else 1) := rfl
  rw [hsm, if_neg (show ¬ iV M 15 1 = 0 by omega)]
  have aF : sR M 16 (mIx y (iV M 16 0)) = sW (iV M 16 1) (iV M 16 2) (iV M 16 3) (mIx y (iV M 16 0)) := rfl
  have aB : sR M 17 (mIx y (iV M 17 0)) = sW (iV M 17 1) (iV M 17 2) (iV M 17 3) (mIx y (iV M 17 0)) := rfl
  rw [← aF] at g1
  rw [← aB] at g2
  have hnm : cMonth (s / 1440) % 12 + 1 = cMonth (s / 1440) - mIx y 1 + 1 := by omega
  rw [hnm]
  have rel : ∀ i : Int, mIx y 1 ≤ i → i < mIx y 1 + 12 → ∀ x : Int, cBegin i * 1440 ≤ x → x < (cBegin i + cLen i) * 1440 → (cMonth (s / 1440) < i → s < x) ∧ (i < cMonth (s / 1440) → x ≤ s) := by
    intro i i0 i1 x x0 x1
    refine ⟨fun q => ?_, fun q => ?_⟩
    · have := c_mono c0 q (by omega)
      omega
    · have := c_mono (m := i) (k := cMonth (s / 1440)) (by omega) q c1
      omega
  have r1 := rel (mIx y (iV M 16 0)) (by omega) (by omega) _ g1.1 g1.2
  have r2 := rel (mIx y (iV M 17 0)) (by omega) (by omega) _ g2.1 g2.2
  by_cases q1 : cMonth (s / 1440) - mIx y 1 + 1 = iV M 16 0
  · have e : cMonth (s / 1440) = mIx y (iV M 16 0) := by omega
    rw [if_pos q1, e]
    rw [e] at r2
    generalize sR M 16 (mIx y (iV M 16 0)) = a at *
    generalize sR M 17 (mIx y (iV M 17 0)) = b at *
    by_cases q2 : iV M 16 0 < iV M 17 0
    · have := r2.1 (by omega)
      rw [if_pos q2]
      by_cases q3 : s < a
      · rw [if_pos q3, if_neg (by omega)]
      · rw [if_neg q3, if_pos (by omega)]
    · have := r2.2 (by omega)
      rw [if_neg q2]
      by_cases q3 : s < a
      · rw [if_pos q3, if_neg (by omega)]
      · rw [if_neg q3, if_pos (by omega)]
  rw [if_neg q1]
  by_cases q4 : cMonth (s / 1440) - mIx y 1 + 1 = iV M 17 0
  · have e : cMonth (s / 1440) = mIx y (iV M 17 0) := by omega
    rw [if_pos q4, e]
    rw [e] at r1
    generalize sR M 16 (mIx y (iV M 16 0)) = a at *
    generalize sR M 17 (mIx y (iV M 17 0)) = b at *
    by_cases q2 : iV M 16 0 < iV M 17 0
    · have := r1.2 (by omega)
      rw [if_pos q2]
      by_cases q3 : s < b
      · rw [if_pos q3, if_pos (by omega)]
      · rw [if_neg q3, if_neg (by omega)]
    · have := r1.1 (by omega)
      rw [if_neg q2]
      by_cases q3 : s < b
      · rw [if_pos q3, if_pos (by omega)]
      · rw [if_neg q3, if_neg (by omega)]
  rw [if_neg q4]
  generalize sR M 16 (mIx y (iV M 16 0)) = a at *
  generalize sR M 17 (mIx y (iV M 17 0)) = b at *
  clear hsm rel hz hzr g1 g2 c2 c3 hb0 hc132
  by_cases q5 : min (iV M 16 0) (iV M 17 0) < cMonth (s / 1440) - mIx y 1 + 1 ∧ cMonth (s / 1440) - mIx y 1 + 1 < max (iV M 16 0) (iV M 17 0)
  · rw [if_pos q5]
    by_cases q2 : iV M 16 0 < iV M 17 0
    · have z1 := r1.2 (by omega)
      have z2 := r2.1 (by omega)
      simp only [if_pos q2, if_pos (show a ≤ s ∧ s < b from ⟨z1, z2⟩)]
    · have z1 := r1.1 (by omega)
      have z2 := r2.2 (by omega)
      simp only [if_neg q2, if_neg (show ¬ (a ≤ s ∨ s < b) by omega)]
  · rw [if_neg q5]
    by_cases q2 : iV M 16 0 < iV M 17 0
    · have z : ¬ (a ≤ s ∧ s < b) := by
        rcases Int.lt_or_le (cMonth (s / 1440)) (mIx y (iV M 16 0)) with z1 | z1
        · have := r1.1 z1
          omega
        · have := r2.2 (by omega)
          omega
      simp only [if_pos q2, if_neg z]
    · have z : a ≤ s ∨ s < b := by
        rcases Int.lt_or_le (cMonth (s / 1440)) (mIx y (iV M 17 0)) with z1 | z1
        · have := r2.1 z1
          omega
        · have := r1.2 (by omega)
          omega
      simp only [if_neg q2, if_pos z]
theorem sm_zero (h : iV M 15 1 = 0) {s : Int} : sm M 1 s = 0 := by
  unfold sm
  exact if_pos h
theorem toLoc1 {c : Int} (h : Wd M) (hz : Zv M 1) (h0 : 14400 ≤ c) (h1 : c ≤ 210240000) : f_Calendarhall_toLocal O f 1 1 c M = some (loc M 1 c, M) := e_toLocal (z := 1) h (by decide) (by decide) hz h0 h1
theorem toCom0 {c : Int} (h : Wd M) (hz : Zv M 1) (h0 : 14400 ≤ c) (h1 : c ≤ 210240000) : f_Calendarhall_toCommon O f 1 1 c 0 M = some (fst M 1 c, M) := e_toCommon (z := 1) (b := 0) h (by decide) (by decide) hz h0 h1 (Or.inl rfl)
theorem toCom1 {c : Int} (h : Wd M) (hz : Zv M 1) (h0 : 14400 ≤ c) (h1 : c ≤ 210240000) : f_Calendarhall_toCommon O f 1 1 c 1 M = some (snd M 1 c, M) := e_toCommon (z := 1) (b := 1) h (by decide) (by decide) hz h0 h1 (Or.inr rfl)
/-- one minute of the year, over and back -/
theorem az_426 {K : Nat → Nat → Int → Int → Nat → Nat → Int → Int → Int → xM → Option (Int × xM)} {c st : Int} (h : Zc M y) (y0 : 2001 ≤ y) (y1 : y ≤ 2010) (st0 : -1000000 ≤ st) (st1 : st ≤ 100000000) : f_Law_areZones_426 O f K 1 0 (iV M 15 0) (iV M 15 1) 1049 1053 (cBegin (mIx y 1)) (cBegin (mIx (y + 1) 1)) c st M = K 1 0 (iV M 15 0) (iV M 15 1) 1049 1053 (cBegin (mIx y 1)) (cBegin (mIx (y + 1) 1)) (c + 1) M := by
  have hw := h.1.1.1
  have hz := h.1.2.1 1 (by omega)
  have hr := h.1.2.2.2.1
  have hsum := law_sum h y0 y1 (s := st)
  obtain ⟨o0, o1, s0, s1, -, -⟩ := hz
  have o0 : -720 ≤ iV M 15 0 := o0
  have o1 : iV M 15 0 ≤ 840 := o1
  have s0 : 0 ≤ iV M 15 1 := s0
  have s1 : iV M 15 1 ≤ 120 := s1
  obtain ⟨b0, b1, b2, b3⟩ := mIx_b (y := y) (m := 1) (by omega) y1 (by omega) (by omega)
  have hcl1 := cLen_r (mIx y 1)
  have b366 : 366 ≤ cBegin (mIx y 1) := by
    have e12 : cBegin 12 = 366 := by decide
    by_cases q : mIx y 1 = 12
    · rw [q]
      exact Int.le_of_eq e12.symm
    · have a1 := c_mono (m := 12) (k := mIx y 1) (by omega) (by unfold mIx at q ⊢; omega) (by omega)
      have a2 := cLen_r 12
      omega
  have e1 : 0 ≤ cBegin (mIx (y + 1) 1) ∧ cBegin (mIx (y + 1) 1) < 146097 := ⟨Int.emod_nonneg _ (by decide), Int.emod_lt_of_pos _ (by decide)⟩
  have e2 : cBegin (mIx (y + 1) 1) ≤ 4018 := by
    by_cases q : mIx (y + 1) 1 = 132
    · rw [q]
      exact Int.le_of_eq cB132
    · have a1 := c_mono (m := mIx (y + 1) 1) (k := 132) (by unfold mIx; omega) (by unfold mIx at q ⊢; omega) (by omega)
      have a2 := cLen_r (mIx (y + 1) 1)
      rw [cB132] at a1
      omega
  have bfi : cBegin (mIx y 1) ≤ 4018 := by omega
  clear b0 b1 b2 b3 hcl1
  generalize cBegin (mIx y 1) = fi at *
  generalize cBegin (mIx (y + 1) 1) = en at *
  unfold f_Law_areZones_426
  by_cases g1 : st < 1440 * fi
  · rw [lt_T g1 (by omega) (by omega)]
  rw [lt_F (by omega) (by omega) (by omega)]
  by_cases g2 : st < 1440 * en
  · have main : ∀ b : Int, b = sm M 1 st → f_Law_areZones_513 O f K 1 0 (iV M 15 0) (iV M 15 1) 1049 1053 fi en c st b M = K 1 0 (iV M 15 0) (iV M 15 1) 1049 1053 fi en (c + 1) M := by
      intro b hb
      have hso : st - iV M 15 0 + iV M 15 0 = st := by omega
      have hloc : loc M 1 (st - iV M 15 0) = if sm M 1 st = 0 then st else st + iV M 15 1 := by
        have : loc M 1 (st - iV M 15 0) = if sm M 1 (st - iV M 15 0 + iV M 15 0) = 0 then st - iV M 15 0 + iV M 15 0 else st - iV M 15 0 + iV M 15 0 + iV M 15 1 := rfl
        rw [this, hso]
      have back := loc_back (M := M) (k := 1) (c := st - iV M 15 0)
      have t530 : ∀ x : Int, x = loc M 1 (st - iV M 15 0) → f_Law_areZones_530 O f K 1 0 (iV M 15 0) (iV M 15 1) 1049 1053 fi en c st x M = K 1 0 (iV M 15 0) (iV M 15 1) 1049 1053 fi en (c + 1) M := by
        intro x hx
        have hxr : st ≤ x ∧ x ≤ st + 120 := by
          rw [hx, hloc]
          split <;> omega
        have fr : -2147483648 ≤ fst M 1 x ∧ fst M 1 x ≤ 2147483647 := by
          have : fst M 1 x = if sm M 1 (x - iV M 15 1) = 0 then (if sm M 1 x = 0 then x - iV M 15 0 else -1) else x - iV M 15 1 - iV M 15 0 := rfl
          rw [this]
          split
          · split <;> omega
          · omega
        rw [← hx] at back
        have hz' := h.1.2.1 1 (by omega)
        unfold f_Law_areZones_530
        have x1 := toLoc1 (O := O) (f := f) (c := st - iV M 15 0) hw hz' (by omega) (by omega)
        have x2 := toCom0 (O := O) (f := f) (c := x) hw hz' (by omega) (by omega)
        have x3 := toCom1 (O := O) (f := f) (c := x) hw hz' (by omega) (by omega)
        rw [a_Cal_is hw, x1, xcl_e, eq_T hx.symm, a_Cal_is hw, x2, xcl_e]
        rcases back with e | ⟨e, e2⟩
        · rw [eq_T e]
        · rw [eq_F e fr.1 fr.2 (by omega) (by omega), a_Cal_is hw, x3, xcl_e, eq_T e2]
      unfold f_Law_areZones_513
      rcases sm_01 (M := M) (k := 1) (s := st) with e | e
      · rw [hb, e, eq_T rfl]
        exact t530 st (by rw [hloc, if_pos e])
      · rw [hb, e, eq_F (by omega) (by omega) (by omega) (by omega) (by omega)]
        exact t530 _ (by rw [hloc, if_neg (by omega)])
    have m0 := main 0
    have m1 := main 1
    unfold f_Law_areZones_512 f_Law_areZones_508
    rw [lt_T g2 (by omega) (by omega)]
    by_cases g3 : iV M 15 1 ≤ 0
    · rw [le_T g3 (by omega) (by omega)]
      exact m0 (sm_zero (by omega)).symm
    · have hs2 := hsum (by omega) (by omega) g2
      obtain ⟨A0, A1, A2, A3, A4, hrr⟩ := hr
      obtain ⟨r0, r1, -⟩ := hrr 0 (by omega)
      obtain ⟨r2, r3, -⟩ := hrr 1 (by omega)
      have x0 : ∀ {γ : Type} {A : Int → Option γ}, (aJ O M 1049 0).bind A = A (iV M 1049 0) := A0.aJ (by decide) (by decide)
      have x1 : ∀ {γ : Type} {A : Int → Option γ}, (aJ O M 1049 1).bind A = A (iV M 1049 1) := A0.aJ (by decide) (by decide)
      have x2 : ∀ {γ : Type} {A : Int → Option γ}, (aJ O M 1053 0).bind A = A (iV M 1053 0) := A4.aJ (by decide) (by decide)
      have x3 : ∀ {γ : Type} {A : Int → Option γ}, (aJ O M 1053 1).bind A = A (iV M 1053 1) := A4.aJ (by decide) (by decide)
      have v0 := iV_r M 1053 0
      have v1 := iV_r M 1053 1
      rw [le_F (by omega) (by omega) (by omega), x0, x1]
      by_cases g4 : iV M 1049 0 < iV M 1049 1
      · rw [if_pos g4] at hs2
        rw [le_F g4 (by omega) (by omega), x2]
        by_cases g5 : st < iV M 1053 0
        · rw [if_neg (by omega)] at hs2
          rw [lt_T g5 (by omega) (by omega)]
          exact m0 hs2.symm
        · rw [lt_F (by omega) (by omega) (by omega), x3]
          by_cases g6 : st < iV M 1053 1
          · rw [if_pos (by omega)] at hs2
            rw [le_F g6 (by omega) (by omega)]
            exact m1 hs2.symm
          · rw [if_neg (by omega)] at hs2
            rw [le_T (by omega) (by omega) (by omega)]
            exact m0 hs2.symm
      · rw [if_neg g4] at hs2
        rw [le_T (by omega) (by omega) (by omega), x2]
        by_cases g5 : iV M 1053 0 ≤ st
        · rw [if_pos (by omega)] at hs2
          rw [le_T g5 (by omega) (by omega)]
          exact m1 hs2.symm
        · rw [le_F (by omega) (by omega) (by omega), x3]
          by_cases g6 : st < iV M 1053 1
          · rw [if_pos (by omega)] at hs2
            rw [le_F g6 (by omega) (by omega)]
            exact m1 hs2.symm
          · rw [if_neg (by omega)] at hs2
            rw [le_T (by omega) (by omega) (by omega)]
            exact m0 hs2.symm
  · rw [lt_F (by omega) (by omega) (by omega)]
end AZL
end
