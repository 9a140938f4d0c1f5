/-! draft 562.mutate2 -/
section
/-! ===== rules, ends, answers, moves ===== -/
section MU2
variable {O : Nat → Option va_E} {f k : Nat} {M N : xM} {d x w : Int}
theorem sound1 {s : Int} (s0 : 1 ≤ s) (s1 : s ≤ 99) : f_Rule_isSound O f 1 s 0 0 M = some (1, M) := by
  unfold f_Rule_isSound
  rw [lt_F (by omega) (by omega) (by omega), le_T (by omega) (by omega) (by omega), eq_F (by omega) (by omega) (by omega) (by omega) (by omega), lt_F s0 (by omega) (by omega), lt_F s1 (by omega) (by omega)]
  rfl
theorem BoB.us {N : xM} (h : BoB 2 M) (u : Un (fun a => a < 29 + 6 * k ∨ 35 + 6 * k ≤ a) M N) (hk : k < 12) (h0 : iV N (29 + 6 * k) 0 = 0 ∨ iV N (29 + 6 * k) 0 = 1) (h5 : iV N (29 + 6 * k) 5 = 0 ∨ iV N (29 + 6 * k) 5 = 1) : BoB 2 N := by
  intro j hj
  have e29 : 2 + (27 + 6 * j) = 29 + 6 * j := by omega
  rw [e29]
  by_cases z : j = k
  · rw [z]
    exact ⟨h0, h5⟩
  · have q := h j hj
    rw [e29] at q
    rw [u.i (by (try dsimp only); omega), u.i (by (try dsimp only); omega)]
    exact q
/-- a series' rule is set: days by steps -/
theorem set_rule1 {kk s : Int} (h : Bs M) (hkk : kk = (k : Int)) (hk : k < 12) (ht : iV M (29 + 6 * k) 0 = 1) (f0 : 10 ≤ iV M (30 + 6 * k) 0) (f1 : iV M (30 + 6 * k) 0 ≤ 146000) (hhow : iV M (30 + 6 * k) 5 = 0 ∨ (iV M (30 + 6 * k) 5 = 1 ∧ 1 ≤ iV M (30 + 6 * k) 6 ∧ iV M (30 + 6 * k) 6 ≤ 500)) (s0 : 1 ≤ s) (s1 : s ≤ 99) (hf : 2000 ≤ f) : ∃ M' y, f_Calendarhall_setRule O f 1 kk 1 s 0 0 M = some (y, M') ∧ Bs M' ∧ Un (Us k) M M' ∧ (∀ j, j ≠ 7 → iV M' (29 + 6 * k) j = iV M (29 + 6 * k) j) ∧ iV M' (29 + 6 * k) 7 = 0 ∧ (iV M' (30 + 6 * k) 0 = iV M (30 + 6 * k) 0 ∧ iV M' (30 + 6 * k) 1 = 1 ∧ iV M' (30 + 6 * k) 2 = s ∧ iV M' (30 + 6 * k) 5 = iV M (30 + 6 * k) 5 ∧ iV M' (30 + 6 * k) 6 = iV M (30 + 6 * k) 6 ∧ iV M (30 + 6 * k) 0 ≤ iV M' (30 + 6 * k) 7 ∧ iV M' (30 + 6 * k) 7 ≤ 146000) ∧ (∀ p, iV M' (33 + 6 * k) p = iV M (33 + 6 * k) p) := by
  subst hkk
  have hw := h.1
  obtain ⟨N, eN, uN, bN⟩ := bs_save (O := O) (f := f) h (by omega)
  have wN := bN.1
  have nv : ∀ a j, 1 < a → a < 140 → iV N a j = iV M a j := fun a j h1 h2 => uN.i (by (try dsimp only); omega)
  obtain ⟨S4, e4⟩ : ∃ S4, S4 = iS N (29 + 6 * k) 7 0 := ⟨_, rfl⟩
  have w4 : Wd S4 := by rw [e4]; exact wN
  obtain ⟨S5, e5⟩ : ∃ S5, S5 = iS (iS (iS (iS S4 (30 + 6 * k) 1 1) (30 + 6 * k) 2 s) (30 + 6 * k) 3 0) (30 + 6 * k) 4 0 := ⟨_, rfl⟩
  have w5 : Wd S5 := by rw [e5]; exact w4
  have put : f_Rule_put O f (30 + 6 * k) 1 s 0 0 S4 = some ((), S5) := by
    unfold f_Rule_put
    rw [p_Rule_kind w4 hk, p_Rule_step (M := iS S4 (30 + 6 * k) 1 1) w4 hk, p_Rule_days (M := iS (iS S4 (30 + 6 * k) 1 1) (30 + 6 * k) 2 s) w4 hk, p_Rule_place (M := iS (iS (iS S4 (30 + 6 * k) 1 1) (30 + 6 * k) 2 s) (30 + 6 * k) 3 0) w4 hk, ← e5]
  have r0 : ∀ j, j = 0 ∨ j = 5 ∨ j = 6 → iV S5 (30 + 6 * k) j = iV M (30 + 6 * k) j := by
    intro j hj
    rw [e5, iV_o (by omega), iV_o (by omega), iV_o (by omega), iV_o (by omega), e4, iV_o (by omega), nv _ _ (by omega) (by omega)]
  have r1 : iV S5 (30 + 6 * k) 1 = 1 := by rw [e5, iV_o (by omega), iV_o (by omega), iV_o (by omega), iV_s (by omega) (by omega)]
  have r2 : iV S5 (30 + 6 * k) 2 = s := by rw [e5, iV_o (by omega), iV_o (by omega), iV_s (by omega) (by omega)]
  obtain ⟨M', es, us, vs, l0, l1⟩ := settle01 (O := O) (f := f) (k := k) w5 hk (by rw [r0 0 (by omega)]; exact f0) (by rw [r0 0 (by omega)]; exact f1) (by rw [r1, r2]; omega) (by rw [r0 5 (by omega), r0 6 (by omega)]; exact hhow) hf
  have w' := us.wd w5
  have u4 : Un (fun a => a < 29 + 6 * k ∨ 35 + 6 * k ≤ a) N M' := by
    have a5 : Un (fun a => a < 29 + 6 * k ∨ 35 + 6 * k ≤ a) N S5 := by
      rw [e5, e4]
      exact ((((Un.rf.iS (by (try dsimp only); omega)).iS (by (try dsimp only); omega)).iS (by (try dsimp only); omega)).iS (by (try dsimp only); omega)).iS (by (try dsimp only); omega)
    exact a5.tr (us.le (fun a q => by (try dsimp only at q ⊢); omega))
  have c29 : ∀ j, iV M' (29 + 6 * k) j = if j = 7 then 0 else iV M (29 + 6 * k) j := by
    intro j
    rw [us.i (by (try dsimp only); omega), e5, iV_o (by omega), iV_o (by omega), iV_o (by omega), iV_o (by omega), e4]
    by_cases z : j = 7
    · rw [z, iV_s (by omega) (by omega)]
      rfl
    · rw [iV_o (by omega), if_neg z, nv _ _ (by omega) (by omega)]
  have b0 := bN.2.2 k hk
  rw [show 2 + (27 + 6 * k) = 29 + 6 * k by omega, nv _ _ (by omega) (by omega), nv _ _ (by omega) (by omega)] at b0
  refine ⟨M', iV M (30 + 6 * k) 1, ?_, ⟨w', bN.2.1.un u4 (by (try dsimp only); omega), bN.2.2.us u4 hk (by rw [c29]; exact b0.1) (by rw [c29]; exact b0.2)⟩, (uN.le (fun a q => by unfold Us at q; (try dsimp only); omega)).tr (u4.le (fun a q => by unfold Us at q; (try dsimp only); omega)), fun j hj => by rw [c29, if_neg hj], by rw [c29]; rfl, ⟨?_, ?_, ?_, ?_, ?_, ?_, l1⟩, fun p => ?_⟩
  · unfold f_Calendarhall_setRule
    rw [a_Cal_is hw, xc_of (s_num hw hk ht), xc_of (sound1 s0 s1), eq_F (by omega) (by omega) (by omega) (by omega) (by omega), a_Series_rule hw hk, a_Rule_kind hw hk, a_Cal_is hw, eN, xcl_e, p_Series_exceptions wN hk, ← e4, a_Series_rule w4 hk, a_Rule_is w4 hk, put, xcl_e, a_Series_rule w5 hk, a_Rule_is w5 hk, es, xcl_e]
  · rw [vs 0 (by omega), r0 0 (by omega)]
  · rw [vs 1 (by omega), r1]
  · rw [vs 2 (by omega), r2]
  · rw [vs 5 (by omega), r0 5 (by omega)]
  · rw [vs 6 (by omega), r0 6 (by omega)]
  · rw [r0 0 (by omega)] at l0
    exact l0
  · rw [us.i (by (try dsimp only); omega), e5, iV_o (by omega), iV_o (by omega), iV_o (by omega), iV_o (by omega), e4, iV_o (by omega), nv _ _ (by omega) (by omega)]
/-- a series' end by a count -/
theorem set_end1 {kk q : Int} (h : Bs M) (hkk : kk = (k : Int)) (hk : k < 12) (ht : iV M (29 + 6 * k) 0 = 1) (f0 : 10 ≤ iV M (30 + 6 * k) 0) (f1 : iV M (30 + 6 * k) 0 ≤ 146000) (hkind : iV M (30 + 6 * k) 1 = 0 ∨ (iV M (30 + 6 * k) 1 = 1 ∧ 1 ≤ iV M (30 + 6 * k) 2 ∧ iV M (30 + 6 * k) 2 ≤ 99)) (q0 : 1 ≤ q) (q1 : q ≤ 500) (hf : 2000 ≤ f) : ∃ M' y, f_Calendarhall_setEnd O f 1 kk 1 q M = some (y, M') ∧ Bs M' ∧ Un (Us k) M M' ∧ (∀ j, j ≠ 7 → iV M' (29 + 6 * k) j = iV M (29 + 6 * k) j) ∧ iV M' (29 + 6 * k) 7 = 0 ∧ (iV M' (30 + 6 * k) 0 = iV M (30 + 6 * k) 0 ∧ iV M' (30 + 6 * k) 1 = iV M (30 + 6 * k) 1 ∧ iV M' (30 + 6 * k) 2 = iV M (30 + 6 * k) 2 ∧ iV M (30 + 6 * k) 0 ≤ iV M' (30 + 6 * k) 7 ∧ iV M' (30 + 6 * k) 7 ≤ 146000) ∧ (∀ p, iV M' (33 + 6 * k) p = iV M (33 + 6 * k) p) := by
  subst hkk
  have hw := h.1
  obtain ⟨N, eN, uN, bN⟩ := bs_save (O := O) (f := f) h (by omega)
  have wN := bN.1
  have nv : ∀ a j, 1 < a → a < 140 → iV N a j = iV M a j := fun a j h1 h2 => uN.i (by (try dsimp only); omega)
  obtain ⟨S4, e4⟩ : ∃ S4, S4 = iS N (29 + 6 * k) 7 0 := ⟨_, rfl⟩
  have w4 : Wd S4 := by rw [e4]; exact wN
  obtain ⟨S5, e5⟩ : ∃ S5, S5 = iS (iS S4 (30 + 6 * k) 5 1) (30 + 6 * k) 6 q := ⟨_, rfl⟩
  have w5 : Wd S5 := by rw [e5]; exact w4
  have put : f_Rule_putEnd O f (30 + 6 * k) 1 q S4 = some ((), S5) := by
    unfold f_Rule_putEnd
    rw [p_Rule_how w4 hk, p_Rule_number (M := iS S4 (30 + 6 * k) 5 1) w4 hk, ← e5]
  have r0 : ∀ j, j < 5 → iV S5 (30 + 6 * k) j = iV M (30 + 6 * k) j := by
    intro j hj
    rw [e5, iV_o (by omega), iV_o (by omega), e4, iV_o (by omega), nv _ _ (by omega) (by omega)]
  have r5 : iV S5 (30 + 6 * k) 5 = 1 := by rw [e5, iV_o (by omega), iV_s (by omega) (by omega)]
  have r6 : iV S5 (30 + 6 * k) 6 = q := by rw [e5, iV_s (by omega) (by omega)]
  obtain ⟨M', es, us, vs, l0, l1⟩ := settle01 (O := O) (f := f) (k := k) w5 hk (by rw [r0 0 (by omega)]; exact f0) (by rw [r0 0 (by omega)]; exact f1) (by rw [r0 1 (by omega), r0 2 (by omega)]; exact hkind) (by rw [r5, r6]; omega) hf
  have w' := us.wd w5
  have u4 : Un (fun a => a < 29 + 6 * k ∨ 35 + 6 * k ≤ a) N M' := by
    have a5 : Un (fun a => a < 29 + 6 * k ∨ 35 + 6 * k ≤ a) N S5 := by
      rw [e5, e4]
      exact ((Un.rf.iS (by (try dsimp only); omega)).iS (by (try dsimp only); omega)).iS (by (try dsimp only); omega)
    exact a5.tr (us.le (fun a q => by (try dsimp only at q ⊢); omega))
  have c29 : ∀ j, iV M' (29 + 6 * k) j = if j = 7 then 0 else iV M (29 + 6 * k) j := by
    intro j
    rw [us.i (by (try dsimp only); omega), e5, iV_o (by omega), iV_o (by omega), e4]
    by_cases z : j = 7
    · rw [z, iV_s (by omega) (by omega)]
      rfl
    · rw [iV_o (by omega), if_neg z, nv _ _ (by omega) (by omega)]
  have b0 := bN.2.2 k hk
  rw [show 2 + (27 + 6 * k) = 29 + 6 * k by omega, nv _ _ (by omega) (by omega), nv _ _ (by omega) (by omega)] at b0
  refine ⟨M', iV M (30 + 6 * k) 5, ?_, ⟨w', bN.2.1.un u4 (by (try dsimp only); omega), bN.2.2.us u4 hk (by rw [c29]; exact b0.1) (by rw [c29]; exact b0.2)⟩, (uN.le (fun a q => by unfold Us at q; (try dsimp only); omega)).tr (u4.le (fun a q => by unfold Us at q; (try dsimp only); omega)), fun j hj => by rw [c29, if_neg hj], by rw [c29]; rfl, ⟨?_, ?_, ?_, ?_, l1⟩, fun p => ?_⟩
  · unfold f_Calendarhall_setEnd f_Calendarhall_setEnd_56
    rw [a_Cal_is hw, xc_of (s_num hw hk ht), c_needRange (by omega) (by omega) (by omega) (by omega), eq_F (by omega) (by omega) (by omega) (by omega) (by omega), eq_T rfl, c_needRange (by omega) (by omega) (by omega) (by omega), a_Series_rule hw hk, a_Rule_how hw hk, a_Cal_is hw, eN, xcl_e, p_Series_exceptions wN hk, ← e4, a_Series_rule w4 hk, a_Rule_is w4 hk, put, xcl_e, a_Series_rule w5 hk, a_Rule_is w5 hk, es, xcl_e]
  · rw [vs 0 (by omega), r0 0 (by omega)]
  · rw [vs 1 (by omega), r0 1 (by omega)]
  · rw [vs 2 (by omega), r0 2 (by omega)]
  · rw [r0 0 (by omega)] at l0
    exact l0
  · rw [us.i (by (try dsimp only); omega), e5, iV_o (by omega), iV_o (by omega), e4, iV_o (by omega), nv _ _ (by omega) (by omega)]
theorem e_isInvited (h : Wd M) (hk : k < 12) (p0 : 0 ≤ iV M (29 + 6 * k) 4) (x0 : 0 ≤ x) (x1 : x < 32) : f_Series_isInvited O f (29 + 6 * k) x M = some ((if bitz (iV M (29 + 6 * k) 4) x = 1 then 1 else 0), M) := by
  have hr := iV_r M (29 + 6 * k) 4
  have hb := bitz_lt (x := iV M (29 + 6 * k) 4) (k := x)
  unfold f_Series_isInvited
  rw [a_Series_people h hk, bit_e p0 hr.2 x0 x1]
  by_cases g : bitz (iV M (29 + 6 * k) 4) x = 1
  · rw [eq_T g, if_pos g]
  · rw [eq_F g (by omega) (by omega) (by omega) (by omega), if_neg g]
theorem c_isInvited (h : Wd M) (hk : k < 12) (p0 : 0 ≤ iV M (29 + 6 * k) 4) (x0 : 0 ≤ x) (x1 : x < 32) {δ : Type} {A : _ → xM → Option δ} : xcl (f_Series_isInvited O f (29 + 6 * k) x M) A = A ((if bitz (iV M (29 + 6 * k) 4) x = 1 then 1 else 0)) (M) := xc_of (e_isInvited h hk p0 x0 x1) A
theorem e_answerBy (h : Wd M) (hk : k < 12) (x0 : 0 ≤ x) (x1 : x < 8) : f_Series_answerBy O f (29 + 6 * k) x M = some (iV M (33 + 6 * k) x.toNat, M) := by
  unfold f_Series_answerBy
  rw [lt_F x0 (by omega) (by omega), a_Series_answers h hk, n_Series_answers h hk, le_F x1 (by omega) (by omega), a_Series_answers h hk, r_Series_answers h hk x0 x1]
theorem c_answerBy (h : Wd M) (hk : k < 12) (x0 : 0 ≤ x) (x1 : x < 8) {δ : Type} {A : _ → xM → Option δ} : xcl (f_Series_answerBy O f (29 + 6 * k) x M) A = A (iV M (33 + 6 * k) x.toNat) (M) := xc_of (e_answerBy h hk x0 x1) A
/-- an answer -/
theorem answer_ok {kk a : Int} (h : Bs M) (hkk : kk = (k : Int)) (hk : k < 12) (ht : iV M (29 + 6 * k) 0 = 1) (p0 : 0 ≤ iV M (29 + 6 * k) 4) (x0 : 0 ≤ x) (x1 : x < 8) (hi : bitz (iV M (29 + 6 * k) 4) x = 1) (a0 : 0 ≤ a) (a1 : a ≤ 3) (hf : 2000 ≤ f) : ∃ M' y, f_Calendarhall_answer O f 1 kk x a M = some (y, M') ∧ Bs M' ∧ Un (fun b => b = 0 ∨ 1044 ≤ b ∨ (1 < b ∧ b < 140 ∧ b ≠ 33 + 6 * k)) M M' ∧ iV M' (33 + 6 * k) x.toNat = a ∧ (∀ p, p ≠ x.toNat → iV M' (33 + 6 * k) p = iV M (33 + 6 * k) p) := by
  subst hkk
  have hw := h.1
  obtain ⟨N, eN, uN, bN⟩ := bs_save (O := O) (f := f) h (by omega)
  have wN := bN.1
  have nv : ∀ a j, 1 < a → a < 140 → iV N a j = iV M a j := fun a j h1 h2 => uN.i (by (try dsimp only); omega)
  obtain ⟨M', e'⟩ : ∃ M', M' = iS N (33 + 6 * k) x.toNat a := ⟨_, rfl⟩
  have u' : Un (fun b => b ≠ 33 + 6 * k) N M' := by rw [e']; exact Un.rf.iS (by (try dsimp only); omega)
  refine ⟨M', iV M (33 + 6 * k) x.toNat, ?_, bN.un u' (by (try dsimp only); omega) (fun j hj => by (try dsimp only); omega), (uN.le (fun a q => by (try dsimp only at q ⊢); omega)).tr (u'.le (fun a q => by (try dsimp only at q ⊢); omega)), ?_, fun p hp => ?_⟩
  · have hpn : f_Calendarhall_personNumbered O f 1 x M = some (21 + 1 * x.toNat, M) := e_personNumbered hw x0 x1
    unfold f_Calendarhall_answer
    rw [a_Cal_is hw, xc_of (s_num hw hk ht), a_Cal_is hw, hpn, xcl_e, a_Series_is hw hk, xc_of (e_isInvited hw hk p0 x0 (by omega)), if_pos hi, eq_F (by omega) (by omega) (by omega) (by omega) (by omega), c_needRange a0 a1 (by omega) (by omega), a_Series_is hw hk, xc_of (e_answerBy hw hk x0 x1), a_Cal_is hw, eN, xcl_e, a_Series_is wN hk, xc_of (e_putAnswer wN hk x0 x1), ← e']
  · rw [e', iV_s (by omega) (by omega)]
  · rw [e', iV_o (by omega), nv _ _ (by omega) (by omega)]
/-- where an exception goes -/
def exP (M : xM) (k : Nat) (d : Int) : Int := if exO M k d = -1 then iV M (29 + 6 * k) 7 else exO M k d
theorem except_ok {t : Int} (h : Wd M) (hk : k < 12) (e0 : 0 ≤ iV M (29 + 6 * k) 7) (e1 : iV M (29 + 6 * k) 7 ≤ 10) (hp : exP M k d < 10) (d0 : -2147483648 ≤ d) (d1 : d ≤ 2147483647) (t0 : -2147483648 ≤ t) (t1 : t ≤ 2147483647) (hf : 20 ≤ f) : ∃ M', f_Series_except O f (29 + 6 * k) d t M = some ((), M') ∧ Un (fun a => a ≠ 29 + 6 * k ∧ a ≠ 31 + 6 * k ∧ a ≠ 32 + 6 * k) M M' ∧ (∀ j, j ≠ 7 → iV M' (29 + 6 * k) j = iV M (29 + 6 * k) j) ∧ iV M' (29 + 6 * k) 7 = (if exO M k d = -1 then iV M (29 + 6 * k) 7 + 1 else iV M (29 + 6 * k) 7) ∧ (∀ j, iV M' (31 + 6 * k) j = if j = (exP M k d).toNat then d else iV M (31 + 6 * k) j) ∧ (∀ j, iV M' (32 + 6 * k) j = if j = (exP M k d).toNat then t else iV M (32 + 6 * k) j) := by
  have hp0 : 0 ≤ exP M k d := by
    unfold exP
    split
    · exact e0
    · next g => exact (exO_r e0 g).1
  obtain ⟨p, ep⟩ : ∃ p, p = exP M k d := ⟨_, rfl⟩
  rw [← ep] at hp hp0 ⊢
  have body : f_Series_except O f (29 + 6 * k) d t M = f_Series_except_16 O f (29 + 6 * k) d t p M := by
    unfold f_Series_except
    rw [a_Series_is h hk, xc_of (e_exceptionOf h hk e0 e1 d0 d1 hf), ep]
    unfold exP
    by_cases g : exO M k d = -1
    · rw [eq_T g, if_pos g, a_Series_exceptions h hk]
    · have q := exO_r e0 g
      rw [eq_F g (by omega) (by omega) (by omega) (by omega), if_neg g]
  have t57 : ∀ N : xM, Wd N → f_Series_except_57 O f (29 + 6 * k) d t p N = some ((), iS (iS N (31 + 6 * k) p.toNat d) (32 + 6 * k) p.toNat t) := by
    intro N wN
    unfold f_Series_except_57
    rw [a_Series_exceptionDays wN hk, w_Series_exceptionDays wN hk hp0 hp, a_Series_exceptionTos (M := iS N (31 + 6 * k) p.toNat d) wN hk, w_Series_exceptionTos (M := iS N (31 + 6 * k) p.toNat d) wN hk hp0 hp]
  have hpe : (p = iV M (29 + 6 * k) 7 ∧ exO M k d = -1) ∨ (p ≠ iV M (29 + 6 * k) 7 ∧ exO M k d ≠ -1) := by
    rw [ep]
    unfold exP
    by_cases g : exO M k d = -1
    · rw [if_pos g]
      exact Or.inl ⟨rfl, g⟩
    · have q := exO_r e0 g
      rw [if_neg g]
      exact Or.inr ⟨by omega, g⟩
  have start : f_Series_except_16 O f (29 + 6 * k) d t p M = if yw p = yw (iV M (29 + 6 * k) 7) then f_Series_except_57 O f (29 + 6 * k) d t p (iS M (29 + 6 * k) 7 (iV M (29 + 6 * k) 7 + 1)) else f_Series_except_57 O f (29 + 6 * k) d t p M := by
    unfold f_Series_except_16
    rw [lt_F hp0 (by omega) (by omega), a_Series_exceptionDays h hk, n_Series_exceptionDays h hk, le_F hp (by omega) (by omega), a_Series_exceptionTos h hk, n_Series_exceptionTos h hk, lt_T hp (by omega) (by omega), a_Series_exceptions h hk, a_Series_exceptions h hk, p_Series_exceptions h hk]
  rw [body, start]
  rcases hpe with ⟨q1, q2⟩ | ⟨q1, q2⟩
  · have w1 : Wd (iS M (29 + 6 * k) 7 (iV M (29 + 6 * k) 7 + 1)) := h
    rw [eq_T q1, t57 _ w1]
    refine ⟨_, rfl, ((Un.rf.iS (by (try dsimp only); omega)).iS (by (try dsimp only); omega)).iS (by (try dsimp only); omega), fun j hj => ?_, ?_, fun j => ?_, fun j => ?_⟩
    · rw [iV_o (by omega), iV_o (by omega), iV_o (by omega)]
    · rw [iV_o (by omega), iV_o (by omega), iV_s (by omega) (by omega), if_pos q2]
    · rw [iV_o (by omega)]
      by_cases z : j = p.toNat
      · rw [if_pos z, z, iV_s d0 d1]
      · rw [if_neg z, iV_o (by omega), iV_o (by omega)]
    · by_cases z : j = p.toNat
      · rw [if_pos z, z, iV_s t0 t1]
      · rw [if_neg z, iV_o (by omega), iV_o (by omega), iV_o (by omega)]
  · rw [eq_F q1 (by omega) (by omega) (by omega) (by omega), t57 _ h]
    refine ⟨_, rfl, (Un.rf.iS (by (try dsimp only); omega)).iS (by (try dsimp only); omega), fun j hj => ?_, ?_, fun j => ?_, fun j => ?_⟩
    · rw [iV_o (by omega), iV_o (by omega)]
    · rw [iV_o (by omega), iV_o (by omega), if_neg q2]
    · rw [iV_o (by omega)]
      by_cases z : j = p.toNat
      · rw [if_pos z, z, iV_s d0 d1]
      · rw [if_neg z, iV_o (by omega)]
    · by_cases z : j = p.toNat
      · rw [if_pos z, z, iV_s t0 t1]
      · rw [if_neg z, iV_o (by omega), iV_o (by omega)]
/-- a date is moved -/
theorem move_ok {kk td tm : Int} {D : Int → Prop} (h : Bs M) (hkk : kk = (k : Int)) (hk : k < 12) (hs : SV M k) (hz : Zv M (zk M k)) (hn : NXr O f (iV M (30 + 6 * k)) k D) (hD : D d) (hp : exP M k d < 10) (t0 : 10 ≤ td) (t1 : td ≤ 146000) (m0 : 0 ≤ tm) (m1 : tm ≤ 1439) (hf : 2000 ≤ f) : ∃ M', f_Calendarhall_move O f 1 kk d td tm M = some (com M (zk M k) (td * 1440 + tm), M') ∧ Bs M' ∧ Un (fun a => a = 0 ∨ 1044 ≤ a ∨ (1 < a ∧ a < 140 ∧ a ≠ 29 + 6 * k ∧ a ≠ 31 + 6 * k ∧ a ≠ 32 + 6 * k)) M M' ∧ (∀ j, j ≠ 7 → iV M' (29 + 6 * k) j = iV M (29 + 6 * k) j) ∧ iV M' (29 + 6 * k) 7 = (if exO M k d = -1 then iV M (29 + 6 * k) 7 + 1 else iV M (29 + 6 * k) 7) ∧ (∀ j, iV M' (31 + 6 * k) j = if j = (exP M k d).toNat then d else iV M (31 + 6 * k) j) ∧ (∀ j, iV M' (32 + 6 * k) j = if j = (exP M k d).toNat then td * 1440 + tm else iV M (32 + 6 * k) j) := by
  subst hkk
  have hw := h.1
  have hd := hn.1 d hD
  obtain ⟨e0, e1⟩ := hs.2.2.2.2.2.2.1
  obtain ⟨z0, z1⟩ := hs.2.1
  have zl : zk M k < 3 := by unfold zk; omega
  obtain ⟨b, eb, hb⟩ := (hn.2 M hw (fun _ => rfl)).2 d (by omega) (by omega)
  have hb1 : b = 1 := by
    rcases hb with ⟨-, q⟩ | ⟨q, -⟩
    · exact absurd hD q
    · exact q
  have hplace : f_Series_hasPlaceFor O f (29 + 6 * k) d M = some (1, M) := by
    unfold f_Series_hasPlaceFor
    rw [a_Series_exceptions hw hk]
    by_cases g : iV M (29 + 6 * k) 7 < 10
    · first
        | rw [lt_T g (by omega) (by omega)]
        | rw [le_F g (by omega) (by omega)]
    · have hne : exO M k d ≠ -1 := by
        intro q
        unfold exP at hp
        rw [if_pos q] at hp
        omega
      have q := exO_r e0 hne
      first
        | rw [lt_F (by omega) (by omega) (by omega), a_Series_is hw hk, xc_of (e_exceptionOf hw hk e0 e1 (by omega) (by omega) (by omega)), eq_F hne (by omega) (by omega) (by omega) (by omega)]
        | rw [le_T (by omega) (by omega) (by omega), a_Series_is hw hk, xc_of (e_exceptionOf hw hk e0 e1 (by omega) (by omega) (by omega)), eq_F hne (by omega) (by omega) (by omega) (by omega)]
  obtain ⟨N, eN, uN, bN⟩ := bs_save (O := O) (f := f) h (by omega)
  have wN := bN.1
  have nv : ∀ a j, 1 < a → a < 140 → iV N a j = iV M a j := fun a j h1 h2 => uN.i (by (try dsimp only); omega)
  have exN : exO N k d = exO M k d := exO_of (fun b j h1 h2 => nv b j (by omega) (by omega))
  have epN : exP N k d = exP M k d := by
    unfold exP
    rw [exN, nv _ _ (by omega) (by omega)]
  obtain ⟨M', e', u', v1, v2, v3, v4⟩ := except_ok (O := O) (f := f) (t := td * 1440 + tm) wN hk (by rw [nv _ _ (by omega) (by omega)]; exact e0) (by rw [nv _ _ (by omega) (by omega)]; exact e1) (by rw [epN]; exact hp) (by omega) (by omega) (by omega) (by omega) (by omega)
  have w' := u'.wd wN
  have uu : Un (fun a => a = 0 ∨ 1044 ≤ a ∨ (1 < a ∧ a < 140 ∧ a ≠ 29 + 6 * k ∧ a ≠ 31 + 6 * k ∧ a ≠ 32 + 6 * k)) M M' := (uN.le (fun a q => by (try dsimp only at q ⊢); omega)).tr (u'.le (fun a q => by (try dsimp only at q ⊢); omega))
  have zM' : iV M' (29 + 6 * k) 1 = iV M (29 + 6 * k) 1 := by rw [v1 1 (by omega), nv _ _ (by omega) (by omega)]
  have zkM : zk M' k = zk M k := by unfold zk; rw [zM']
  have zz := e_zoneOf (O := O) (f := f) w' hk (by rw [zM']; exact z0) (by rw [zM']; exact z1)
  rw [zkM] at zz
  have zvM : Zv M' (zk M k) := hz.of (fun b j h1 h2 => uu.i (by (try dsimp only); omega))
  have cM : com M' (zk M k) (td * 1440 + tm) = com M (zk M k) (td * 1440 + tm) := com_of (fun b j h1 h2 => uu.i (by (try dsimp only); omega))
  have ec := e_commonOf (O := O) (f := f) (l := td * 1440 + tm) w' zl zvM (by omega) (by omega)
  rw [cM] at ec
  have b0 := bN.2.2 k hk
  rw [show 2 + (27 + 6 * k) = 29 + 6 * k by omega] at b0
  refine ⟨M', ?_, ⟨w', bN.2.1.un u' (by (try dsimp only); omega), ?_⟩, uu, fun j hj => by rw [v1 j hj, nv _ _ (by omega) (by omega)], by rw [v2, exN, nv _ _ (by omega) (by omega)], fun j => by rw [v3, epN, nv _ _ (by omega) (by omega)], fun j => by rw [v4, epN, nv _ _ (by omega) (by omega)]⟩
  · unfold f_Calendarhall_move
    rw [a_Cal_is hw, xc_of (s_num hw hk hs.1), c_needDay t0 t1, c_needRange m0 m1 (by omega) (by omega), a_Series_rule hw hk, a_Rule_is hw hk, eb, xcl_e, hb1, eq_F (by omega) (by omega) (by omega) (by omega) (by omega), a_Series_is hw hk, hplace, xcl_e, eq_F (by omega) (by omega) (by omega) (by omega) (by omega), a_Cal_is hw, eN, xcl_e, a_Series_is wN hk, e', xcl_e, a_Cal_hall w', a_Hall_is w', zz, xcl_e, a_Zone_is w' zl, ec, xcl_e]
  · exact bN.2.2.us (u'.le (fun a q => by (try dsimp only at q ⊢); omega)) hk (by rw [v1 0 (by omega)]; exact b0.1) (by rw [v1 5 (by omega)]; exact b0.2)
end MU2
end
/-! draft 563.lawseries -/
section
/-! ===== the law draws its series ===== -/
def S1 (M : xM) (k : Nat) (fd : Int) : Prop := SV M k ∧ RV01 (iV M (30 + 6 * k)) ∧ (fd ≤ iV M (30 + 6 * k) 0 ∧ iV M (30 + 6 * k) 0 ≤ fd + 3 ∧ iV M (30 + 6 * k) 0 ≤ iV M (30 + 6 * k) 7 ∧ iV M (29 + 6 * k) 7 ≤ 1) ∧ (∀ i : Nat, (i : Int) < iV M (29 + 6 * k) 7 → D01 (iV M (30 + 6 * k)) (iV M (31 + 6 * k) i) ∧ (iV M (32 + 6 * k) i ≠ -1 → 1440 * iV M (31 + 6 * k) i ≤ iV M (32 + 6 * k) i + 4320)) ∧ ∀ p : Nat, p < 8 → 0 ≤ iV M (33 + 6 * k) p ∧ iV M (33 + 6 * k) p ≤ 3
/-- so many series are there -/
def SR (M : xM) (m : Nat) (fd : Int) : Prop := Bs M ∧ (∀ z, z < 3 → Zv M z) ∧ (∀ k : Nat, k < m → S1 M k fd) ∧ ∀ k : Nat, m ≤ k → k < 12 → iV M (29 + 6 * k) 0 = 0
/-- what the law's drawing changes -/
def Ps (a : Nat) : Prop := 1044 ≤ a ∨ (1 < a ∧ a < 140 ∧ (a < 29 ∨ 101 ≤ a))
section LSE
variable {O : Nat → Option va_E} {f k m : Nat} {M N : xM} {fd : Int}
theorem S1.of (h : S1 M k fd) (e : ∀ a j, 29 + 6 * k ≤ a → a < 35 + 6 * k → iV N a j = iV M a j) : S1 N k fd := by
  obtain ⟨a, b, c, d, g⟩ := h
  have er : iV N (30 + 6 * k) = iV M (30 + 6 * k) := funext (fun j => e _ _ (by omega) (by omega))
  refine ⟨a.of e, by rw [er]; exact b, by rw [er, e (29 + 6 * k) 7 (by omega) (by omega)]; exact c, fun i hi => ?_, fun p hp => ?_⟩
  · rw [e (29 + 6 * k) _ (by omega) (by omega)] at hi
    rw [er, e (31 + 6 * k) _ (by omega) (by omega), e (32 + 6 * k) _ (by omega) (by omega)]
    exact d i hi
  · rw [e (33 + 6 * k) _ (by omega) (by omega)]
    exact g p hp
theorem SR.hs (h : SR M m fd) : HS O f M (fun k => D01 (iV M (30 + 6 * k))) := by
  refine ⟨h.1.1, h.2.1, fun k hk => ?_⟩
  by_cases q : k < m
  · have s := h.2.2.1 k q
    exact Or.inr ⟨s.1, nx01 hk s.2.1, fun i hi => (s.2.2.2.1 i hi).1⟩
  · exact Or.inl (h.2.2.2 k (by omega) hk)
theorem SR.un {P : Nat → Prop} (h : SR M m fd) (hm : m ≤ 12) (u : Un P M N) (b : Bs N) (p : ∀ a, 12 ≤ a → a < 101 → P a) : SR N m fd := ⟨b, fun z hz => (h.2.1 z hz).of (fun a j h1 h2 => u.i (p a (by omega) (by omega))), fun k hk => (h.2.2.1 k hk).of (fun a j h1 h2 => u.i (p a (by omega) (by omega))), fun k h1 h2 => by rw [u.i (p _ (by omega) (by omega))]; exact h.2.2.2 k h1 h2⟩
theorem SR.kp {P : Nat → Prop} (h : SR M m fd) (hm : m ≤ 12) (u : Kp P M N) (b : Bs N) (p : ∀ a, 12 ≤ a → a < 101 → P a) : SR N m fd := by
  have hM := h.1.1.1
  exact ⟨b, fun z hz => (h.2.1 z hz).of (fun a j h1 h2 => u.i (by omega) (p a (by omega) (by omega))), fun k hk => (h.2.2.1 k hk).of (fun a j h1 h2 => u.i (by omega) (p a (by omega) (by omega))), fun k h1 h2 => by rw [u.i (by omega) (p _ (by omega) (by omega))]; exact h.2.2.2 k h1 h2⟩
/-- a series more, that has no exceptions yet -/
def SX (M : xM) (k : Nat) (fd : Int) : Prop := SR M (k + 1) fd ∧ iV M (29 + 6 * k) 7 = 0 ∧ iV M (30 + 6 * k) 5 = 0
theorem SR.us (h : SR M k fd) (hk : k < 12) (u : Un (Us k) M N) (b : Bs N) (s : S1 N k fd) : SR N (k + 1) fd := by
  refine ⟨b, fun z hz => (h.2.1 z hz).of (fun a j h1 h2 => u.i (by unfold Us; omega)), fun j hj => ?_, fun j h1 h2 => ?_⟩
  · by_cases q : j = k
    · rw [q]
      exact s
    · exact (h.2.2.1 j (by omega)).of (fun a i h1 h2 => u.i (by unfold Us; omega))
  · rw [u.i (by unfold Us; omega)]
    exact h.2.2.2 j (by omega) h2
theorem SR.us' (h : SR M (k + 1) fd) (hk : k < 12) (u : Un (Us k) M N) (b : Bs N) (s : S1 N k fd) : SR N (k + 1) fd := by
  refine ⟨b, fun z hz => (h.2.1 z hz).of (fun a j h1 h2 => u.i (by unfold Us; omega)), fun j hj => ?_, fun j h1 h2 => ?_⟩
  · by_cases q : j = k
    · rw [q]
      exact s
    · exact (h.2.2.1 j (by omega)).of (fun a i h1 h2 => u.i (by unfold Us; omega))
  · rw [u.i (by unfold Us; omega)]
    exact h.2.2.2 j (by omega) h2
/-- the last steps: answers, and a move -/
theorem ls_161 {K : Nat → Nat → Int → Int → Int → Int → xM → Option (Int × xM)} {many people : Int} (hk : k < 12) (f0 : 10 ≤ fd) (f1 : fd ≤ 100000) (p0 : 0 ≤ people) (p1 : people ≤ 8) (hf : 2000 ≤ f) : ∀ (r n : Nat) (v : Int) (M : xM), SR M (k + 1) fd → iV M (29 + 6 * k) 7 = 0 → 0 ≤ v → v + r = people → r < n → ∃ M', f_Law_series_161 O f K n 1 0 many people fd (k : Int) v M = K 1 0 many people fd ((k : Int) + 1) M' ∧ SR M' (k + 1) fd ∧ Un Ps M M' := by
  intro r
  induction r with
  | zero =>
    intro n v M h hx v0 h1 h2
    obtain ⟨n, rfl⟩ : ∃ n', n = n' + 1 := ⟨n - 1, by omega⟩
    have hw := h.1.1
    obtain ⟨x1, M1, e1, hx1, w1, u1, i1⟩ := di_ok (O := O) (f := f) (m := 4) hw (by omega) (by omega)
    have b1 : Bs M1 := h.1.un u1 (by (try dsimp only); omega) (fun j hj => by (try dsimp only); omega)
    have r1 : SR M1 (k + 1) fd := h.un (by omega) u1 b1 (fun a h1 h2 => by (try dsimp only); omega)
    have up1 : Un Ps M M1 := u1.le (fun a q => by unfold Ps at q; (try dsimp only); omega)
    have start : f_Law_series_161 O f K (n + 1) 1 0 many people fd (k : Int) v M = if yw x1 = yw 0 then K 1 0 many people fd ((k : Int) + 1) M1 else (isO O M1 1 12).bind fun _ => xcl (f_Calendarhall_nextDay O f 1 (k : Int) 10 M1) fun x2 M2 => (isO O M2 0 15).bind fun _ => xcl (f_LDraw_n O f 0 5 M2) fun x3 M3 => (isO O M3 0 15).bind fun _ => xcl (f_LDraw_n O f 0 1440 M3) fun x4 M4 => (isO O M4 1 12).bind fun _ => xcl (f_Calendarhall_move O f 1 (k : Int) x2 (fd + x3) x4 M4) fun x5 M5 => K 1 0 many people fd ((k : Int) + 1) M5 := by
      show (if yw people ≤ yw v then _ else _) = _
      rw [le_T (by omega) (by omega) (by omega), hw.is (k := 0) (ci := 15) (by decide) (by decide), e1, xcl_e]
    rw [start]
    rcases hx1 with rfl | rfl
    · rw [eq_T rfl]
      exact ⟨M1, rfl, r1, up1⟩
    · rw [eq_F (by omega) (by omega) (by omega) (by omega) (by omega)]
      have s1 := r1.2.2.1 k (by omega)
      have nx := nx01 (O := O) (f := f) (k := k) hk s1.2.1
      obtain ⟨x2, e2, hx2⟩ := e_nextDay (O := O) (f := f) (kk := (k : Int)) (d := 10) w1 rfl hk s1.1.1 nx (by omega) (by omega)
      have hfD : D01 (iV M1 (30 + 6 * k)) (iV M1 (30 + 6 * k) 0) := by
        refine ⟨Int.le_refl _, s1.2.2.1.2.2.1, ?_⟩
        split
        · rfl
        · rw [Int.sub_self]
          exact Int.zero_emod _
      have hD2 : D01 (iV M1 (30 + 6 * k)) x2 ∧ x2 ≤ iV M1 (30 + 6 * k) 0 := by
        rcases hx2 with ⟨-, q⟩ | ⟨q1, q2, q3⟩
        · exact absurd hfD (q _ (by have := s1.2.1.1; omega))
        · refine ⟨q2, ?_⟩
          rcases Int.lt_or_le (iV M1 (30 + 6 * k) 0) x2 with z | z
          · exact absurd hfD (q3 _ (by have := s1.2.1.1; omega) z)
          · exact z
      have hx2e : x2 = iV M1 (30 + 6 * k) 0 := by
        have := hD2.1.1
        omega
      obtain ⟨x3, M3, e3, x30, x31, w3, u3, i3⟩ := dn_ok (O := O) (f := f) (m := 5) w1 (by omega) (by omega)
      obtain ⟨x4, M4, e4, x40, x41, w4, u4, i4⟩ := dn_ok (O := O) (f := f) (m := 1440) w3 (by omega) (by omega)
      have u34 := u3.tr u4
      have iv : ∀ a j, iV M4 a j = iV M1 a j := fun a j => by rw [i4, i3]
      have b4 : Bs M4 := b1.un u34 (by (try dsimp only); omega) (fun j hj => by (try dsimp only); omega)
      have r4 : SR M4 (k + 1) fd := r1.un (by omega) u34 b4 (fun a h1 h2 => by (try dsimp only); omega)
      have s4 := r4.2.2.1 k (by omega)
      have nx4 := nx01 (O := O) (f := f) (k := k) hk s4.2.1
      have er : iV M4 (30 + 6 * k) = iV M1 (30 + 6 * k) := funext (fun j => iv _ j)
      have n0 : iV M4 (29 + 6 * k) 7 = 0 := by rw [iv, i1]; exact hx
      have exn : exO M4 k x2 = -1 := by
        unfold exO
        rw [n0]
        rfl
      have zl : zk M4 k < 3 := by
        have := s4.1.2.1
        unfold zk
        omega
      have f4 := s4.2.2.1
      obtain ⟨M5, e5, b5, u5, v1, v2, v3, v4⟩ := move_ok (O := O) (f := f) (kk := (k : Int)) (d := x2) (td := fd + x3) (tm := x4) b4 rfl hk s4.1 (r4.2.1 _ zl) nx4 (by rw [er]; exact hD2.1) (by unfold exP; rw [if_pos exn, n0]; omega) (by omega) (by omega) x40 (by omega) hf
      have ep : exP M4 k x2 = 0 := by unfold exP; rw [if_pos exn, n0]
      rw [ep] at v3 v4
      rw [if_pos exn, n0] at v2
      have us5 : Un (Us k) M4 M5 := u5.le (fun a q => by unfold Us at q; (try dsimp only); omega)
      have er5 : iV M5 (30 + 6 * k) = iV M4 (30 + 6 * k) := funext (fun j => u5.i (by (try dsimp only); omega))
      have d5 : iV M5 (31 + 6 * k) 0 = x2 := by rw [v3]; rfl
      have t5 : iV M5 (32 + 6 * k) 0 = (fd + x3) * 1440 + x4 := by rw [v4]; rfl
      have hx2r : iV M4 (30 + 6 * k) 0 = x2 := by rw [er]; exact hx2e.symm
      have sM5 : S1 M5 k fd := by
        obtain ⟨t0, g1, g2, g3, g4, g5, g6, g7, g8⟩ := s4.1
        refine ⟨⟨by rw [v1 0 (by omega)]; exact t0, by rw [v1 1 (by omega)]; exact g1, by rw [v1 2 (by omega)]; exact g2, by rw [v1 3 (by omega)]; exact g3, by rw [v1 4 (by omega)]; exact g4, by rw [v1 5 (by omega)]; exact g5, by rw [v2]; omega, fun i hi => ?_, fun i j hij hj => ?_⟩, by rw [er5]; exact s4.2.1, by rw [er5]; exact ⟨s4.2.2.1.1, s4.2.2.1.2.1, s4.2.2.1.2.2.1, by rw [v2]; omega⟩, fun i hi => ?_, fun p hp => ?_⟩
        · have i0 : i = 0 := by
            rw [v2] at hi
            omega
          rw [i0, d5, t5]
          omega
        · rw [v2] at hj
          omega
        · have i0 : i = 0 := by
            rw [v2] at hi
            omega
          rw [i0, d5, t5, er5, er]
          exact ⟨hD2.1, fun _ => by omega⟩
        · rw [u5.i (by (try dsimp only); omega)]
          exact s4.2.2.2.2 p hp
      rw [a_Cal_is w1, e2, xcl_e, w1.is (k := 0) (ci := 15) (by decide) (by decide), e3, xcl_e, w3.is (k := 0) (ci := 15) (by decide) (by decide), e4, xcl_e, a_Cal_is w4, e5, xcl_e]
      exact ⟨M5, rfl, r4.us' hk us5 b5 sM5, (up1.tr (u34.le (fun a q => by unfold Ps at q; (try dsimp only); omega))).tr (u5.le (fun a q => by unfold Ps at q; (try dsimp only); omega))⟩
  | succ r ih =>
    intro n v M h hx v0 h1 h2
    obtain ⟨n, rfl⟩ : ∃ n', n = n' + 1 := ⟨n - 1, by omega⟩
    have hw := h.1.1
    have s := h.2.2.1 k (by omega)
    obtain ⟨p00, p01⟩ := s.1.2.2.2.2.1
    have hb := bitz_lt (x := iV M (29 + 6 * k) 4) (k := v)
    have e4 := e_seriesAt (O := O) (f := f) (kk := (k : Int)) (w := 4) (j := 4) hw rfl hk s.1.1 (Or.inr (Or.inr ⟨rfl, rfl⟩))
    show ∃ M', (if yw people ≤ yw v then _ else _) = _ ∧ _
    rw [le_F (by omega) (by omega) (by omega), a_Cal_is hw, e4, xcl_e, bit_e p00 (by omega) (by omega) (by omega)]
    by_cases g : bitz (iV M (29 + 6 * k) 4) v = 1
    · obtain ⟨x1, M1, e1, hx1, w1, u1, i1⟩ := di_ok (O := O) (f := f) (m := 3) hw (by omega) (by omega)
      have b1 : Bs M1 := h.1.un u1 (by (try dsimp only); omega) (fun j hj => by (try dsimp only); omega)
      have r1 : SR M1 (k + 1) fd := h.un (by omega) u1 b1 (fun a h1 h2 => by (try dsimp only); omega)
      have up1 : Un Ps M M1 := u1.le (fun a q => by unfold Ps at q; (try dsimp only); omega)
      rw [eq_T g, hw.is (k := 0) (ci := 15) (by decide) (by decide), e1, xcl_e]
      rcases hx1 with rfl | rfl
      · rw [eq_T rfl]
        obtain ⟨M', e', z, u'⟩ := ih n (v + 1) M1 r1 (by rw [i1]; exact hx) (by omega) (by omega) (by omega)
        exact ⟨M', e', z, up1.tr u'⟩
      · obtain ⟨x8, M8, e8, x80, x81, w8, u8, i8⟩ := dn_ok (O := O) (f := f) (m := 4) w1 (by omega) (by omega)
        have b8 : Bs M8 := b1.un u8 (by (try dsimp only); omega) (fun j hj => by (try dsimp only); omega)
        have r8 : SR M8 (k + 1) fd := r1.un (by omega) u8 b8 (fun a h1 h2 => by (try dsimp only); omega)
        have s8 := r8.2.2.1 k (by omega)
        have iv : ∀ a j, iV M8 a j = iV M a j := fun a j => by rw [i8, i1]
        obtain ⟨M9, y, e9, b9, u9, a9, o9⟩ := answer_ok (O := O) (f := f) (kk := (k : Int)) (x := v) (a := x8) b8 rfl hk s8.1.1 (by rw [iv]; exact p00) v0 (by omega) (by rw [iv]; exact g) x80 (by omega) hf
        have us9 : Un (Us k) M8 M9 := u9.le (fun a q => by unfold Us at q; (try dsimp only); omega)
        have s9 : S1 M9 k fd := by
          have e29 : ∀ a j, a ≠ 33 + 6 * k → 29 + 6 * k ≤ a → a < 35 + 6 * k → iV M9 a j = iV M8 a j := fun a j h1 h2 h3 => u9.i (by (try dsimp only); omega)
          obtain ⟨c1, c2, c3, c4, c5⟩ := s8
          have er : iV M9 (30 + 6 * k) = iV M8 (30 + 6 * k) := funext (fun j => e29 _ _ (by omega) (by omega) (by omega))
          refine ⟨?_, by rw [er]; exact c2, by rw [er, e29 (29 + 6 * k) 7 (by omega) (by omega) (by omega)]; exact c3, fun i hi => ?_, fun p hp => ?_⟩
          · unfold SV at c1 ⊢
            simp (disch := omega) only [e29]
            exact c1
          · rw [e29 (29 + 6 * k) _ (by omega) (by omega) (by omega)] at hi
            rw [er, e29 (31 + 6 * k) _ (by omega) (by omega) (by omega), e29 (32 + 6 * k) _ (by omega) (by omega) (by omega)]
            exact c4 i hi
          · by_cases z : p = v.toNat
            · rw [z, a9]
              omega
            · rw [o9 p z]
              exact c5 p hp
        obtain ⟨M', e', z, u'⟩ := ih n (v + 1) M9 (r8.us' hk us9 b9 s9) (by rw [u9.i (by (try dsimp only); omega), iv]; exact hx) (by omega) (by omega) (by omega)
        refine ⟨M', ?_, z, ((up1.tr (u8.le (fun a q => by unfold Ps at q; (try dsimp only); omega))).tr (u9.le (fun a q => by unfold Ps at q; (try dsimp only); omega))).tr u'⟩
        rw [eq_F (by omega) (by omega) (by omega) (by omega) (by omega), w1.is (k := 0) (ci := 15) (by decide) (by decide), e8, xcl_e, a_Cal_is w8, e9, xcl_e]
        exact e'
    · rw [eq_F g (by omega) (by omega) (by omega) (by omega)]
      exact ih n (v + 1) M h hx (by omega) (by omega) (by omega)
/-- from the new series on -/
theorem ls_106 {K : Nat → Nat → Int → Int → Int → Int → xM → Option (Int × xM)} {many people z d mi le pe ne : Int} (h : SR M k fd) (hk : k < 12) (f0 : 10 ≤ fd) (f1 : fd ≤ 100000) (pp0 : 0 ≤ people) (pp1 : people ≤ 8) (z0 : 0 ≤ z) (z1 : z < 3) (d0 : fd ≤ d) (d1 : d ≤ fd + 3) (m0 : 0 ≤ mi) (m1 : mi ≤ 1439) (l0 : 1 ≤ le) (l1 : le ≤ 600) (p0 : 0 ≤ pe) (p1 : pe ≤ 255) (hn : ne = 0 ∨ ne = 1) (hf : 2000 ≤ f) : ∃ M', f_Law_series_106 O f K 1 0 many people fd (k : Int) 1 z d mi le pe ne M = K 1 0 many people fd ((k : Int) + 1) M' ∧ SR M' (k + 1) fd ∧ Un Ps M M' := by
  have hw := h.1.1
  obtain ⟨M1, e1, b1, u1, ⟨c0, c1, c2, c3, c4, c5, c7⟩, ⟨r0, r1, r2, r3, r4, r5, r6, r7⟩, an⟩ := add_series (O := O) (f := f) (k := k) (d := d) h.1 hk (fun j hj => (h.2.2.1 j hj).1.1) (h.2.2.2 k (Nat.le_refl _) hk) z0 z1 (by omega) (by omega) m0 m1 l0 l1 p0 p1 hn hf
  have w1 := b1.1
  have s1 : S1 M1 k fd := by
    refine ⟨⟨c0, by omega, by omega, by omega, by omega, by omega, by omega, fun i hi => by omega, fun i j _ hj => by omega⟩, ?_, by omega, fun i hi => by omega, fun p hp => by have := an p hp; omega⟩
    unfold RV01
    omega
  have R1 : SR M1 (k + 1) fd := h.us hk u1 b1 s1
  have toPs : ∀ {A B : xM}, Un (Us k) A B → Un Ps A B := fun u => u.le (fun a q => by unfold Ps at q; unfold Us; omega)
  have t158 : ∀ N : xM, SR N (k + 1) fd → iV N (29 + 6 * k) 7 = 0 → ∃ M', f_Law_series_158 O f K 1 0 many people fd (k : Int) N = K 1 0 many people fd ((k : Int) + 1) M' ∧ SR M' (k + 1) fd ∧ Un Ps N M' := by
    intro N hN hx
    unfold f_Law_series_158
    exact ls_161 (O := O) (f := f) (K := K) (many := many) hk f0 f1 pp0 pp1 hf people.toNat f 0 N hN hx (by omega) (by omega) (by omega)
  have t135 : ∀ N : xM, SR N (k + 1) fd → iV N (29 + 6 * k) 7 = 0 → ∃ M', f_Law_series_135 O f K 1 0 many people fd (k : Int) N = K 1 0 many people fd ((k : Int) + 1) M' ∧ SR M' (k + 1) fd ∧ Un Ps N M' := by
    intro N hN hx
    have wN := hN.1.1
    obtain ⟨x1, N1, g1, hx1, w1, v1, i1⟩ := di_ok (O := O) (f := f) (m := 3) wN (by omega) (by omega)
    have bN1 : Bs N1 := hN.1.un v1 (by (try dsimp only); omega) (fun j hj => by (try dsimp only); omega)
    have R1 : SR N1 (k + 1) fd := hN.un (by omega) v1 bN1 (fun a h1 h2 => by (try dsimp only); omega)
    have up1 : Un Ps N N1 := v1.le (fun a q => by unfold Ps at q; (try dsimp only); omega)
    unfold f_Law_series_135
    rw [wN.is (k := 0) (ci := 15) (by decide) (by decide), g1, xcl_e]
    rcases hx1 with rfl | rfl
    · rw [eq_T rfl]
      obtain ⟨M', e', z, u'⟩ := t158 N1 R1 (by rw [i1]; exact hx)
      exact ⟨M', e', z, up1.tr u'⟩
    · obtain ⟨x2, N2, g2, x20, x21, w2, v2, i2⟩ := dn_ok (O := O) (f := f) (m := 5) w1 (by omega) (by omega)
      have bN2 : Bs N2 := bN1.un v2 (by (try dsimp only); omega) (fun j hj => by (try dsimp only); omega)
      have R2 : SR N2 (k + 1) fd := R1.un (by omega) v2 bN2 (fun a h1 h2 => by (try dsimp only); omega)
      have s2 := R2.2.2.1 k (by omega)
      obtain ⟨N3, y, g3, b3, u3, q1, q2, ⟨q3, q4, q5, q6, q7⟩, q8⟩ := set_end1 (O := O) (f := f) (kk := (k : Int)) (q := 1 + x2) bN2 rfl hk s2.1.1 s2.2.1.1 s2.2.1.2.1 s2.2.1.2.2.1 (by omega) (by omega) hf
      have s3 : S1 N3 k fd := by
        obtain ⟨⟨a1, a2, a3, a4, a5, a6, a7, a8, a9⟩, ⟨b1, b2, b3, b4, b5⟩, ⟨cc1, cc2, cc3⟩, dd, ee⟩ := s2
        refine ⟨⟨by rw [q1 0 (by omega)]; exact a1, by rw [q1 1 (by omega)]; exact a2, by rw [q1 2 (by omega)]; exact a3, by rw [q1 3 (by omega)]; exact a4, by rw [q1 4 (by omega)]; exact a5, by rw [q1 5 (by omega)]; exact a6, by omega, fun i hi => by omega, fun i j _ hj => by omega⟩, ?_, by omega, fun i hi => by omega, fun p hp => by rw [q8]; exact ee p hp⟩
        unfold RV01
        rw [q4, q5]
        omega
      rw [eq_F (by omega) (by omega) (by omega) (by omega) (by omega), w1.is (k := 0) (ci := 15) (by decide) (by decide), g2, xcl_e, a_Cal_is w2, g3, xcl_e]
      obtain ⟨M', e', z, u'⟩ := t158 N3 (R2.us' hk u3 b3 s3) q2
      exact ⟨M', e', z, ((up1.tr (v2.le (fun a q => by unfold Ps at q; (try dsimp only); omega))).tr (toPs u3)).tr u'⟩
  obtain ⟨x2, M2, e2, hx2, w2, u2, i2⟩ := di_ok (O := O) (f := f) (m := 2) w1 (by omega) (by omega)
  have b2 : Bs M2 := b1.un u2 (by (try dsimp only); omega) (fun j hj => by (try dsimp only); omega)
  have R2 : SR M2 (k + 1) fd := R1.un (by omega) u2 b2 (fun a h1 h2 => by (try dsimp only); omega)
  have up2 : Un Ps M M2 := (toPs u1).tr (u2.le (fun a q => by unfold Ps at q; (try dsimp only); omega))
  unfold f_Law_series_106
  rw [a_Cal_is hw, e1, xcl_e, w1.is (k := 0) (ci := 15) (by decide) (by decide), e2, xcl_e]
  rcases hx2 with rfl | rfl
  · rw [eq_T rfl]
    obtain ⟨M', e', z, u'⟩ := t135 M2 R2 (by rw [i2]; exact c7)
    exact ⟨M', e', z, up2.tr u'⟩
  · obtain ⟨x3, M3, e3, x30, x31, w3, u3, i3⟩ := dn_ok (O := O) (f := f) (m := 3) w2 (by omega) (by omega)
    have b3 : Bs M3 := b2.un u3 (by (try dsimp only); omega) (fun j hj => by (try dsimp only); omega)
    have R3 : SR M3 (k + 1) fd := R2.un (by omega) u3 b3 (fun a h1 h2 => by (try dsimp only); omega)
    have s3 := R3.2.2.1 k (by omega)
    have iv : ∀ a j, iV M3 a j = iV M1 a j := fun a j => by rw [i3, i2]
    obtain ⟨M4, y, e4, b4, u4, q1, q2, ⟨q3, q4, q5, q6, q7, q8, q9⟩, q10⟩ := set_rule1 (O := O) (f := f) (kk := (k : Int)) (s := 1 + x3) b3 rfl hk s3.1.1 s3.2.1.1 s3.2.1.2.1 (by rw [iv, iv]; omega) (by omega) (by omega) hf
    have s4 : S1 M4 k fd := by
      obtain ⟨⟨a1, a2, a3, a4, a5, a6, a7, a8, a9⟩, ⟨bb1, bb2, bb3, bb4, bb5⟩, ⟨cc1, cc2, cc3⟩, dd, ee⟩ := s3
      refine ⟨⟨by rw [q1 0 (by omega)]; exact a1, by rw [q1 1 (by omega)]; exact a2, by rw [q1 2 (by omega)]; exact a3, by rw [q1 3 (by omega)]; exact a4, by rw [q1 4 (by omega)]; exact a5, by rw [q1 5 (by omega)]; exact a6, by omega, fun i hi => by omega, fun i j _ hj => by omega⟩, ?_, by omega, fun i hi => by omega, fun p hp => by rw [q10]; exact ee p hp⟩
      unfold RV01
      rw [q4, q5]
      omega
    rw [eq_F (by omega) (by omega) (by omega) (by omega) (by omega), w2.is (k := 0) (ci := 15) (by decide) (by decide), e3, xcl_e, a_Cal_is w3, e4, xcl_e]
    obtain ⟨M', e', z, u'⟩ := t135 M4 (R3.us' hk u4 b4 s4) q2
    exact ⟨M', e', z, ((up2.tr (u3.le (fun a q => by unfold Ps at q; (try dsimp only); omega))).tr (toPs u4)).tr u'⟩
/-- all series are drawn -/
theorem ls_3 {people : Int} (f0 : 10 ≤ fd) (f1 : fd ≤ 100000) (pp0 : 0 ≤ people) (pp1 : people ≤ 8) (hm : m ≤ 12) (hf : 2000 ≤ f) : ∀ (r n k : Nat) (M : xM), SR M k fd → k + r = m → r < n → ∃ M', f_Law_series_3 O f n 1 0 (m : Int) people fd (k : Int) M = some ((m : Int), M') ∧ SR M' m fd ∧ Un Ps M M' := by
  intro r
  induction r with
  | zero =>
    intro n k M h h1 h2
    obtain ⟨n, rfl⟩ : ∃ n', n = n' + 1 := ⟨n - 1, by omega⟩
    obtain rfl : k = m := by omega
    refine ⟨M, ?_, h, Un.rf⟩
    show (if yw (k : Int) ≤ yw (k : Int) then _ else _) = _
    rw [le_T (by omega) (by omega) (by omega)]
  | succ r ih =>
    intro n k M h h1 h2
    obtain ⟨n, rfl⟩ : ∃ n', n = n' + 1 := ⟨n - 1, by omega⟩
    have hk : k < 12 := by omega
    have dr : ∀ {A B : xM}, SR A k fd → Un (fun a => a ≠ 0) A B → SR B k fd := fun hA u => hA.un (by omega) u (hA.1.un u (by (try dsimp only); omega) (fun j hj => by (try dsimp only); omega)) (fun a h1 h2 => by (try dsimp only); omega)
    have ps : ∀ {A B : xM}, Un (fun a => a ≠ 0) A B → Un Ps A B := fun u => u.le (fun a q => by unfold Ps at q; (try dsimp only); omega)
    have sh : jshl 1 (jand people 31) = 2 ^ people.toNat := jshl_one pp0 (by omega)
    have sh1 : (1 : Int) ≤ 2 ^ people.toNat ∧ (2 : Int) ^ people.toNat ≤ 256 := by
      have : ∀ n : Nat, n ≤ 8 → (1 : Int) ≤ 2 ^ n ∧ (2 : Int) ^ n ≤ 256 := by decide
      exact this _ (by omega)
    have done : ∀ N : xM, SR N (k + 1) fd → Un Ps M N → ∃ M', f_Law_series_3 O f n 1 0 (m : Int) people fd ((k : Int) + 1) N = some ((m : Int), M') ∧ SR M' m fd ∧ Un Ps M M' := by
      intro N hN u
      obtain ⟨M', e', z, u'⟩ := ih n (k + 1) N hN (by omega) (by omega)
      rw [show ((k + 1 : Nat) : Int) = (k : Int) + 1 by omega] at e'
      exact ⟨M', e', z, u.tr u'⟩
    have t86 : ∀ (N : xM) (z d mi le : Int), SR N k fd → Un Ps M N → 0 ≤ z → z < 3 → fd ≤ d → d ≤ fd + 3 → 0 ≤ mi → mi ≤ 1439 → 1 ≤ le → le ≤ 600 → ∃ M', f_Law_series_86 O f (f_Law_series_3 O f n) 1 0 (m : Int) people fd (k : Int) 1 z d mi le N = some ((m : Int), M') ∧ SR M' m fd ∧ Un Ps M M' := by
      intro N z d mi le hN uN z0 z1 d0 d1 m0 m1 l0 l1
      obtain ⟨x1, N1, g1, x10, x11, w1, v1, -⟩ := dn_ok (O := O) (f := f) (m := 2 ^ people.toNat) hN.1.1 (by omega) (by omega)
      have R1 := dr hN v1
      obtain ⟨x2, N2, g2, hx2, w2, v2, -⟩ := di_ok (O := O) (f := f) (m := 3) w1 (by omega) (by omega)
      have R2 := dr R1 v2
      unfold f_Law_series_86
      rw [hN.1.1.is (k := 0) (ci := 15) (by decide) (by decide), sh, g1, xcl_e, w1.is (k := 0) (ci := 15) (by decide) (by decide), g2, xcl_e]
      have both : ∀ ne : Int, ne = 0 ∨ ne = 1 → ∃ M', f_Law_series_106 O f (f_Law_series_3 O f n) 1 0 (m : Int) people fd (k : Int) 1 z d mi le x1 ne N2 = some ((m : Int), M') ∧ SR M' m fd ∧ Un Ps M M' := by
        intro ne hne
        obtain ⟨M6, e6, z6, u6⟩ := ls_106 (O := O) (f := f) (K := f_Law_series_3 O f n) (many := (m : Int)) (people := people) R2 hk f0 f1 pp0 pp1 z0 z1 d0 d1 m0 m1 l0 l1 x10 (by omega) hne hf
        rw [e6]
        exact done M6 z6 (((uN.tr (ps v1)).tr (ps v2)).tr u6)
      rcases hx2 with rfl | rfl
      · rw [eq_T rfl]
        exact both 1 (Or.inr rfl)
      · rw [eq_F (by omega) (by omega) (by omega) (by omega) (by omega)]
        exact both 0 (Or.inl rfl)
    have t54 : ∀ (N : xM) (z d mi : Int), SR N k fd → Un Ps M N → 0 ≤ z → z < 3 → fd ≤ d → d ≤ fd + 3 → 0 ≤ mi → mi ≤ 1439 → ∃ M', f_Law_series_54 O f (f_Law_series_3 O f n) 1 0 (m : Int) people fd (k : Int) 1 z d mi N = some ((m : Int), M') ∧ SR M' m fd ∧ Un Ps M M' := by
      intro N z d mi hN uN z0 z1 d0 d1 m0 m1
      obtain ⟨x1, N1, g1, hx1, w1, v1, -⟩ := di_ok (O := O) (f := f) (m := 3) hN.1.1 (by omega) (by omega)
      have R1 := dr hN v1
      unfold f_Law_series_54
      rw [hN.1.1.is (k := 0) (ci := 15) (by decide) (by decide), g1, xcl_e]
      rcases hx1 with rfl | rfl
      · obtain ⟨x2, N2, g2, x20, x21, w2, v2, -⟩ := dn_ok (O := O) (f := f) (m := 8) w1 (by omega) (by omega)
        rw [eq_T rfl, w1.is (k := 0) (ci := 15) (by decide) (by decide), g2, xcl_e]
        exact t86 N2 _ _ _ _ (dr R1 v2) ((uN.tr (ps v1)).tr (ps v2)) z0 z1 d0 d1 m0 m1 (by omega) (by omega)
      · obtain ⟨x2, N2, g2, x20, x21, w2, v2, -⟩ := dn_ok (O := O) (f := f) (m := 600) w1 (by omega) (by omega)
        rw [eq_F (by omega) (by omega) (by omega) (by omega) (by omega), w1.is (k := 0) (ci := 15) (by decide) (by decide), g2, xcl_e]
        exact t86 N2 _ _ _ _ (dr R1 v2) ((uN.tr (ps v1)).tr (ps v2)) z0 z1 d0 d1 m0 m1 (by omega) (by omega)
    obtain ⟨x1, M1, e1, x10, x11, w1, u1, -⟩ := dn_ok (O := O) (f := f) (m := 3) h.1.1 (by omega) (by omega)
    have R1 := dr h u1
    obtain ⟨x2, M2, e2, x20, x21, w2, u2, -⟩ := dn_ok (O := O) (f := f) (m := 4) w1 (by omega) (by omega)
    have R2 := dr R1 u2
    obtain ⟨x3, M3, e3, hx3, w3, u3, -⟩ := di_ok (O := O) (f := f) (m := 3) w2 (by omega) (by omega)
    have R3 := dr R2 u3
    have u13 : Un Ps M M3 := ((ps u1).tr (ps u2)).tr (ps u3)
    show ∃ M', (if yw (m : Int) ≤ yw (k : Int) then _ else _) = some ((m : Int), M') ∧ _
    rw [le_F (by omega) (by omega) (by omega), h.1.1.is (k := 0) (ci := 15) (by decide) (by decide), e1, xcl_e, w1.is (k := 0) (ci := 15) (by decide) (by decide), e2, xcl_e, w2.is (k := 0) (ci := 15) (by decide) (by decide), e3, xcl_e]
    rcases hx3 with rfl | rfl
    · obtain ⟨x4, M4, e4, x40, x41, w4, u4, -⟩ := dn_ok (O := O) (f := f) (m := 18) w3 (by omega) (by omega)
      rw [eq_T rfl, w3.is (k := 0) (ci := 15) (by decide) (by decide), e4, xcl_e]
      exact t54 M4 _ _ _ (dr R3 u4) (u13.tr (ps u4)) x10 x11 (by omega) (by omega) (by omega) (by omega)
    · obtain ⟨x4, M4, e4, x40, x41, w4, u4, -⟩ := dn_ok (O := O) (f := f) (m := 1440) w3 (by omega) (by omega)
      rw [eq_F (by omega) (by omega) (by omega) (by omega) (by omega), w3.is (k := 0) (ci := 15) (by decide) (by decide), e4, xcl_e]
      exact t54 M4 _ _ _ (dr R3 u4) (u13.tr (ps u4)) x10 x11 (by omega) (by omega) x40 (by omega)
theorem series_ok {people : Int} (h : SR M 0 fd) (f0 : 10 ≤ fd) (f1 : fd ≤ 100000) (pp0 : 0 ≤ people) (pp1 : people ≤ 8) (hm : m ≤ 12) (hf : 2000 ≤ f) : ∃ M', f_Law_series O f 1 0 (m : Int) people fd M = some ((m : Int), M') ∧ SR M' m fd ∧ Un Ps M M' := ls_3 f0 f1 pp0 pp1 hm hf m f 0 M h (by omega) (by omega)
end LSE
end
