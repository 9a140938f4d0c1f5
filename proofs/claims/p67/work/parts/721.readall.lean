/-! draft 721.readall -/
section
/-! ===== a text that the law wrote is read: the rule is the law's ===== -/
section RDA
variable {O : Nat → Option va_E} {f k : Nat} {M N : xM} {T : List Int} {r : Nat → Int} {γ : Type}
theorem txR_KT (hv : LVr r) (p : -1 ≤ r 4) : txR r = KT r := by
  obtain ⟨-, ⟨a0, a1⟩, -, -, ⟨s0, s1⟩, -, -, -, q3, q4, -, -⟩ := hv
  have eD : txD (r 3) 7 = nmF (dsL (r 3).toNat) := by
    have q := (ds_all (r 3).toNat (by omega)).1
    rw [show (((r 3).toNat : Nat) : Int) = r 3 by omega] at q
    exact q
  have e0 : ∀ L : List Int, tq 34 ++ L = L := fun L => rfl
  have e38 : ∀ L : List Int, (tq 38 ++ L) = tq 58 ++ ([32] ++ L) := fun L => rfl
  have e44 : ∀ L : List Int, tq 44 ++ L = tq 60 ++ ([32] ++ (tq 62 ++ L)) := fun L => rfl
  have e48 : ∀ L : List Int, tq 48 ++ L = tq 66 ++ ([32] ++ (tq 62 ++ ([32] ++ L))) := fun L => rfl
  have eS : txS r ++ UT r = SU r := by
    unfold txS SU
    by_cases c : r 2 ≤ 1
    · rw [if_pos c, if_pos c, e0]
    · rw [if_neg c, if_neg c, List.append_assoc]
      rfl
  have e333 : r 1 ≠ 3 → r 1 ≠ 4 → tx333 r (txD (r 3) 7) = txE r := fun h3 h4 => by
    unfold tx333 tx431
    rw [if_neg h3, if_neg h4]
  unfold txR tx196 KT
  by_cases k0 : r 1 = 0
  · rw [if_pos k0, if_pos k0, e333 (by omega) (by omega)]
  rw [if_neg k0, if_neg k0, ← e38, ← eS]
  unfold UT
  by_cases k1 : r 1 = 1
  · rw [if_pos k1, if_pos k1, e333 (by omega) (by omega), List.append_assoc, List.append_assoc]
  rw [if_neg k1, if_neg k1]
  by_cases k2 : r 1 = 2
  · rw [if_pos k2, if_pos k2, e333 (by omega) (by omega), List.append_assoc, List.append_assoc, List.append_assoc, e44, eD]
  rw [if_neg k2, if_neg k2]
  by_cases k5 : r 1 = 5
  · rw [if_pos k5, if_pos k5, e333 (by omega) (by omega), List.append_assoc, List.append_assoc]
  rw [if_neg k5, if_neg k5, List.append_assoc, List.append_assoc, e48]
  have w : tx333 r (txD (r 3) 7) = WT r := by
    unfold tx333 tx431 WT
    by_cases k3 : r 1 = 3
    · have z := q3 k3
      rw [if_pos k3, if_neg (show ¬ r 1 = 4 by omega), if_pos k3]
      unfold txP3
      by_cases c : 0 < r 4
      · rw [if_pos c, if_pos c, e0]
      · rw [if_neg c, if_neg c, if_pos (show r 4 = -1 by omega)]
    · have k4 : r 1 = 4 := by omega
      have z := q4 k4
      rw [if_neg k3, if_pos k4, if_neg k3, eD, List.append_assoc]
      unfold txP4
      by_cases c : 0 < r 4
      · rw [if_pos c, if_pos c]
      · rw [if_neg c, if_neg c, if_pos (show r 4 = -1 by omega)]
  rw [w]
/-- the whole text -/
theorem parse_ok {least : Int} (hO : STo O) (w : Wd M) (rd : RD M (txR r)) (hv : LVr r) (p : -1 ≤ r 4) (l0 : -1000 ≤ least) (l1 : least ≤ 146000) (l2 : r 5 = 2 → least ≤ r 6) (hf : 200 ≤ f) : ∃ N, f_Reader_parse O f 134 least M = some (-1, N) ∧ (∀ q : Nat, 1 ≤ q → q ≤ 6 → iV N 135 q = r q) ∧ (∀ q : Nat, q = 0 ∨ 7 ≤ q → iV N 135 q = iV M 135 q) ∧ RD N (txR r) ∧ Wd N ∧ Un (fun a => a ≠ 134 ∧ a ≠ 135) M N := by
  have eK := txR_KT hv p
  obtain ⟨D, eD⟩ : ∃ D, D = iS M 134 4 0 := ⟨_, rfl⟩
  have wD : Wd D := by rw [eD]; exact w
  have dD : RD D (txR r) := by rw [eD]; exact rd_i rd (by omega) (by omega)
  have uD : Un (fun a => a ≠ 134 ∧ a ≠ 135) M D := by rw [eD]; exact Un.rf.iS (by (try dsimp only); omega)
  have D4 : iV D 134 4 = 0 := by rw [eD, iV_s (by omega) (by omega)]
  obtain ⟨E, eE⟩ : ∃ E, E = iS (iS (iS (iS D 135 1 0) 135 2 0) 135 3 0) 135 4 0 := ⟨_, rfl⟩
  have wE : Wd E := by rw [eE]; exact wD
  have pE : f_Rule_put O f 135 0 0 0 0 D = some ((), E) := by
    unfold f_Rule_put
    rw [p_RRule_kind wD, p_RRule_step (M := iS D 135 1 0) wD, p_RRule_days (M := iS (iS D 135 1 0) 135 2 0) wD, p_RRule_place (M := iS (iS (iS D 135 1 0) 135 2 0) 135 3 0) wD, ← eE]
  have dE : RD E (txR r) := by rw [eE]; exact rd_i (rd_i (rd_i (rd_i dD (by omega) (by omega)) (by omega) (by omega)) (by omega) (by omega)) (by omega) (by omega)
  have uE : Un (fun a => a ≠ 134 ∧ a ≠ 135) M E := by
    rw [eE]
    exact (((uD.iS (by (try dsimp only); omega)).iS (by (try dsimp only); omega)).iS (by (try dsimp only); omega)).iS (by (try dsimp only); omega)
  obtain ⟨F, eF⟩ : ∃ F, F = iS (iS E 135 5 0) 135 6 0 := ⟨_, rfl⟩
  have wF : Wd F := by rw [eF]; exact wE
  have pF : f_Rule_putEnd O f 135 0 0 E = some ((), F) := by
    unfold f_Rule_putEnd
    rw [p_RRule_how wE, p_RRule_number (M := iS E 135 5 0) wE, ← eF]
  have dF2 : RD F (txR r) := by rw [eF]; exact rd_i (rd_i dE (by omega) (by omega)) (by omega) (by omega)
  have uF : Un (fun a => a ≠ 134 ∧ a ≠ 135) M F := by
    rw [eF]
    exact (uE.iS (by (try dsimp only); omega)).iS (by (try dsimp only); omega)
  have F4 : iV F 134 4 = 0 := by
    rw [eF, iV_o (by omega), iV_o (by omega), eE, iV_o (by omega), iV_o (by omega), iV_o (by omega), iV_o (by omega), D4]
  have Fz : ∀ q : Nat, 1 ≤ q → q ≤ 6 → iV F 135 q = 0 := fun q q1 q6 => by
    have c : q = 1 ∨ q = 2 ∨ q = 3 ∨ q = 4 ∨ q = 5 ∨ q = 6 := by omega
    rcases c with rfl | rfl | rfl | rfl | rfl | rfl
    · rw [eF, iV_o (by omega), iV_o (by omega), eE, iV_o (by omega), iV_o (by omega), iV_o (by omega), iV_s (by omega) (by omega)]
    · rw [eF, iV_o (by omega), iV_o (by omega), eE, iV_o (by omega), iV_o (by omega), iV_s (by omega) (by omega)]
    · rw [eF, iV_o (by omega), iV_o (by omega), eE, iV_o (by omega), iV_s (by omega) (by omega)]
    · rw [eF, iV_o (by omega), iV_o (by omega), eE, iV_s (by omega) (by omega)]
    · rw [eF, iV_o (by omega), iV_s (by omega) (by omega)]
    · rw [eF, iV_s (by omega) (by omega)]
  have Fo : ∀ q : Nat, q = 0 ∨ 7 ≤ q → iV F 135 q = iV M 135 q := fun q hq => by
    rw [eF, iV_o (by omega), iV_o (by omega), eE, iV_o (by omega), iV_o (by omega), iV_o (by omega), iV_o (by omega), eD, iV_o (by omega)]
  -- the first token
  have first : ∃ G, f_Reader_goOn O f 134 F = some ((), G) ∧ ((r 1 = 0 ∧ RT (txR r) G (tq 40) (txE r) 0 0) ∨ (r 1 ≠ 0 ∧ RT (txR r) G (tq 58) ([32] ++ SU r) 0 0)) ∧ Un (fun a => a ≠ 134) F G := by
    unfold KT at eK
    by_cases k0 : r 1 = 0
    · rw [if_pos k0] at eK
      have d2 : RD F ([] ++ ([] ++ (tq 40 ++ txE r))) := by
        rw [eK] at dF2
        exact dF2
      obtain ⟨G, eG, rG, uG⟩ := go_ok (O := O) (f := f) (P := []) (S := []) (tk := 0) (n := 0) wF d2 F4 (Or.inl rfl) txE_B hf (Or.inl ⟨wd_few 40 (by decide), rfl, rfl⟩)
      refine ⟨G, eG, Or.inl ⟨k0, ?_⟩, uG⟩
      rw [eK]
      exact rG
    · rw [if_neg k0] at eK
      have d2 : RD F ([] ++ ([] ++ (tq 58 ++ ([32] ++ SU r)))) := by
        rw [eK] at dF2
        exact dF2
      obtain ⟨G, eG, rG, uG⟩ := go_ok (O := O) (f := f) (P := []) (S := []) (tk := 0) (n := 0) wF d2 F4 (Or.inl rfl) (Or.inr rfl) hf (Or.inl ⟨wd_few 58 (by decide), rfl, rfl⟩)
      refine ⟨G, eG, Or.inr ⟨k0, ?_⟩, uG⟩
      rw [eK]
      exact rG
  obtain ⟨G, eG, hG, uG⟩ := first
  have wG : Wd G := uG.wd wF
  have Go : ∀ q : Nat, iV G 135 q = iV F 135 q := fun q => uG.i (by (try dsimp only); omega)
  obtain ⟨H, eH, kH, h14, hO2, uH⟩ := kind_ok (f := f) hO hG hv p (fun q q1 q4 => by rw [Go, Fz q q1 (by omega)]) hf
  obtain ⟨N, n, eN, rN, n5, n6, nO, uN⟩ := end_ok (O := O) (f := f) (least := least) hO kH hv l0 l1 l2 (by rw [hO2 5 (by omega), Go, Fz 5 (by omega) (by omega)]) (by rw [hO2 6 (by omega), Go, Fz 6 (by omega) (by omega)]) hf
  refine ⟨N, ?_, fun q q1 q6 => ?_, fun q hq => by rw [nO q (by omega) (by omega), hO2 q (by omega), Go, Fo q hq], rN.2.1, rN.1, ((uF.tr (uG.le (fun a q => by (try dsimp only at q ⊢); omega))).tr uH).tr uN⟩
  · unfold f_Reader_parse
    rw [p_Reader_end w, ← eD, a_Reader_rule wD, a_RRule_is wD, pE, xcl_e, a_Reader_rule wE, a_RRule_is wE, pF, xcl_e, a_Reader_is wF, eG, xcl_e, a_Reader_is wG, eH, xcl_e, eq_F (by omega) (by omega) (by omega) (by omega) (by omega), a_Reader_is kH.wd, eN, xcl_e, eq_F (by omega) (by omega) (by omega) (by omega) (by omega), a_Reader_token rN.1, rN.t, eq_T rfl]
  · by_cases c5 : q = 5
    · rw [c5]
      exact n5
    by_cases c6 : q = 6
    · rw [c6]
      exact n6
    · rw [nO q c5 c6]
      exact h14 q q1 (by omega)
theorem errorPlace_ok (hO : STo O) (w : Wd M) (rd : RD M (txR r)) (hv : LVr r) (p : -1 ≤ r 4) (hf : 200 ≤ f) : ∃ N, f_Calendarhall_errorPlace O f 1 M = some (-1, N) ∧ RD N (txR r) ∧ Wd N ∧ Un (fun a => a ≠ 134 ∧ a ≠ 135) M N := by
  have hv' := hv
  obtain ⟨f0, -, -, -, -, -, -, -, -, -, -, en⟩ := hv'
  obtain ⟨N, eN, -, -, dN, wN, uN⟩ := parse_ok (O := O) (f := f) (least := 10) hO w rd hv p (by omega) (by omega) (fun z => by omega) hf
  refine ⟨N, ?_, dN, wN, uN⟩
  unfold f_Calendarhall_errorPlace
  rw [a_Cal_reader w, a_Reader_is w, eN, xcl_e]
/-- the rule that was read is the series' -/
theorem readRule_ok {kk : Int} (hO : STo O) (h : Bs M) (hkk : kk = (k : Int)) (hk : k < 12) (ht : iV M (29 + 6 * k) 0 = 1) (f0 : iV M (30 + 6 * k) 0 = r 0) (rd : RD M (txR r)) (hv : LVr r) (p : -1 ≤ r 4) (hf : 10000 ≤ f) : ∃ M', f_Calendarhall_readRule O f 1 kk M = some (r 1, M') ∧ Bs M' ∧ Un (fun a => a ≠ 134 ∧ a ≠ 135 ∧ Us k a) M M' ∧ (∀ j, j ≠ 7 → iV M' (29 + 6 * k) j = iV M (29 + 6 * k) j) ∧ iV M' (29 + 6 * k) 7 = 0 ∧ (∀ j : Nat, j ≤ 6 → iV M' (30 + 6 * k) j = r j) ∧ RVg (iV M' (30 + 6 * k)) ∧ SO (iV M' (30 + 6 * k)) := by
  subst hkk
  have hw := h.1
  have hsd := hv.sd
  have hen := hv.en
  have hv2 := hv
  obtain ⟨⟨r0, r1⟩, ⟨k0, k5⟩, st, st0, ⟨s0, s1⟩, -, -, ⟨p0, p1⟩, -, -, -, en⟩ := hv2
  have rb : -2147483648 ≤ r 2 ∧ r 2 ≤ 2147483647 := by
    by_cases z : r 1 = 0
    · have := st0 z
      omega
    · have := st z
      omega
  obtain ⟨P, eP, p16, -, dP, wP, uP⟩ := parse_ok (O := O) (f := f) (least := r 0) hO hw rd hv p (by omega) (by omega) (fun z => by omega) (by omega)
  have bP : Bs P := h.un uP (by (try dsimp only); omega) (fun k hk => by (try dsimp only); omega)
  have pv : ∀ a j, a ≠ 134 → a ≠ 135 → iV P a j = iV M a j := fun a j h1 h2 => uP.i ⟨h1, h2⟩
  obtain ⟨N, eN, uN, bN⟩ := bs_save (O := O) (f := f) bP (by omega)
  have wN := bN.1
  have nv : ∀ a j, 1 < a → a < 140 → iV N a j = iV P a j := fun a j h1 h2 => uN.i (by (try dsimp only); omega)
  obtain ⟨S4, e4⟩ : ∃ S4, S4 = iS N (29 + 6 * k) 7 0 := ⟨_, rfl⟩
  have w4 : Wd S4 := by rw [e4]; exact wN
  have u4 : Un (fun a => a < 29 + 6 * k ∨ 35 + 6 * k ≤ a) N S4 := by rw [e4]; exact Un.rf.iS (by (try dsimp only); omega)
  have r4 : ∀ q : Nat, 1 ≤ q → q ≤ 6 → iV S4 135 q = r q := fun q q1 q6 => by rw [e4, iV_o (by omega), nv 135 q (by omega) (by omega), p16 q q1 q6]
  obtain ⟨S5, put, w5, u5, v1, v2, v3, v4, vo⟩ := rule_put (O := O) (f := f) (a := r 1) (b := r 2) (c := r 3) (e := r 4) w4 hk
  have v1 := v1 (by omega) (by omega)
  have v2 := v2 rb.1 rb.2
  have v3 := v3 (by omega) (by omega)
  have v4 := v4 (by omega) (by omega)
  have r5 : ∀ q : Nat, 1 ≤ q → q ≤ 6 → iV S5 135 q = r q := fun q q1 q6 => by rw [u5.i (by (try dsimp only); omega), r4 q q1 q6]
  obtain ⟨S6, pute, w6, u6, y5, y6, yo⟩ := rule_end (O := O) (f := f) (q := r 5) (w := r 6) w5 hk (by omega) (by omega) (by omega) (by omega)
  have y0 : iV S6 (30 + 6 * k) 0 = r 0 := by rw [yo 0 (by decide) (by decide), vo 0 (by omega), e4, iV_o (by omega), nv _ _ (by omega) (by omega), pv _ _ (by omega) (by omega), f0]
  have y1 : iV S6 (30 + 6 * k) 1 = r 1 := by rw [yo 1 (by decide) (by decide), v1]
  have y2 : iV S6 (30 + 6 * k) 2 = r 2 := by rw [yo 2 (by decide) (by decide), v2]
  have y3 : iV S6 (30 + 6 * k) 3 = r 3 := by rw [yo 3 (by decide) (by decide), v3]
  have y4 : iV S6 (30 + 6 * k) 4 = r 4 := by rw [yo 4 (by decide) (by decide), v4]
  have s6 : ∀ j, j ≠ 7 → iV S6 (29 + 6 * k) j = iV N (29 + 6 * k) j := fun j hj => by rw [u6.i (by (try dsimp only); omega), u5.i (by (try dsimp only); omega), e4, iV_o (by omega)]
  have u46 : Un (fun a => a < 29 + 6 * k ∨ 35 + 6 * k ≤ a) N S6 := (u4.tr (u5.le (fun a q => by (try dsimp only at q ⊢); omega))).tr (u6.le (fun a q => by (try dsimp only at q ⊢); omega))
  unfold enA at hen
  obtain ⟨M', es, bM, uM, us, vs, rv, so⟩ := tail_ok (O := O) (f := f) bN hk u46 (s6 0 (by decide)) (s6 5 (by decide)) (by rw [y0]; exact r0) (by rw [y0]; omega) (by rw [y1, y2, y3, y4]; exact hsd) (by rw [y5, y6]; omega) hf
  refine ⟨M', ?_, bM, ((uP.le (fun a q => ⟨q.1, q.2.1⟩)).tr (uN.le (fun a q => by have q2 := q.2.2; unfold Us at q2; (try dsimp only); omega))).tr (uM.le (fun a q => by have q2 := q.2.2; unfold Us at q2; (try dsimp only); omega)), fun j hj => ?_, ?_, fun j hj => ?_, rv, so⟩
  · have m1 : iV M' 135 1 = r 1 := by rw [us.i (by (try dsimp only); omega), u6.i (by (try dsimp only); omega), r5 1 (by omega) (by omega)]
    have t0 : iV P (29 + 6 * k) 0 = 1 := by rw [pv _ _ (by omega) (by omega)]; exact ht
    unfold f_Calendarhall_readRule
    rw [a_Cal_is hw, xc_of (s_num hw hk ht), a_Cal_reader hw, a_Series_rule hw hk, a_Rule_first hw hk, f0, a_Reader_is hw, eP, xcl_e, eq_T rfl, a_Cal_reader wP, a_Reader_rule wP, a_Cal_is wP, eN, xcl_e, p_Series_exceptions wN hk, ← e4, a_Series_rule w4 hk, a_RRule_kind w4, r4 1 (by omega) (by omega), a_RRule_step w4, r4 2 (by omega) (by omega), a_RRule_days w4, r4 3 (by omega) (by omega), a_RRule_place w4, r4 4 (by omega) (by omega), a_Rule_is w4 hk, put, xcl_e, a_Series_rule w5 hk, a_RRule_how w5, r5 5 (by omega) (by omega), a_RRule_number w5, r5 6 (by omega) (by omega), a_Rule_is w5 hk, pute, xcl_e, a_Series_rule w6 hk, a_Rule_is w6 hk, es, xcl_e, a_RRule_kind bM.1, m1]
  · rw [us.i (by (try dsimp only); omega), s6 j hj, nv _ _ (by omega) (by omega), pv _ _ (by omega) (by omega)]
  · rw [us.i (by (try dsimp only); omega), u6.i (by (try dsimp only); omega), u5.i (by (try dsimp only); omega), e4, iV_s (by omega) (by omega)]
  · rw [vs j (by omega)]
    have c : j = 0 ∨ j = 1 ∨ j = 2 ∨ j = 3 ∨ j = 4 ∨ j = 5 ∨ j = 6 := by omega
    rcases c with rfl | rfl | rfl | rfl | rfl | rfl | rfl
    · exact y0
    · exact y1
    · exact y2
    · exact y3
    · exact y4
    · exact y5
    · exact y6
end RDA
end
