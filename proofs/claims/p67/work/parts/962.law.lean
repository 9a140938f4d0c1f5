/-! ===== the law's text answers 1 ===== -/
/-- the script among the old objects -/
def SCo (O : Nat → Option va_E) (L : Nat) : Prop := L ≤ 260 ∧ ∃ xs : Nat → Int32, O 0 = some (.inl (0, L, .inl xs))
section LAW
variable {O : Nat → Option va_E} {f L : Nat} {M N : xM} {H : zH} {i : Int} {γ : Type}
theorem o_aI {n k : Nat} {g : Nat → Int32} (e : O k = some (.inl (0, n, .inl g))) (h0 : 0 ≤ i) (h1 : i < n) (h2 : i ≤ 2147483647) : aJ O M (1000000000 + k) i = some (g i.toNat).toInt := by
  unfold aJ aI
  rw [hp_old_at, e]
  dsimp only
  rw [if_pos rfl, yw_nat ⟨by omega, h2⟩, if_neg (ix_in2 h0 h1 ⟨by omega, h2⟩)]
  rfl
theorem o_aNN {n k : Nat} {g : Nat → Int32} (e : O k = some (.inl (0, n, .inl g))) (hn : n ≤ 2147483647) : aJN O M (1000000000 + k) = some (n : Int) := by
  unfold aJN aN
  rw [hp_old_at, e]
  dsimp only
  rw [if_pos (by decide)]
  show some (Int32.ofNat n).toInt = _
  rw [show (Int32.ofNat n).toInt = (n : Int) from Int32.toInt_ofNat_of_lt (by omega)]
/-- only longs differ -/
def Lo (M N : xM) : Prop := N.1 = M.1 ∧ N.2.1 = M.2.1 ∧ mS N = mS M ∧ mI N = mI M ∧ mR N = mR M
theorem Lo.tr {K : xM} (h : Lo M N) (g : Lo N K) : Lo M K := ⟨g.1.trans h.1, g.2.1.trans h.2.1, g.2.2.1.trans h.2.2.1, g.2.2.2.1.trans h.2.2.2.1, g.2.2.2.2.trans h.2.2.2.2⟩
theorem Lo.zb (h : Lo M N) (g : zB H M) : zB H N := by
  obtain ⟨a1, a2, a3, a4, a5⟩ := h
  obtain ⟨⟨g1, g0⟩, g2, g3⟩ := g
  refine ⟨⟨a1.trans g1, g0⟩, a2.trans g2, fun k hk => ?_⟩
  obtain ⟨q1, q2, q3⟩ := g3 k hk
  refine ⟨by rw [a3]; exact q1, fun j r hj => by rw [a5]; exact q2 j r hj, fun j => ?_⟩
  unfold iV
  rw [a4]
  exact q3 j
theorem dr_19 (hs : SCo O L) : ∀ (r t v : Nat) (M : xM), 1 ≤ M.1 → M.1 ≤ 1000000 → mS M 0 = .inl 15 → v + r = L → r < t → ∃ N, f_LDraw_ctor_19 O f t 0 1000000000 (L : Int) (v : Int) M = some ((), N) ∧ Lo M N := by
  obtain ⟨l260, xs, eO⟩ := hs
  intro r
  induction r with
  | zero =>
    intro t v M h1 h2 hs hv ht
    obtain ⟨t, rfl⟩ : ∃ n', t = n' + 1 := ⟨t - 1, by omega⟩
    refine ⟨M, ?_, rfl, rfl, rfl, rfl, rfl⟩
    show (if yw (L : Int) ≤ yw (v : Int) then _ else _) = _
    rw [le_T (by omega) (by omega) (by omega)]
  | succ r ih =>
    intro t v M h1 h2 hs hv ht
    obtain ⟨t, rfl⟩ : ∃ n', t = n' + 1 := ⟨t - 1, by omega⟩
    have b : inM M 0 := ⟨by omega, by omega⟩
    obtain ⟨x, ex⟩ : ∃ x, x = (xs ((v : Int)).toNat).toInt := ⟨_, rfl⟩
    obtain ⟨K, eK⟩ : ∃ K, K = lS M 0 0 (((lV M 0 0 + (ki2l x)) * 6364136223846793005) + 1442695040888963407) := ⟨_, rfl⟩
    have lo : Lo M K := by rw [eK]; exact ⟨rfl, rfl, rfl, rfl, rfl⟩
    obtain ⟨N, eN, lN⟩ := ih t (v + 1) K (by rw [lo.1]; exact h1) (by rw [lo.1]; exact h2) (by rw [lo.2.2.1]; exact hs) (by omega) (by omega)
    refine ⟨N, ?_, lo.tr lN⟩
    have aj : aJ O M 1000000000 (v : Int) = some x := by
      rw [ex]
      exact o_aI (k := 0) eO (by omega) (by omega) (by omega)
    rw [show ((v + 1 : Nat) : Int) = (v : Int) + 1 by omega] at eN
    show (if yw (L : Int) ≤ yw (v : Int) then _ else _) = _
    rw [le_F (by omega) (by omega) (by omega), aj, bind_e, z_gK b hs (by decide) (by decide), z_pK b hs (by decide) (by decide), ← eK]
    exact eN
theorem St0.dr (h : St0 M) (w : Wd N) (e : ∀ a j, iV N a j = iV M a j) (c : N.1 = M.1) (d : N.2.1 = M.2.1) : St0 N := by
  obtain ⟨-, h1, h2, h3, h4, h5, h6, h7, h8, h9, h10, h11⟩ := h
  refine ⟨w, by omega, by omega, ?_, fun k hk => ?_, fun k hk => ?_, fun k hk => ?_, fun k hk => ?_, fun k hk => ?_, ?_, fun k hk => ?_, ?_⟩
  · rw [e, e]
    exact h3
  · rw [e, e]
    exact h4 k hk
  · obtain ⟨a1, a2, a3⟩ := h5 k hk
    refine ⟨by rw [e]; exact a1, by rw [e]; exact a2, fun p hp => ?_⟩
    rw [e, e, e]
    exact a3 p hp
  · have q := h6 k hk
    simp only [e]
    exact q
  · have q := h7 k hk
    simp only [e]
    exact q
  · rw [e]
    exact h8 k hk
  · simp only [e]
    exact h9
  · rw [e]
    exact h10 k hk
  · rw [e]
    exact h11
/-- a heap with no cell yet -/
def e0 : xM := (0, 0, fun _ => .inl 99, fun _ _ => 0, fun _ _ => 0, fun _ _ => none)
theorem law_ok (hs : SCo O L) (hO : STo O) (hd : DGo O) (mv : MV O) (hf : 10000 ≤ f) : ∃ M', f_Law_law O f 1000000000 e0 = some (1, M') ∧ M'.1 ≤ 2000 ∧ M'.2.1 ≤ 200000 := by
  -- the drawing
  obtain ⟨A, eA⟩ : ∃ A, A = mnew e0 (.inl 15) 1 := ⟨_, rfl⟩
  have nA : nO e0 15 = some (0, A) := by
    unfold nO
    rw [if_pos (by decide), eA]
    rfl
  have zA0 : zB ([(.inl 15, [], [])], 1, 1) A := by
    have z : zB (([] : List zC), 0, 0) e0 := ⟨⟨rfl, rfl⟩, rfl, fun i hi => absurd hi (Nat.not_lt_zero _)⟩
    rw [eA]
    exact z.nw
  have A1 : A.1 = 1 := zA0.1.1
  have As : mS A 0 = .inl 15 := (zA0.2.2 0 (by decide)).1
  have bA : inM A 0 := ⟨by omega, by omega⟩
  obtain ⟨l260, xs, eO⟩ := id hs
  obtain ⟨B, eB⟩ : ∃ B, B = lS A 0 0 13 := ⟨_, rfl⟩
  have loB : Lo A B := by rw [eB]; exact ⟨rfl, rfl, rfl, rfl, rfl⟩
  obtain ⟨C, eC, loC⟩ := dr_19 (O := O) (f := f) hs L f 0 B (by rw [loB.1]; omega) (by rw [loB.1]; omega) (by rw [loB.2.2.1]; exact As) (by omega) (by omega)
  have dC : f_LDraw_ctor O f 0 1000000000 A = some ((), C) := by
    unfold f_LDraw_ctor
    have an : aJN O B 1000000000 = some (L : Int) := o_aNN (k := 0) eO (by omega)
    rw [z_pK bA As (by decide) (by decide), ← eB, an, bind_e]
    exact eC
  have zC0 := (loB.tr loC).zb zA0
  have C1 : C.1 = 1 := zC0.1.1
  -- the hall
  obtain ⟨D, eD⟩ : ∃ D, D = mnew C (.inl 12) (xNf 12) := ⟨_, rfl⟩
  have nD : nO C 12 = some (1, D) := by
    unfold nO
    rw [if_pos (by omega), eD, C1]
  have zD0 : zB z0 D := by
    rw [eD]
    exact zC0.nw
  have some_S : ∃ H, zS = some H := by
    have c := zS_2
    cases h : zS with
    | none => rw [h] at c; cases c
    | some H => exact ⟨H, rfl⟩
  obtain ⟨H, eH⟩ := some_S
  obtain ⟨E, eE, zE⟩ := s_Calendarhall_ctor (O := O) (f := f) (by omega) zD0 eH
  obtain ⟨st, bd⟩ := zst_ok zE eH
  obtain ⟨x, F, eF, x0, x1, wF, uF, iF⟩ := dn_ok (O := O) (f := f) (m := 10) st.1 (by omega) (by omega)
  have stF := st.dr wF iF uF.1.1 uF.1.2.1
  have bdF := bd.un uF (by decide) (by decide)
  have fit : xfit .boolean (.int (yw 1)) = true := by decide
  have days := areDays_ok (O := O) (f := f) hO hd stF bdF hf
  have zones := areZones_ok (O := O) (f := f) stF hf
  unfold f_Law_law
  rw [nA, xcl_e, dC, xcl_e, nD, xcl_e, eE, xcl_e, st.1.is (k := 0) (ci := 15) (by decide) (by decide), eF, xcl_e]
  have c : x = 0 ∨ x = 1 ∨ x = 2 ∨ x = 3 ∨ x = 4 ∨ x = 5 ∨ x = 6 ∨ x = 7 ∨ x = 8 ∨ x = 9 := by omega
  rcases c with rfl | rfl | rfl | rfl | rfl | rfl | rfl | rfl | rfl | rfl
  · obtain ⟨M', e, b1, b2⟩ := days
    refine ⟨M', ?_, b1, b2⟩
    rw [eq_T rfl, e, xcl_e, if_pos fit]
  · obtain ⟨M', e, b1, b2⟩ := days
    refine ⟨M', ?_, b1, b2⟩
    rw [eq_F (by omega) (by omega) (by omega) (by omega) (by omega), eq_T rfl, e, xcl_e, if_pos fit]
  · obtain ⟨M', e, b1, b2⟩ := days
    refine ⟨M', ?_, b1, b2⟩
    rw [eq_F (by omega) (by omega) (by omega) (by omega) (by omega), eq_F (by omega) (by omega) (by omega) (by omega) (by omega), eq_T rfl, e, xcl_e, if_pos fit]
  · obtain ⟨M', e, b1, b2⟩ := zones
    refine ⟨M', ?_, b1, b2⟩
    rw [eq_F (by omega) (by omega) (by omega) (by omega) (by omega), eq_F (by omega) (by omega) (by omega) (by omega) (by omega), eq_F (by omega) (by omega) (by omega) (by omega) (by omega), eq_T rfl, e, xcl_e, if_pos fit]
  · obtain ⟨M', e, b1, b2⟩ := zones
    refine ⟨M', ?_, b1, b2⟩
    rw [eq_F (by omega) (by omega) (by omega) (by omega) (by omega), eq_F (by omega) (by omega) (by omega) (by omega) (by omega), eq_F (by omega) (by omega) (by omega) (by omega) (by omega), eq_F (by omega) (by omega) (by omega) (by omega) (by omega), eq_T rfl, e, xcl_e, if_pos fit]
  · obtain ⟨M', e, b1, b2⟩ := (areFree_ok (O := O) (f := f) stF hf)
    refine ⟨M', ?_, b1, b2⟩
    rw [eq_F (by omega) (by omega) (by omega) (by omega) (by omega), eq_F (by omega) (by omega) (by omega) (by omega) (by omega), eq_F (by omega) (by omega) (by omega) (by omega) (by omega), eq_F (by omega) (by omega) (by omega) (by omega) (by omega), eq_F (by omega) (by omega) (by omega) (by omega) (by omega), eq_T rfl, e, xcl_e, if_pos fit]
  · obtain ⟨M', e, b1, b2⟩ := (areLaid_ok (O := O) (f := f) stF hf)
    refine ⟨M', ?_, b1, b2⟩
    rw [eq_F (by omega) (by omega) (by omega) (by omega) (by omega), eq_F (by omega) (by omega) (by omega) (by omega) (by omega), eq_F (by omega) (by omega) (by omega) (by omega) (by omega), eq_F (by omega) (by omega) (by omega) (by omega) (by omega), eq_F (by omega) (by omega) (by omega) (by omega) (by omega), eq_F (by omega) (by omega) (by omega) (by omega) (by omega), eq_T rfl, e, xcl_e, if_pos fit]
  · obtain ⟨M', e, b1, b2⟩ := (isPlanned_ok (O := O) (f := f) stF mv hf)
    refine ⟨M', ?_, b1, b2⟩
    rw [eq_F (by omega) (by omega) (by omega) (by omega) (by omega), eq_F (by omega) (by omega) (by omega) (by omega) (by omega), eq_F (by omega) (by omega) (by omega) (by omega) (by omega), eq_F (by omega) (by omega) (by omega) (by omega) (by omega), eq_F (by omega) (by omega) (by omega) (by omega) (by omega), eq_F (by omega) (by omega) (by omega) (by omega) (by omega), eq_F (by omega) (by omega) (by omega) (by omega) (by omega), eq_T rfl, e, xcl_e, if_pos fit]
  · obtain ⟨M', e, b1, b2⟩ := (areRung_ok (O := O) (f := f) stF hf)
    refine ⟨M', ?_, b1, b2⟩
    rw [eq_F (by omega) (by omega) (by omega) (by omega) (by omega), eq_F (by omega) (by omega) (by omega) (by omega) (by omega), eq_F (by omega) (by omega) (by omega) (by omega) (by omega), eq_F (by omega) (by omega) (by omega) (by omega) (by omega), eq_F (by omega) (by omega) (by omega) (by omega) (by omega), eq_F (by omega) (by omega) (by omega) (by omega) (by omega), eq_F (by omega) (by omega) (by omega) (by omega) (by omega), eq_F (by omega) (by omega) (by omega) (by omega) (by omega), eq_T rfl, e, xcl_e, if_pos fit]
  · obtain ⟨M', e, b1, b2⟩ := (areAlike_ok (O := O) (f := f) stF (by omega))
    refine ⟨M', ?_, b1, by omega⟩
    rw [eq_F (by omega) (by omega) (by omega) (by omega) (by omega), eq_F (by omega) (by omega) (by omega) (by omega) (by omega), eq_F (by omega) (by omega) (by omega) (by omega) (by omega), eq_F (by omega) (by omega) (by omega) (by omega) (by omega), eq_F (by omega) (by omega) (by omega) (by omega) (by omega), eq_F (by omega) (by omega) (by omega) (by omega) (by omega), eq_F (by omega) (by omega) (by omega) (by omega) (by omega), eq_F (by omega) (by omega) (by omega) (by omega) (by omega), eq_F (by omega) (by omega) (by omega) (by omega) (by omega), e, xcl_e, if_pos fit]
end LAW
