/-! draft 720.parse -/
section
/-! ===== a text is read ===== -/
/-- the unit's words -/
def UT (r : Nat → Int) : List Int := if r 1 = 1 then tq 42 ++ txE r else if r 1 = 2 then tq 60 ++ ([32] ++ (tq 62 ++ (nmF (dsL (r 3).toNat) ++ txE r))) else if r 1 = 5 then tq 46 ++ txE r else tq 66 ++ ([32] ++ (tq 62 ++ ([32] ++ WT r)))
def UK (T : List Int) (M : xM) (r : Nat → Int) : Prop := (r 1 = 1 ∧ RT T M (tq 42) (txE r) 0 0) ∨ (r 1 = 2 ∧ RT T M (tq 60) ([32] ++ (tq 62 ++ (nmF (dsL (r 3).toNat) ++ txE r))) 0 0) ∨ (r 1 = 5 ∧ RT T M (tq 46) (txE r) 0 0) ∨ ((r 1 = 3 ∨ r 1 = 4) ∧ RT T M (tq 66) ([32] ++ (tq 62 ++ ([32] ++ WT r))) 0 0)
/-- what follows 'every' -/
def SU (r : Nat → Int) : List Int := if r 2 ≤ 1 then UT r else dgs (r 2).toNat ++ ([32] ++ UT r)
/-- the whole text, as it is read -/
def KT (r : Nat → Int) : List Int := if r 1 = 0 then tq 40 ++ txE r else tq 58 ++ ([32] ++ SU r)
section PAR
variable {O : Nat → Option va_E} {f u : Nat} {M N : xM} {T W W2 B B2 K : List Int} {x tk n tk2 n2 : Int} {r : Nat → Int} {γ : Type}
theorem UK.wd (h : UK T M r) : Wd M := by
  rcases h with ⟨-, h⟩ | ⟨-, h⟩ | ⟨-, h⟩ | ⟨-, h⟩
  · exact h.1
  · exact h.1
  · exact h.1
  · exact h.1
theorem UK.i {j : Nat} (h : UK T M r) : UK T (iS M 135 j x) r := by
  rcases h with ⟨a, h⟩ | ⟨a, h⟩ | ⟨a, h⟩ | ⟨a, h⟩
  · exact Or.inl ⟨a, h.i⟩
  · exact Or.inr (Or.inl ⟨a, h.i⟩)
  · exact Or.inr (Or.inr (Or.inl ⟨a, h.i⟩))
  · exact Or.inr (Or.inr (Or.inr ⟨a, h.i⟩))
theorem RT.t (h : RT T M W B tk n) : iV M 134 5 = tk := by
  obtain ⟨-, -, A, -, -, -, z, -⟩ := h
  exact z
theorem RT.nu (h : RT T M W B tk n) : iV M 134 6 = n := by
  obtain ⟨-, -, A, -, -, -, -, z⟩ := h
  exact z
theorem UK.t (h : UK T M r) : iV M 134 5 = 0 := by
  rcases h with ⟨-, h⟩ | ⟨-, h⟩ | ⟨-, h⟩ | ⟨-, h⟩
  · exact h.t
  · exact h.t
  · exact h.t
  · exact h.t
theorem wd_few : ∀ k : Nat, k ∈ [40, 42, 46, 50, 58, 60, 62, 66, 68, 70] → isW (tq k) := by
  unfold isW
  decide +kernel
theorem nx_U (h : RT T M W ([32] ++ UT r) tk n) (hv : LVr r) (k0 : r 1 ≠ 0) (hf : 200 ≤ f) : ∃ N, f_Reader_goOn O f 134 M = some ((), N) ∧ UK T N r ∧ Un (fun a => a ≠ 134) M N := by
  obtain ⟨-, ⟨a0, a1⟩, -⟩ := hv
  unfold UT at h
  by_cases k1 : r 1 = 1
  · rw [if_pos k1] at h
    obtain ⟨N, eN, rN, uN⟩ := nx_sp (O := O) (f := f) (tk2 := 0) (n2 := 0) h ⟨txE_B, Or.inl ⟨wd_few 42 (by decide), rfl, rfl⟩⟩ hf
    exact ⟨N, eN, Or.inl ⟨k1, rN⟩, uN⟩
  rw [if_neg k1] at h
  by_cases k2 : r 1 = 2
  · rw [if_pos k2] at h
    obtain ⟨N, eN, rN, uN⟩ := nx_sp (O := O) (f := f) (tk2 := 0) (n2 := 0) h ⟨Or.inr rfl, Or.inl ⟨wd_few 60 (by decide), rfl, rfl⟩⟩ hf
    exact ⟨N, eN, Or.inr (Or.inl ⟨k2, rN⟩), uN⟩
  rw [if_neg k2] at h
  by_cases k5 : r 1 = 5
  · rw [if_pos k5] at h
    obtain ⟨N, eN, rN, uN⟩ := nx_sp (O := O) (f := f) (tk2 := 0) (n2 := 0) h ⟨txE_B, Or.inl ⟨wd_few 46 (by decide), rfl, rfl⟩⟩ hf
    exact ⟨N, eN, Or.inr (Or.inr (Or.inl ⟨k5, rN⟩)), uN⟩
  · rw [if_neg k5] at h
    obtain ⟨N, eN, rN, uN⟩ := nx_sp (O := O) (f := f) (tk2 := 0) (n2 := 0) h ⟨Or.inr rfl, Or.inl ⟨wd_few 66 (by decide), rfl, rfl⟩⟩ hf
    exact ⟨N, eN, Or.inr (Or.inr (Or.inr ⟨by omega, rN⟩)), uN⟩
/-- the unit and its days -/
theorem unit_ok (hO : STo O) (h : UK T M r) (hv : LVr r) (p : -1 ≤ r 4) (k0 : iV M 135 1 = 0) (d0 : iV M 135 3 = 0) (p0 : iV M 135 4 = 0) (hf : 200 ≤ f) : ∃ N, f_Reader_parseUnit O f 134 M = some (1, N) ∧ EK T N r ∧ iV N 135 1 = r 1 ∧ iV N 135 3 = r 3 ∧ iV N 135 4 = r 4 ∧ (∀ q : Nat, q ≠ 1 → q ≠ 3 → q ≠ 4 → iV N 135 q = iV M 135 q) ∧ Un (fun a => a ≠ 134 ∧ a ≠ 135) M N := by
  have hv' := hv
  obtain ⟨-, -, -, -, ⟨s0, s1⟩, s2, s3, ⟨q0, q1⟩, q3, q4, q5, -⟩ := hv'
  have s42 : ∀ M, SG O M 1000000042 (tq 42) := hO 42 (by decide)
  have s46 : ∀ M, SG O M 1000000046 (tq 46) := hO 46 (by decide)
  have s60 : ∀ M, SG O M 1000000060 (tq 60) := hO 60 (by decide)
  have s62 : ∀ M, SG O M 1000000062 (tq 62) := hO 62 (by decide)
  have s66 : ∀ M, SG O M 1000000066 (tq 66) := hO 66 (by decide)
  have w := h.wd
  -- the kind is put, where nothing else is to be read
  have fin : ∀ (G : xM) (y : Int), EK T G r → Un (fun a => a ≠ 134) M G → y = r 1 → 0 ≤ y → y ≤ 5 → r 3 = 0 → r 4 = 0 → EK T (iS G 135 1 y) r ∧ iV (iS G 135 1 y) 135 1 = r 1 ∧ iV (iS G 135 1 y) 135 3 = r 3 ∧ iV (iS G 135 1 y) 135 4 = r 4 ∧ (∀ q : Nat, q ≠ 1 → q ≠ 3 → q ≠ 4 → iV (iS G 135 1 y) 135 q = iV M 135 q) ∧ Un (fun a => a ≠ 134 ∧ a ≠ 135) M (iS G 135 1 y) := by
    intro G y kG uG ey y0 y5 z3 z4
    have Go : ∀ q : Nat, iV G 135 q = iV M 135 q := fun q => uG.i (by (try dsimp only); omega)
    exact ⟨kG.i, by rw [iV_s (by omega) (by omega), ey], by rw [iV_o (by omega), Go, d0, z3], by rw [iV_o (by omega), Go, p0, z4], fun q a1 _ _ => by rw [iV_o (by omega), Go], (uG.le (fun a q => by (try dsimp only at q ⊢); omega)).iS (by (try dsimp only); omega)⟩
  unfold f_Reader_parseUnit
  rw [a_Reader_is w]
  rcases h with ⟨k1, h⟩ | ⟨k2, h⟩ | ⟨k5, h⟩ | ⟨k34, h⟩
  · obtain ⟨G, eG, kG, uG⟩ := nx_E (O := O) (f := f) h hf
    have wG := kG.wd
    refine ⟨iS G 135 1 1, ?_, fin G 1 kG uG k1.symm (by omega) (by omega) (s3 (by omega) (by omega)) (q5 (by omega) (by omega))⟩
    rw [tk_yes h (s42 M) eG hf, xcl_e, eq_F (by omega) (by omega) (by omega) (by omega) (by omega), a_Reader_rule wG, p_RRule_kind wG]
  · -- weeks on ..
    obtain ⟨j, js, es⟩ := ds_of (s := r 3) (by have := s2 (Or.inl k2); omega) s1
    obtain ⟨G, eG, rG, uG⟩ := nx_sp (O := O) (f := f) (tk2 := 0) (n2 := 0) h ⟨nmF_B, Or.inl ⟨wd_few 62 (by decide), rfl, rfl⟩⟩ hf
    have wG := rG.1
    have Go : ∀ q : Nat, iV G 135 q = iV M 135 q := fun q => uG.i (by (try dsimp only); omega)
    obtain ⟨E, eE⟩ : ∃ E, E = iS G 135 1 2 := ⟨_, rfl⟩
    have rE : RT T E (tq 62) (nmF (dsL (r 3).toNat) ++ txE r) 0 0 := by rw [eE]; exact rG.i
    have wE := rE.1
    have E1 : iV E 135 1 = 2 := by rw [eE, iV_s (by omega) (by omega)]
    have Eo : ∀ q : Nat, q ≠ 1 → iV E 135 q = iV M 135 q := fun q hq => by rw [eE, iV_o (by omega), Go]
    have uE : Un (fun a => a ≠ 134 ∧ a ≠ 135) M E := by
      rw [eE]
      exact (uG.le (fun a q => by (try dsimp only at q ⊢); omega)).iS (by (try dsimp only); omega)
    obtain ⟨H, eH, rH, uH⟩ := nx_D (O := O) (f := f) rE (by omega) es hf
    have wH := rH.1
    have Ho : ∀ q : Nat, iV H 135 q = iV E 135 q := fun q => uH.i (by (try dsimp only); omega)
    obtain ⟨N, eN, kN, n3, nO, uN⟩ := pd_ok (f := f) hO rH (by omega) es (by rw [Ho, Eo 3 (by decide)]; exact d0) hf
    refine ⟨N, ?_, kN, by rw [nO 1 (by decide), Ho, E1, k2], by rw [n3]; omega, by rw [nO 4 (by decide), Ho, Eo 4 (by decide), p0, q5 (by omega) (by omega)], fun q a1 a3 a4 => by rw [nO q a3, Ho, Eo q a1], (uE.tr (uH.le (fun a q => by (try dsimp only at q ⊢); omega))).tr uN⟩
    rw [tk_no h (s42 M) (Or.inr (by decide)) hf, xcl_e, eq_T rfl, a_Reader_is w, tk_no h (s46 M) (Or.inr (by decide)) hf, xcl_e, eq_T rfl, a_Reader_is w, tk_yes h (s60 M) eG hf, xcl_e, eq_F (by omega) (by omega) (by omega) (by omega) (by omega), a_Reader_rule wG, p_RRule_kind wG, ← eE, a_Reader_is wE, tk_yes rE (s62 E) eH hf, xcl_e, eq_F (by omega) (by omega) (by omega) (by omega) (by omega), a_Reader_is wH, eN, xcl_e, eq_F (by omega) (by omega) (by omega) (by omega) (by omega)]
  · obtain ⟨G, eG, kG, uG⟩ := nx_E (O := O) (f := f) h hf
    have wG := kG.wd
    refine ⟨iS G 135 1 5, ?_, fin G 5 kG uG k5.symm (by omega) (by omega) (s3 (by omega) (by omega)) (q5 (by omega) (by omega))⟩
    rw [tk_no h (s42 M) (Or.inr (by decide)) hf, xcl_e, eq_T rfl, a_Reader_is w, tk_yes h (s46 M) eG hf, xcl_e, eq_F (by omega) (by omega) (by omega) (by omega) (by omega), a_Reader_rule wG, p_RRule_kind wG]
  · -- months on ..
    obtain ⟨G, eG, rG, uG⟩ := nx_sp (O := O) (f := f) (tk2 := 0) (n2 := 0) h ⟨Or.inr rfl, Or.inl ⟨wd_few 62 (by decide), rfl, rfl⟩⟩ hf
    have wG := rG.1
    have Go : ∀ q : Nat, iV G 135 q = iV M 135 q := fun q => uG.i (by (try dsimp only); omega)
    obtain ⟨H, eH, kH, uH⟩ := nx_W (O := O) (f := f) rG hv p k34 hf
    have wH := kH.wd
    have Ho : ∀ q : Nat, iV H 135 q = iV M 135 q := fun q => by rw [uH.i (by (try dsimp only); omega), Go]
    obtain ⟨N, eN, kN, n1, n3, n4, nO, uN⟩ := which_ok (f := f) hO kH hv (by rw [Ho]; exact d0) (by rw [Ho]; exact p0) hf
    refine ⟨N, ?_, kN, n1, n3, n4, fun q a1 a3 a4 => by rw [nO q a1 a3 a4, Ho], ((uG.tr uH).le (fun a q => by (try dsimp only at q ⊢); omega)).tr uN⟩
    rw [tk_no h (s42 M) (Or.inr (by decide)) hf, xcl_e, eq_T rfl, a_Reader_is w, tk_no h (s46 M) (Or.inr (by decide)) hf, xcl_e, eq_T rfl, a_Reader_is w, tk_no h (s60 M) (Or.inr (by decide)) hf, xcl_e, eq_T rfl, a_Reader_is w, tk_yes h (s66 M) eG hf, xcl_e, eq_F (by omega) (by omega) (by omega) (by omega) (by omega), a_Reader_is wG, tk_yes rG (s62 G) eH hf, xcl_e, eq_F (by omega) (by omega) (by omega) (by omega) (by omega), a_Reader_is wH, eN, xcl_e, eq_F (by omega) (by omega) (by omega) (by omega) (by omega)]
/-- once, or every .. -/
theorem kind_ok (hO : STo O) (h : (r 1 = 0 ∧ RT T M (tq 40) (txE r) 0 0) ∨ (r 1 ≠ 0 ∧ RT T M (tq 58) ([32] ++ SU r) 0 0)) (hv : LVr r) (p : -1 ≤ r 4) (z : ∀ q : Nat, 1 ≤ q → q ≤ 4 → iV M 135 q = 0) (hf : 200 ≤ f) : ∃ N, f_Reader_parseKind O f 134 M = some (1, N) ∧ EK T N r ∧ (∀ q : Nat, 1 ≤ q → q ≤ 4 → iV N 135 q = r q) ∧ (∀ q : Nat, q = 0 ∨ 5 ≤ q → iV N 135 q = iV M 135 q) ∧ Un (fun a => a ≠ 134 ∧ a ≠ 135) M N := by
  have hv' := hv
  obtain ⟨-, -, st, st0, ⟨s0, s1⟩, s2, s3, ⟨q0, q1⟩, q3, q4, q5, -⟩ := hv'
  have s40 : ∀ M, SG O M 1000000040 (tq 40) := hO 40 (by decide)
  have s58 : ∀ M, SG O M 1000000058 (tq 58) := hO 58 (by decide)
  have four : ∀ q : Nat, 1 ≤ q → q ≤ 4 → q = 1 ∨ q = 2 ∨ q = 3 ∨ q = 4 := fun q a b => by omega
  unfold f_Reader_parseKind
  rcases h with ⟨k0, h⟩ | ⟨k0, h⟩
  · obtain ⟨G, eG, kG, uG⟩ := nx_E (O := O) (f := f) h hf
    have Go : ∀ q : Nat, iV G 135 q = iV M 135 q := fun q => uG.i (by (try dsimp only); omega)
    refine ⟨G, ?_, kG, fun q a b => ?_, fun q _ => Go q, uG.le (fun a q => by (try dsimp only at q ⊢); omega)⟩
    · rw [a_Reader_is h.1, tk_yes h (s40 M) eG hf, xcl_e, eq_F (by omega) (by omega) (by omega) (by omega) (by omega)]
    · rw [Go, z q a b]
      rcases four q a b with rfl | rfl | rfl | rfl
      · exact k0.symm
      · exact (st0 k0).symm
      · exact (s3 (by omega) (by omega)).symm
      · exact (q5 (by omega) (by omega)).symm
  · have w := h.1
    -- from the unit on
    have tail : ∀ (E : xM), UK T E r → (∀ q : Nat, q ≠ 2 → iV E 135 q = iV M 135 q) → iV E 135 2 = r 2 → Un (fun a => a ≠ 134 ∧ a ≠ 135) M E → ∃ N, f_Reader_parseKind_65 O f 134 E = some (1, N) ∧ EK T N r ∧ (∀ q : Nat, 1 ≤ q → q ≤ 4 → iV N 135 q = r q) ∧ (∀ q : Nat, q = 0 ∨ 5 ≤ q → iV N 135 q = iV M 135 q) ∧ Un (fun a => a ≠ 134 ∧ a ≠ 135) M N := by
      intro E kE Eo E2 uE
      obtain ⟨N, eN, kN, n1, n3, n4, nO, uN⟩ := unit_ok (f := f) hO kE hv p (by rw [Eo 1 (by decide)]; exact z 1 (by omega) (by omega)) (by rw [Eo 3 (by decide)]; exact z 3 (by omega) (by omega)) (by rw [Eo 4 (by decide)]; exact z 4 (by omega) (by omega)) hf
      refine ⟨N, ?_, kN, fun q a b => ?_, fun q hq => by rw [nO q (by omega) (by omega) (by omega), Eo q (by omega)], uE.tr uN⟩
      · unfold f_Reader_parseKind_65
        rw [a_Reader_is kE.wd, eN, xcl_e, if_pos fit_1]
      · rcases four q a b with rfl | rfl | rfl | rfl
        · exact n1
        · rw [nO 2 (by decide) (by decide) (by decide), E2]
        · exact n3
        · exact n4
    have st1 := st k0
    rw [a_Reader_is w, tk_no h (s40 M) (Or.inr (by decide)) hf, xcl_e, eq_T rfl, a_Reader_is w]
    unfold SU at h
    by_cases c : r 2 ≤ 1
    · rw [if_pos c] at h
      obtain ⟨G, eG, kG, uG⟩ := nx_U (O := O) (f := f) h hv k0 hf
      have wG := kG.wd
      have Go : ∀ q : Nat, iV G 135 q = iV M 135 q := fun q => uG.i (by (try dsimp only); omega)
      obtain ⟨E, eE⟩ : ∃ E, E = iS G 135 2 1 := ⟨_, rfl⟩
      have kE : UK T E r := by rw [eE]; exact kG.i
      have uE : Un (fun a => a ≠ 134 ∧ a ≠ 135) M E := by
        rw [eE]
        exact (uG.le (fun a q => by (try dsimp only at q ⊢); omega)).iS (by (try dsimp only); omega)
      obtain ⟨N, eN, q⟩ := tail E kE (fun q hq => by rw [eE, iV_o (by omega), Go]) (by rw [eE, iV_s (by omega) (by omega)]; omega) uE
      refine ⟨N, ?_, q⟩
      rw [tk_yes h (s58 M) eG hf, xcl_e, eq_F (by omega) (by omega) (by omega) (by omega) (by omega), a_Reader_rule wG, p_RRule_step wG, ← eE, a_Reader_token kE.wd, kE.t, eq_F (by omega) (by omega) (by omega) (by omega) (by omega)]
      exact eN
    · rw [if_neg c] at h
      obtain ⟨G, eG, rG, uG⟩ := nx_sp (O := O) (f := f) (tk2 := 1) (n2 := r 2) h ⟨Or.inr rfl, Or.inr (Or.inl ⟨(r 2).toNat, by omega, rfl, rfl, by omega⟩)⟩ hf
      have wG := rG.1
      have Go : ∀ q : Nat, iV G 135 q = iV M 135 q := fun q => uG.i (by (try dsimp only); omega)
      obtain ⟨E, eE⟩ : ∃ E, E = iS G 135 2 1 := ⟨_, rfl⟩
      have rE : RT T E (dgs (r 2).toNat) ([32] ++ UT r) 1 (r 2) := by rw [eE]; exact rG.i
      have wE := rE.1
      have Eo : ∀ q : Nat, q ≠ 2 → iV E 135 q = iV M 135 q := fun q hq => by rw [eE, iV_o (by omega), Go]
      have uE : Un (fun a => a ≠ 134 ∧ a ≠ 135) M E := by
        rw [eE]
        exact (uG.le (fun a q => by (try dsimp only at q ⊢); omega)).iS (by (try dsimp only); omega)
      obtain ⟨F, eF⟩ : ∃ F, F = iS E 135 2 (r 2) := ⟨_, rfl⟩
      have rF : RT T F (dgs (r 2).toNat) ([32] ++ UT r) 1 (r 2) := by rw [eF]; exact rE.i
      have wF := rF.1
      have F2 : iV F 135 2 = r 2 := by rw [eF, iV_s (by omega) (by omega)]
      have Fo : ∀ q : Nat, q ≠ 2 → iV F 135 q = iV M 135 q := fun q hq => by rw [eF, iV_o (by omega), Eo q hq]
      have uF : Un (fun a => a ≠ 134 ∧ a ≠ 135) M F := by rw [eF]; exact uE.iS (by (try dsimp only); omega)
      obtain ⟨H, eH, kH, uH⟩ := nx_U (O := O) (f := f) rF hv k0 hf
      have Ho : ∀ q : Nat, iV H 135 q = iV F 135 q := fun q => uH.i (by (try dsimp only); omega)
      obtain ⟨N, eN, q⟩ := tail H kH (fun q hq => by rw [Ho, Fo q hq]) (by rw [Ho, F2]) (uF.tr (uH.le (fun a q => by (try dsimp only at q ⊢); omega)))
      refine ⟨N, ?_, q⟩
      rw [tk_yes h (s58 M) eG hf, xcl_e, eq_F (by omega) (by omega) (by omega) (by omega) (by omega), a_Reader_rule wG, p_RRule_step wG, ← eE, a_Reader_token wE, rE.t, eq_T rfl, a_Reader_is wE, in_yes rE (by omega) (by omega) (by omega) (by omega) (by omega) (by omega), xcl_e, eq_F (by omega) (by omega) (by omega) (by omega) (by omega), a_Reader_rule wE, a_Reader_number wE, rE.nu, p_RRule_step wE, ← eF, a_Reader_is wF, eH, xcl_e]
      exact eN
/-- the end -/
theorem end_ok {least : Int} (hO : STo O) (h : EK T M r) (hv : LVr r) (l0 : -1000 ≤ least) (l1 : least ≤ 146000) (l2 : r 5 = 2 → least ≤ r 6) (z5 : iV M 135 5 = 0) (z6 : iV M 135 6 = 0) (hf : 200 ≤ f) : ∃ N n, f_Reader_parseEnd O f 134 least M = some (1, N) ∧ RT T N [] [] 3 n ∧ iV N 135 5 = r 5 ∧ iV N 135 6 = r 6 ∧ (∀ q : Nat, q ≠ 5 → q ≠ 6 → iV N 135 q = iV M 135 q) ∧ Un (fun a => a ≠ 134 ∧ a ≠ 135) M N := by
  obtain ⟨⟨f0, f1⟩, -, -, -, -, -, -, -, -, -, -, en⟩ := hv
  have s68 : ∀ M, SG O M 1000000068 (tq 68) := hO 68 (by decide)
  have s70 : ∀ M, SG O M 1000000070 (tq 70) := hO 70 (by decide)
  -- the number
  have num : ∀ (G : xM) (h0 a b : Int), RT T G (dgs (r 6).toNat) [] 1 (r 6) → Un (fun a => a ≠ 134) M G → r 5 = h0 → 0 ≤ h0 → h0 ≤ 2 → -1000 ≤ a → a ≤ 100000000 → -1000 ≤ b → b ≤ 100000000 → a ≤ r 6 → r 6 ≤ b → 0 ≤ r 6 → r 6 ≤ 10000 → ∃ N n, f_Reader_parseEndNumber O f 134 h0 a b G = some (1, N) ∧ RT T N [] [] 3 n ∧ iV N 135 5 = r 5 ∧ iV N 135 6 = r 6 ∧ (∀ q : Nat, q ≠ 5 → q ≠ 6 → iV N 135 q = iV M 135 q) ∧ Un (fun a => a ≠ 134 ∧ a ≠ 135) M N := by
    intro G h0 a b rG uG e5 y0 y1 a0 a1 b0 b1 c0 c1 c2 c3
    have wG := rG.1
    have Go : ∀ q : Nat, iV G 135 q = iV M 135 q := fun q => uG.i (by (try dsimp only); omega)
    obtain ⟨D, eD⟩ : ∃ D, D = iS G 135 5 h0 := ⟨_, rfl⟩
    have rD : RT T D (dgs (r 6).toNat) [] 1 (r 6) := by rw [eD]; exact rG.i
    obtain ⟨E, eE⟩ : ∃ E, E = iS D 135 6 (r 6) := ⟨_, rfl⟩
    have rE : RT T E (dgs (r 6).toNat) [] 1 (r 6) := by rw [eE]; exact rD.i
    have uE : Un (fun a => a ≠ 134 ∧ a ≠ 135) M E := by
      rw [eE, eD]
      exact ((uG.le (fun a q => by (try dsimp only at q ⊢); omega)).iS (by (try dsimp only); omega)).iS (by (try dsimp only); omega)
    have pe : f_Rule_putEnd O f 135 h0 (r 6) G = some ((), E) := by
      unfold f_Rule_putEnd
      rw [p_RRule_how wG, ← eD, p_RRule_number rD.1, ← eE]
    obtain ⟨N, eN, rN, uN⟩ := nx_end (O := O) (f := f) rE hf
    have No : ∀ q : Nat, iV N 135 q = iV E 135 q := fun q => uN.i (by (try dsimp only); omega)
    refine ⟨N, 0, ?_, rN, by rw [No, eE, iV_o (by omega), eD, iV_s (by omega) (by omega), e5], by rw [No, eE, iV_s (by omega) (by omega)], fun q h5 h6 => by rw [No, eE, iV_o (by omega), eD, iV_o (by omega), Go], uE.tr (uN.le (fun a q => by (try dsimp only at q ⊢); omega))⟩
    unfold f_Reader_parseEndNumber
    rw [a_Reader_is wG, in_yes rG a0 a1 b0 b1 c0 c1, xcl_e, eq_F (by omega) (by omega) (by omega) (by omega) (by omega), a_Reader_rule wG, a_Reader_number wG, rG.nu, a_RRule_is wG, pe, xcl_e, a_Reader_is rE.1, eN, xcl_e]
  unfold f_Reader_parseEnd
  rcases h with ⟨e5, n, h⟩ | ⟨e5, n, h⟩ | ⟨n1, n2, n, h⟩
  · have h6 : 1 ≤ r 6 ∧ r 6 ≤ 12 := by omega
    obtain ⟨G, eG, rG, uG⟩ := nx_sp (O := O) (f := f) (tk2 := 1) (n2 := r 6) h ⟨Or.inl rfl, Or.inr (Or.inl ⟨(r 6).toNat, by omega, rfl, rfl, by omega⟩)⟩ hf
    obtain ⟨N, m, eN, q⟩ := num G 1 1 500 rG uG e5 (by omega) (by omega) (by omega) (by omega) (by omega) (by omega) (by omega) (by omega) (by omega) (by omega)
    refine ⟨N, m, ?_, q⟩
    rw [a_Reader_token h.1, h.t, eq_F (by omega) (by omega) (by omega) (by omega) (by omega), a_Reader_is h.1, tk_yes h (s68 M) eG hf, xcl_e, eq_F (by omega) (by omega) (by omega) (by omega) (by omega), a_Reader_is rG.1, eN, xcl_e, if_pos fit_1]
  · have h6 := l2 e5
    obtain ⟨G, eG, rG, uG⟩ := nx_sp (O := O) (f := f) (tk2 := 1) (n2 := r 6) h ⟨Or.inl rfl, Or.inr (Or.inl ⟨(r 6).toNat, by omega, rfl, rfl, by omega⟩)⟩ hf
    obtain ⟨N, m, eN, q⟩ := num G 2 least 146000 rG uG e5 (by omega) (by omega) (by omega) (by omega) (by omega) (by omega) h6 (by omega) (by omega) (by omega)
    refine ⟨N, m, ?_, q⟩
    rw [a_Reader_token h.1, h.t, eq_F (by omega) (by omega) (by omega) (by omega) (by omega), a_Reader_is h.1, tk_no h (s68 M) (Or.inr (by decide)) hf, xcl_e, eq_T rfl, a_Reader_is h.1, tk_yes h (s70 M) eG hf, xcl_e, eq_F (by omega) (by omega) (by omega) (by omega) (by omega), a_Reader_is rG.1, eN, xcl_e, eq_F (by omega) (by omega) (by omega) (by omega) (by omega)]
  · refine ⟨M, n, ?_, h, by omega, by omega, fun _ _ _ => rfl, Un.rf⟩
    rw [a_Reader_token h.1, h.t, eq_T rfl]
end PAR
end
