/-! draft 719.which -/
section
/-! ===== which days of the months ===== -/
/-- the words behind 'months on' -/
def WT (r : Nat → Int) : List Int := if r 1 = 3 then (if 0 < r 4 then dgs (r 4).toNat ++ txE r else tq 50 ++ txE r) else (if 0 < r 4 then tq (22 + 2 * (r 4).toNat) ++ (nmF (dsL (r 3).toNat) ++ txE r) else tq 50 ++ (nmF (dsL (r 3).toNat) ++ txE r))
def WK (T : List Int) (M : xM) (r : Nat → Int) : Prop := (r 1 = 3 ∧ ((0 < r 4 ∧ RT T M (dgs (r 4).toNat) (txE r) 1 (r 4)) ∨ (r 4 = -1 ∧ RT T M (tq 50) (txE r) 0 0))) ∨ (r 1 = 4 ∧ ((0 < r 4 ∧ RT T M (tq (22 + 2 * (r 4).toNat)) (nmF (dsL (r 3).toNat) ++ txE r) 0 0) ∨ (r 4 = -1 ∧ RT T M (tq 50) (nmF (dsL (r 3).toNat) ++ txE r) 0 0)))
section WHI
variable {O : Nat → Option va_E} {f u : Nat} {M N : xM} {T W W2 B B2 K : List Int} {x tk n tk2 n2 : Int} {r : Nat → Int} {γ : Type}
theorem WK.wd (h : WK T M r) : Wd M := by
  rcases h with ⟨-, ⟨-, h⟩ | ⟨-, h⟩⟩ | ⟨-, ⟨-, h⟩ | ⟨-, h⟩⟩
  · exact h.1
  · exact h.1
  · exact h.1
  · exact h.1
theorem WK.i {j : Nat} (h : WK T M r) : WK T (iS M 135 j x) r := by
  rcases h with ⟨a, ⟨b, h⟩ | ⟨b, h⟩⟩ | ⟨a, ⟨b, h⟩ | ⟨b, h⟩⟩
  · exact Or.inl ⟨a, Or.inl ⟨b, h.i⟩⟩
  · exact Or.inl ⟨a, Or.inr ⟨b, h.i⟩⟩
  · exact Or.inr ⟨a, Or.inl ⟨b, h.i⟩⟩
  · exact Or.inr ⟨a, Or.inr ⟨b, h.i⟩⟩
theorem tq_ord1 : ∀ k : Nat, k < 6 → 1 ≤ k → isW (tq (22 + 2 * k)) := by
  unfold isW
  decide +kernel
theorem tq_ord2 : ∀ k : Nat, k < 6 → 1 ≤ k → tq (22 + 2 * k) ≠ tq 50 := by decide +kernel
theorem tq_ord3 : ∀ k : Nat, k < 6 → ∀ p : Nat, p < 6 → (1 ≤ k ∧ 1 ≤ p ∧ k ≠ p) → tq (22 + 2 * k) ≠ tq (22 + 2 * p) := by decide +kernel
theorem tq_ord (k : Nat) (h6 : k < 6) (h1 : 1 ≤ k) : isW (tq (22 + 2 * k)) ∧ tq (22 + 2 * k) ≠ tq 50 ∧ ∀ p : Nat, p < 6 → 1 ≤ p → k ≠ p → tq (22 + 2 * k) ≠ tq (22 + 2 * p) := ⟨tq_ord1 k h6 h1, tq_ord2 k h6 h1, fun p p6 p1 ne => tq_ord3 k h6 p p6 ⟨h1, p1, ne⟩⟩
theorem wd_50 : isW (tq 50) := by
  unfold isW
  decide
theorem nx_W (h : RT T M W ([32] ++ WT r) tk n) (hv : LVr r) (p : -1 ≤ r 4) (k : r 1 = 3 ∨ r 1 = 4) (hf : 200 ≤ f) : ∃ N, f_Reader_goOn O f 134 M = some ((), N) ∧ WK T N r ∧ Un (fun a => a ≠ 134) M N := by
  obtain ⟨-, -, -, -, -, -, -, ⟨q0, q1⟩, q3, q4, -, -⟩ := hv
  unfold WT at h
  by_cases k3 : r 1 = 3
  · have z := q3 k3
    rw [if_pos k3] at h
    by_cases c : 0 < r 4
    · rw [if_pos c] at h
      obtain ⟨N, eN, rN, uN⟩ := nx_sp (O := O) (f := f) (tk2 := 1) (n2 := r 4) h ⟨txE_B, Or.inr (Or.inl ⟨(r 4).toNat, by omega, rfl, rfl, by omega⟩)⟩ hf
      exact ⟨N, eN, Or.inl ⟨k3, Or.inl ⟨c, rN⟩⟩, uN⟩
    · rw [if_neg c] at h
      obtain ⟨N, eN, rN, uN⟩ := nx_sp (O := O) (f := f) (tk2 := 0) (n2 := 0) h ⟨txE_B, Or.inl ⟨wd_50, rfl, rfl⟩⟩ hf
      exact ⟨N, eN, Or.inl ⟨k3, Or.inr ⟨by omega, rN⟩⟩, uN⟩
  · have k4 : r 1 = 4 := by omega
    have z := q4 k4
    rw [if_neg k3] at h
    by_cases c : 0 < r 4
    · rw [if_pos c] at h
      obtain ⟨N, eN, rN, uN⟩ := nx_sp (O := O) (f := f) (tk2 := 0) (n2 := 0) h ⟨nmF_B, Or.inl ⟨(tq_ord (r 4).toNat (by omega) (by omega)).1, rfl, rfl⟩⟩ hf
      exact ⟨N, eN, Or.inr ⟨k4, Or.inl ⟨c, rN⟩⟩, uN⟩
    · rw [if_neg c] at h
      obtain ⟨N, eN, rN, uN⟩ := nx_sp (O := O) (f := f) (tk2 := 0) (n2 := 0) h ⟨nmF_B, Or.inl ⟨wd_50, rfl, rfl⟩⟩ hf
      exact ⟨N, eN, Or.inr ⟨k4, Or.inr ⟨by omega, rN⟩⟩, uN⟩
/-- the first weekday, behind what stands ahead of it -/
theorem nx_D {s j : Nat} {js : List Nat} (h : RT T M W (nmF (dsL s) ++ txE r) tk n) (hs : s < 128) (es : dsL s = j :: js) (hf : 200 ≤ f) : ∃ N, f_Reader_goOn O f 134 M = some ((), N) ∧ RT T N (tq (10 + 2 * j)) (nmF js ++ txE r) 0 0 ∧ Un (fun a => a ≠ 134) M N := by
  have hj : j < 7 := (ds_all s hs).2.2.1 j (by rw [es]; exact List.mem_cons_self)
  have e : nmF (dsL s) ++ txE r = [32] ++ (tq (10 + 2 * j) ++ (nmF js ++ txE r)) := by
    rw [es]
    show ([32] ++ (tq (10 + 2 * j) ++ nmF js)) ++ txE r = _
    rw [List.append_assoc, List.append_assoc]
  rw [e] at h
  exact nx_sp (O := O) (f := f) (tk2 := 0) (n2 := 0) h ⟨nmF_B, Or.inl ⟨(tq_days j hj).2.1, rfl, rfl⟩⟩ hf
theorem fit_1 : xfit .boolean (.int (yw 1)) = true := by decide
theorem w104 (hO : STo O) {s j : Nat} {js : List Nat} (h : RT T M (tq (10 + 2 * j)) (nmF js ++ txE r) 0 n) (hs : s < 128) (es : dsL s = j :: js) (d0 : iV M 135 3 = 0) (p0 : iV M 135 4 ≠ 0) (hf : 200 ≤ f) : ∃ N, f_Reader_parseWhich_104 O f 134 M = some (1, N) ∧ EK T N r ∧ iV N 135 1 = 4 ∧ iV N 135 3 = (s : Int) ∧ (∀ q : Nat, q ≠ 1 → q ≠ 3 → iV N 135 q = iV M 135 q) ∧ Un (fun a => a ≠ 134 ∧ a ≠ 135) M N := by
  have w := h.1
  have r4 := iV_r M 135 4
  obtain ⟨E, eE⟩ : ∃ E, E = iS M 135 1 4 := ⟨_, rfl⟩
  have hE : RT T E (tq (10 + 2 * j)) (nmF js ++ txE r) 0 n := by rw [eE]; exact h.i
  have uE : Un (fun a => a ≠ 134 ∧ a ≠ 135) M E := by rw [eE]; exact Un.rf.iS (by (try dsimp only); omega)
  have E1 : iV E 135 1 = 4 := by rw [eE, iV_s (by omega) (by omega)]
  have Eo : ∀ q : Nat, q ≠ 1 → iV E 135 q = iV M 135 q := fun q hq => by rw [eE, iV_o (by omega)]
  obtain ⟨N, eN, kN, n3, nO, uN⟩ := pd_ok (f := f) hO hE hs es (by rw [Eo 3 (by decide)]; exact d0) hf
  refine ⟨N, ?_, kN, by rw [nO 1 (by decide)]; exact E1, n3, fun q q1 q3 => by rw [nO q q3, Eo q q1], uE.tr uN⟩
  unfold f_Reader_parseWhich_104
  rw [a_Reader_rule w, a_RRule_place w, eq_F p0 (by omega) (by omega) (by omega) (by omega), a_Reader_rule w, p_RRule_kind w, ← eE, a_Reader_is hE.1, eN, xcl_e, if_pos fit_1]
theorem ord_ok {p : Nat} (h1 : 1 ≤ p) (h5 : p ≤ 5) : f_Reader_ordinal O f (p : Int) M = some (1000000000 + (22 + 2 * p), M) := by
  have c : p = 1 ∨ p = 2 ∨ p = 3 ∨ p = 4 ∨ p = 5 := by omega
  rcases c with rfl | rfl | rfl | rfl | rfl
  · show f_Reader_ordinal O f 1 M = some (1000000024, M)
    unfold f_Reader_ordinal
    rw [eq_T rfl]
  · show f_Reader_ordinal O f 2 M = some (1000000026, M)
    unfold f_Reader_ordinal
    rw [eq_F (by omega) (by omega) (by omega) (by omega) (by omega), eq_T rfl]
  · show f_Reader_ordinal O f 3 M = some (1000000028, M)
    unfold f_Reader_ordinal
    rw [eq_F (by omega) (by omega) (by omega) (by omega) (by omega), eq_F (by omega) (by omega) (by omega) (by omega) (by omega), eq_T rfl]
  · show f_Reader_ordinal O f 4 M = some (1000000030, M)
    unfold f_Reader_ordinal
    rw [eq_F (by omega) (by omega) (by omega) (by omega) (by omega), eq_F (by omega) (by omega) (by omega) (by omega) (by omega), eq_F (by omega) (by omega) (by omega) (by omega) (by omega), eq_T rfl]
  · show f_Reader_ordinal O f 5 M = some (1000000032, M)
    unfold f_Reader_ordinal
    rw [eq_F (by omega) (by omega) (by omega) (by omega) (by omega), eq_F (by omega) (by omega) (by omega) (by omega) (by omega), eq_F (by omega) (by omega) (by omega) (by omega) (by omega), eq_F (by omega) (by omega) (by omega) (by omega) (by omega)]
theorem sto_ord (hO : STo O) {p : Nat} (h1 : 1 ≤ p) (h5 : p ≤ 5) (M : xM) : SG O M (1000000000 + (22 + 2 * p)) (tq (22 + 2 * p)) := by
  have c : p = 1 ∨ p = 2 ∨ p = 3 ∨ p = 4 ∨ p = 5 := by omega
  refine hO _ ?_ M
  rcases c with rfl | rfl | rfl | rfl | rfl <;> decide
theorem w64 (hO : STo O) {s j p : Nat} {js : List Nat} (h : RT T M (tq (22 + 2 * p)) (nmF (dsL s) ++ txE r) 0 n) (p1 : 1 ≤ p) (p5 : p ≤ 5) (hs : s < 128) (es : dsL s = j :: js) (d0 : iV M 135 3 = 0) (p0 : iV M 135 4 = 0) (hf : 200 ≤ f) : ∀ (d t k : Nat), k + d = p → 1 ≤ k → d + 1 < t → ∃ N, f_Reader_parseWhich_64 O f t 134 (k : Int) M = some (1, N) ∧ EK T N r ∧ iV N 135 1 = 4 ∧ iV N 135 3 = (s : Int) ∧ iV N 135 4 = (p : Int) ∧ (∀ q : Nat, q ≠ 1 → q ≠ 3 → q ≠ 4 → iV N 135 q = iV M 135 q) ∧ Un (fun a => a ≠ 134 ∧ a ≠ 135) M N := by
  have w := h.1
  intro d
  induction d with
  | zero =>
    intro t k hk k1 ht
    obtain ⟨t, rfl⟩ : ∃ n', t = n' + 1 + 1 := ⟨t - 2, by omega⟩
    obtain rfl : k = p := by omega
    obtain ⟨G, eG, rG, uG⟩ := nx_D (O := O) (f := f) h hs es hf
    have wG := rG.1
    have Go : ∀ q : Nat, iV G 135 q = iV M 135 q := fun q => uG.i (by (try dsimp only); omega)
    obtain ⟨E, eE⟩ : ∃ E, E = iS G 135 4 (k : Int) := ⟨_, rfl⟩
    have rE : RT T E (tq (10 + 2 * j)) (nmF js ++ txE r) 0 0 := by rw [eE]; exact rG.i
    have wE := rE.1
    have E4 : iV E 135 4 = (k : Int) := by rw [eE, iV_s (by omega) (by omega)]
    have Eo : ∀ q : Nat, q ≠ 4 → iV E 135 q = iV M 135 q := fun q hq => by rw [eE, iV_o (by omega), Go]
    have uE : Un (fun a => a ≠ 134 ∧ a ≠ 135) M E := by
      rw [eE]
      exact (uG.le (fun a q => by (try dsimp only at q ⊢); omega)).iS (by (try dsimp only); omega)
    obtain ⟨N, eN, kN, n1, n3, nO, uN⟩ := w104 (f := f) hO rE hs es (by rw [Eo 3 (by decide)]; exact d0) (by rw [E4]; omega) hf
    refine ⟨N, ?_, kN, n1, n3, by rw [nO 4 (by decide) (by decide)]; exact E4, fun q q1 q3 q4 => by rw [nO q q1 q3, Eo q q4], uE.tr uN⟩
    have nxt : f_Reader_parseWhich_64 O f (t + 1) 134 ((k : Int) + 1) E = some (1, N) := by
      show (if yw 5 < yw ((k : Int) + 1) then _ else _) = _
      by_cases z : (5 : Int) < (k : Int) + 1
      · rw [lt_T z (by omega) (by omega)]
        exact eN
      · rw [lt_F (by omega) (by omega) (by omega), a_Reader_rule wE, a_RRule_place wE, E4, eq_F (by omega) (by omega) (by omega) (by omega) (by omega)]
        exact eN
    show (if yw 5 < yw (k : Int) then _ else _) = _
    rw [lt_F (by omega) (by omega) (by omega), a_Reader_rule w, a_RRule_place w, eq_T p0, ord_ok k1 p5, xcl_e, a_Reader_is w, tk_yes h (sto_ord hO k1 p5 M) eG hf, xcl_e, eq_F (by omega) (by omega) (by omega) (by omega) (by omega), a_Reader_rule wG, p_RRule_place wG, ← eE]
    exact nxt
  | succ d ih =>
    intro t k hk k1 ht
    obtain ⟨t, rfl⟩ : ∃ n', t = n' + 1 := ⟨t - 1, by omega⟩
    obtain ⟨N, eN, q⟩ := ih t (k + 1) (by omega) (by omega) (by omega)
    refine ⟨N, ?_, q⟩
    rw [show ((k + 1 : Nat) : Int) = (k : Int) + 1 by omega] at eN
    have ne : tq (22 + 2 * p) ≠ tq (22 + 2 * k) := (tq_ord p (by omega) p1).2.2 k (by omega) k1 (by omega)
    show (if yw 5 < yw (k : Int) then _ else _) = _
    rw [lt_F (by omega) (by omega) (by omega), a_Reader_rule w, a_RRule_place w, eq_T p0, ord_ok k1 (by omega), xcl_e, a_Reader_is w, tk_no h (sto_ord hO k1 (by omega) M) (Or.inr ne) hf, xcl_e, eq_T rfl]
    exact eN
theorem ds_of {s : Int} (s0 : 1 ≤ s) (s1 : s ≤ 127) : ∃ j js, dsL s.toNat = j :: js := by
  have q := (ds_all s.toNat (by omega)).2.2.2.1 (by omega)
  cases h : dsL s.toNat with
  | nil => exact absurd h q
  | cons j js => exact ⟨j, js, rfl⟩
/-- which days -/
theorem which_ok (hO : STo O) (h : WK T M r) (hv : LVr r) (d0 : iV M 135 3 = 0) (p0 : iV M 135 4 = 0) (hf : 200 ≤ f) : ∃ N, f_Reader_parseWhich O f 134 M = some (1, N) ∧ EK T N r ∧ iV N 135 1 = r 1 ∧ iV N 135 3 = r 3 ∧ iV N 135 4 = r 4 ∧ (∀ q : Nat, q ≠ 1 → q ≠ 3 → q ≠ 4 → iV N 135 q = iV M 135 q) ∧ Un (fun a => a ≠ 134 ∧ a ≠ 135) M N := by
  obtain ⟨-, -, -, -, ⟨s0, s1⟩, s2, s3, ⟨q0, q1⟩, q3, q4, -, -⟩ := hv
  have s50 : ∀ M, SG O M 1000000050 (tq 50) := hO 50 (by decide)
  obtain ⟨E, eE⟩ : ∃ E, E = iS M 135 1 3 := ⟨_, rfl⟩
  have w := h.wd
  have hE : WK T E r := by rw [eE]; exact h.i
  have wE := hE.wd
  have E1 : iV E 135 1 = 3 := by rw [eE, iV_s (by omega) (by omega)]
  have Eo : ∀ q : Nat, q ≠ 1 → iV E 135 q = iV M 135 q := fun q hq => by rw [eE, iV_o (by omega)]
  have uE : Un (fun a => a ≠ 134 ∧ a ≠ 135) M E := by rw [eE]; exact Un.rf.iS (by (try dsimp only); omega)
  unfold f_Reader_parseWhich
  rw [a_Reader_rule w, p_RRule_kind w, ← eE, a_Reader_is wE]
  rcases hE with ⟨k3, ⟨c, hE⟩ | ⟨c, hE⟩⟩ | ⟨k4, ⟨c, hE⟩ | ⟨c, hE⟩⟩
  · -- a day's number
    have E6 : iV E 134 6 = r 4 := by
      obtain ⟨-, -, A, -, -, -, -, z⟩ := hE
      exact z
    obtain ⟨G, eG⟩ : ∃ G, G = iS E 135 4 (r 4) := ⟨_, rfl⟩
    have rG : RT T G (dgs (r 4).toNat) (txE r) 1 (r 4) := by rw [eG]; exact hE.i
    have G4 : iV G 135 4 = r 4 := by rw [eG, iV_s (by omega) (by omega)]
    have Go : ∀ q : Nat, q ≠ 4 → iV G 135 q = iV E 135 q := fun q hq => by rw [eG, iV_o (by omega)]
    have uG : Un (fun a => a ≠ 134 ∧ a ≠ 135) E G := by rw [eG]; exact Un.rf.iS (by (try dsimp only); omega)
    obtain ⟨N, eN, kN, uN⟩ := nx_E (O := O) (f := f) rG hf
    have No : ∀ q : Nat, iV N 135 q = iV G 135 q := fun q => uN.i (by (try dsimp only); omega)
    refine ⟨N, ?_, kN, by rw [No, Go 1 (by decide), E1, k3], by rw [No, Go 3 (by decide), Eo 3 (by decide), d0, s3 (by omega) (by omega)], by rw [No, G4], fun q a1 a3 a4 => by rw [No, Go q a4, Eo q a1], (uE.tr uG).tr (uN.le (fun a q => by (try dsimp only at q ⊢); omega))⟩
    rw [in_yes hE (by omega) (by omega) (by omega) (by omega) (by omega) (by omega), xcl_e, eq_F (by omega) (by omega) (by omega) (by omega) (by omega), a_Reader_rule wE, a_Reader_number wE, E6, p_RRule_place wE, ← eG, a_Reader_is rG.1, eN, xcl_e]
  · -- the last day
    obtain ⟨G, eG, kG, uG⟩ := nx_E (O := O) (f := f) hE hf
    have wG := kG.wd
    have Go : ∀ q : Nat, iV G 135 q = iV E 135 q := fun q => uG.i (by (try dsimp only); omega)
    obtain ⟨N, eN⟩ : ∃ N, N = iS G 135 4 (-1) := ⟨_, rfl⟩
    have kN : EK T N r := by rw [eN]; exact kG.i
    have N4 : iV N 135 4 = -1 := by rw [eN, iV_s (by omega) (by omega)]
    have No : ∀ q : Nat, q ≠ 4 → iV N 135 q = iV E 135 q := fun q hq => by rw [eN, iV_o (by omega), Go]
    have uN : Un (fun a => a ≠ 134 ∧ a ≠ 135) G N := by rw [eN]; exact Un.rf.iS (by (try dsimp only); omega)
    refine ⟨N, ?_, kN, by rw [No 1 (by decide), E1, k3], by rw [No 3 (by decide), Eo 3 (by decide), d0, s3 (by omega) (by omega)], by rw [N4, c], fun q a1 a3 a4 => by rw [No q a4, Eo q a1], (uE.tr (uG.le (fun a q => by (try dsimp only at q ⊢); omega))).tr uN⟩
    rw [in_no hE (by decide) (by omega) (by omega) (by omega) (by omega), xcl_e, eq_T rfl, a_Reader_is wE, tk_yes hE (s50 E) eG hf, xcl_e, eq_F (by omega) (by omega) (by omega) (by omega) (by omega), a_Reader_rule wG, p_RRule_place wG, ← eN, a_Reader_is kN.wd, kN.dn, xcl_e, eq_T rfl]
  · -- the first, .. of a set's days
    obtain ⟨j, js, es⟩ := ds_of (s := r 3) (by have := s2 (Or.inr k4); omega) s1
    have z4 := q4 k4
    obtain ⟨p, ep⟩ := Int.eq_ofNat_of_zero_le (show 0 ≤ r 4 by omega)
    rw [show (r 4).toNat = p by omega] at hE
    have wn : tq (22 + 2 * p) ≠ tq 50 := (tq_ord p (by omega) (by omega)).2.1
    obtain ⟨N, eN, kN, n1, n3, n4, nO, uN⟩ := w64 (f := f) hO hE (by omega) (by omega) (by omega) es (by rw [Eo 3 (by decide)]; exact d0) (by rw [Eo 4 (by decide)]; exact p0) hf (p - 1) f 1 (by omega) (by omega) (by omega)
    refine ⟨N, ?_, kN, by rw [n1, k4], by rw [n3]; omega, by rw [n4, ep], fun q a1 a3 a4 => by rw [nO q a1 a3 a4, Eo q a1], uE.tr uN⟩
    rw [in_no hE (by decide) (by omega) (by omega) (by omega) (by omega), xcl_e, eq_T rfl, a_Reader_is wE, tk_no hE (s50 E) (Or.inr wn) hf, xcl_e, eq_T rfl]
    exact eN
  · -- the last of a set's days
    obtain ⟨j, js, es⟩ := ds_of (s := r 3) (by have := s2 (Or.inr k4); omega) s1
    have hj : j < 7 := (ds_all (r 3).toNat (by omega)).2.2.1 j (by rw [es]; exact List.mem_cons_self)
    obtain ⟨G, eG, rG, uG⟩ := nx_D (O := O) (f := f) hE (by omega) es hf
    have wG := rG.1
    have Go : ∀ q : Nat, iV G 135 q = iV E 135 q := fun q => uG.i (by (try dsimp only); omega)
    obtain ⟨H, eH⟩ : ∃ H, H = iS G 135 4 (-1) := ⟨_, rfl⟩
    have rH : RT T H (tq (10 + 2 * j)) (nmF js ++ txE r) 0 0 := by rw [eH]; exact rG.i
    have wH := rH.1
    have H4 : iV H 135 4 = -1 := by rw [eH, iV_s (by omega) (by omega)]
    have Ho : ∀ q : Nat, q ≠ 4 → iV H 135 q = iV E 135 q := fun q hq => by rw [eH, iV_o (by omega), Go]
    have uH : Un (fun a => a ≠ 134 ∧ a ≠ 135) G H := by rw [eH]; exact Un.rf.iS (by (try dsimp only); omega)
    obtain ⟨N, eN, kN, n1, n3, nO, uN⟩ := w104 (f := f) hO rH (by omega) es (by rw [Ho 3 (by decide), Eo 3 (by decide)]; exact d0) (by rw [H4]; decide) hf
    refine ⟨N, ?_, kN, by rw [n1, k4], by rw [n3]; omega, by rw [nO 4 (by decide) (by decide), H4, c], fun q a1 a3 a4 => by rw [nO q a1 a3, Ho q a4, Eo q a1], ((uE.tr (uG.le (fun a q => by (try dsimp only at q ⊢); omega))).tr uH).tr uN⟩
    obtain ⟨g, eg⟩ : ∃ n', f = n' + 1 := ⟨f - 1, by omega⟩
    have q62 : f_Reader_parseWhich_62 O f 134 H = some (1, N) := by
      unfold f_Reader_parseWhich_62
      rw [show f_Reader_parseWhich_64 O f f = f_Reader_parseWhich_64 O f (g + 1) by rw [← eg]]
      show (if yw 5 < yw 1 then _ else _) = _
      rw [lt_F (by omega) (by omega) (by omega), a_Reader_rule wH, a_RRule_place wH, H4, eq_F (by omega) (by omega) (by omega) (by omega) (by omega)]
      exact eN
    rw [in_no hE (by decide) (by omega) (by omega) (by omega) (by omega), xcl_e, eq_T rfl, a_Reader_is wE, tk_yes hE (s50 E) eG hf, xcl_e, eq_F (by omega) (by omega) (by omega) (by omega) (by omega), a_Reader_rule wG, p_RRule_place wG, ← eH, a_Reader_is wH, dn_ok2 hO hj rH (by omega), xcl_e, eq_F (by omega) (by omega) (by omega) (by omega) (by omega)]
    exact q62
end WHI
end
