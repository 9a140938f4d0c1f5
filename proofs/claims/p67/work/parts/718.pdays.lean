/-! draft 718.pdays -/
section
/-! ===== a row of weekdays is read; the end ===== -/
/-- weekdays, told one behind the other -/
def nmF : List Nat → List Int
  | [] => []
  | j :: js => [32] ++ (tq (10 + 2 * j) ++ nmF js)
/-- a set's days -/
def dsL (s : Nat) : List Nat := (List.range 7).filter (fun k => s / 2 ^ k % 2 == 1)
/-- the days put into a set -/
def dyF : Int → List Nat → Int
  | x, [] => x
  | x, j :: js => dyF (jor x (jshl 1 (jand (j : Int) 31))) js
theorem ds_all : ∀ s : Nat, s < 128 → txD (s : Int) 7 = nmF (dsL s) ∧ dyF 0 (dsL s) = (s : Int) ∧ (∀ j, j ∈ dsL s → j < 7) ∧ (s ≠ 0 → dsL s ≠ []) ∧ (dsL s).length ≤ 7 := by decide +kernel
/-- the state ahead of the end: its first word, or nothing more -/
def EK (T : List Int) (M : xM) (r : Nat → Int) : Prop := (r 5 = 1 ∧ ∃ n, RT T M (tq 68) ([32] ++ (dgs (r 6).toNat ++ [])) 0 n) ∨ (r 5 = 2 ∧ ∃ n, RT T M (tq 70) ([32] ++ (dgs (r 6).toNat ++ [])) 0 n) ∨ (r 5 ≠ 1 ∧ r 5 ≠ 2 ∧ ∃ n, RT T M [] [] 3 n)
section PDS
variable {O : Nat → Option va_E} {f u : Nat} {M N : xM} {T W W2 B B2 K : List Int} {x tk n tk2 n2 : Int} {r : Nat → Int} {γ : Type}
theorem txE_B : isBt (txE r) := by
  unfold txE
  split
  · exact Or.inr rfl
  · split
    · exact Or.inr rfl
    · exact Or.inl rfl
theorem nmF_B {js : List Nat} : isBt (nmF js ++ txE r) := by
  cases js with
  | nil => exact txE_B
  | cons j js => exact Or.inr rfl
theorem nx_E (h : RT T M W (txE r) tk n) (hf : 200 ≤ f) : ∃ N, f_Reader_goOn O f 134 M = some ((), N) ∧ EK T N r ∧ Un (fun a => a ≠ 134) M N := by
  by_cases c1 : r 5 = 1
  · have e : txE r = [32] ++ (tq 68 ++ ([32] ++ (dgs (r 6).toNat ++ []))) := by
      unfold txE
      rw [if_pos c1, List.append_nil]
      rfl
    rw [e] at h
    obtain ⟨N, eN, rN, uN⟩ := nx_sp (O := O) (f := f) (tk2 := 0) (n2 := 0) h ⟨Or.inr rfl, Or.inl ⟨by unfold isW; decide, rfl, rfl⟩⟩ hf
    exact ⟨N, eN, Or.inl ⟨c1, 0, rN⟩, uN⟩
  by_cases c2 : r 5 = 2
  · have e : txE r = [32] ++ (tq 70 ++ ([32] ++ (dgs (r 6).toNat ++ []))) := by
      unfold txE
      rw [if_neg c1, if_pos c2, List.append_nil]
      rfl
    rw [e] at h
    obtain ⟨N, eN, rN, uN⟩ := nx_sp (O := O) (f := f) (tk2 := 0) (n2 := 0) h ⟨Or.inr rfl, Or.inl ⟨by unfold isW; decide, rfl, rfl⟩⟩ hf
    exact ⟨N, eN, Or.inr (Or.inl ⟨c2, 0, rN⟩), uN⟩
  · have e : txE r = [] := by
      unfold txE
      rw [if_neg c1, if_neg c2]
      rfl
    rw [e] at h
    obtain ⟨N, eN, rN, uN⟩ := nx_end (O := O) (f := f) h hf
    exact ⟨N, eN, Or.inr (Or.inr ⟨c1, c2, 0, rN⟩), uN⟩
theorem EK.wd (h : EK T M r) : Wd M := by
  rcases h with ⟨-, n, h⟩ | ⟨-, n, h⟩ | ⟨-, -, n, h⟩
  · exact h.1
  · exact h.1
  · exact h.1
theorem EK.i {j : Nat} (h : EK T M r) : EK T (iS M 135 j x) r := by
  rcases h with ⟨a, n, h⟩ | ⟨a, n, h⟩ | ⟨a, b, n, h⟩
  · exact Or.inl ⟨a, n, h.i⟩
  · exact Or.inr (Or.inl ⟨a, n, h.i⟩)
  · exact Or.inr (Or.inr ⟨a, b, n, h.i⟩)
theorem EK.dn (h : EK T M r) : f_Reader_dayName O f 134 M = some (-1, M) := by
  rcases h with ⟨-, n, h⟩ | ⟨-, n, h⟩ | ⟨-, -, n, h⟩
  · exact dn_no h (Or.inr (by decide))
  · exact dn_no h (Or.inr (by decide))
  · exact dn_no h (Or.inl (by decide))
theorem pd_7 (hO : STo O) (hf : 200 ≤ f) : ∀ (js : List Nat) (t : Nat) (v : Int) (j : Nat) (n : Int) (M : xM), RT T M (tq (10 + 2 * j)) (nmF js ++ txE r) 0 n → j < 7 → (∀ q, q ∈ js → q < 7) → 0 ≤ v → v + js.length < 100 → js.length + 2 ≤ t → 0 ≤ iV M 135 3 → ∃ N, f_Reader_parseDays_7 O f t 134 (j : Int) v M = some ((if dyF (iV M 135 3) (j :: js) = 0 then 0 else 1), N) ∧ EK T N r ∧ iV N 135 3 = dyF (iV M 135 3) (j :: js) ∧ (∀ q : Nat, q ≠ 3 → iV N 135 q = iV M 135 q) ∧ Un (fun a => a ≠ 134 ∧ a ≠ 135) M N := by
  intro js
  induction js with
  | nil =>
    intro t v j n M h hj _ v0 v1 ht p0
    obtain ⟨t, rfl⟩ : ∃ n', t = n' + 1 + 1 := ⟨t - 2, by omega⟩
    have h1 := h.1
    have l0 : (([] : List Nat).length : Int) = 0 := rfl
    rw [l0] at v1
    obtain ⟨y, ey⟩ : ∃ y, y = jor (iV M 135 3) (jshl 1 (jand (j : Int) 31)) := ⟨_, rfl⟩
    have yr : -2147483648 ≤ y ∧ y ≤ 2147483647 := by rw [ey]; exact yr_of _
    obtain ⟨E, eE⟩ : ∃ E, E = iS M 135 3 y := ⟨_, rfl⟩
    have hE : RT T E (tq (10 + 2 * j)) (txE r) 0 n := by rw [eE]; exact h.i
    have E3 : iV E 135 3 = y := by rw [eE, iV_s yr.1 yr.2]
    have Eo : ∀ q : Nat, q ≠ 3 → iV E 135 q = iV M 135 q := fun q hq => by rw [eE, iV_o (by omega)]
    have uE : Un (fun a => a ≠ 134 ∧ a ≠ 135) M E := by rw [eE]; exact Un.rf.iS (by (try dsimp only); omega)
    obtain ⟨N, eN, kN, uN⟩ := nx_E (O := O) (f := f) hE hf
    have wN := kN.wd
    have N3 : ∀ q : Nat, iV N 135 q = iV E 135 q := fun q => uN.i (by (try dsimp only); omega)
    refine ⟨N, ?_, kN, by rw [N3, E3, ey]; rfl, fun q hq => by rw [N3, Eo q hq], uE.tr (uN.le (fun a q => by (try dsimp only at q ⊢); omega))⟩
    have q48 : f_Reader_parseDays_48 O f 134 N = some ((if y = 0 then 0 else 1), N) := by
      unfold f_Reader_parseDays_48
      rw [a_Reader_rule wN, a_RRule_days wN, N3, E3]
      by_cases z : y = 0
      · rw [eq_T z, if_pos z]
      · rw [eq_F z (by omega) (by omega) (by omega) (by omega), if_neg z]
    have q7 : f_Reader_parseDays_7 O f (t + 1) 134 (-1) (v + 1) N = some ((if y = 0 then 0 else 1), N) := by
      show (if yw 120 ≤ yw (v + 1) then _ else _) = _
      rw [le_F (by omega) (by omega) (by omega), eq_T rfl, q48]
    show (if yw 120 ≤ yw v then _ else _) = _
    rw [le_F (by omega) (by omega) (by omega), eq_F (by omega) (by omega) (by omega) (by omega) (by omega), a_Reader_rule h1, a_RRule_days h1, p_RRule_days h1, ← ey, ← eE, a_Reader_is hE.1, eN, xcl_e, a_Reader_is wN, kN.dn, xcl_e, q7]
    rw [ey]
    rfl
  | cons k js ih =>
    intro t v j n M h hj hjs v0 v1 ht p0
    obtain ⟨t, rfl⟩ : ∃ n', t = n' + 1 := ⟨t - 1, by omega⟩
    have h1 := h.1
    have lc : (k :: js).length = js.length + 1 := rfl
    rw [lc] at v1 ht
    have hk : k < 7 := hjs k List.mem_cons_self
    obtain ⟨y, ey⟩ : ∃ y, y = jor (iV M 135 3) (jshl 1 (jand (j : Int) 31)) := ⟨_, rfl⟩
    have y0 : 0 ≤ y := by
      have q := jshl_one (k := (j : Int)) (by omega) (by omega)
      have p31 : (2 : Int) ^ ((j : Int)).toNat ≤ 128 := by
        have : ∀ z : Nat, z < 7 → (2 : Int) ^ ((z : Int)).toNat ≤ 128 := by decide
        exact this j hj
      have pp : (0 : Int) < 2 ^ ((j : Int)).toNat := Int.pow_pos (by decide)
      rw [ey, q, jor_e p0 (iV_r M 135 3).2 (by omega) (by omega)]
      omega
    have yr : -2147483648 ≤ y ∧ y ≤ 2147483647 := by rw [ey]; exact yr_of _
    obtain ⟨E, eE⟩ : ∃ E, E = iS M 135 3 y := ⟨_, rfl⟩
    have hE : RT T E (tq (10 + 2 * j)) ([32] ++ (tq (10 + 2 * k) ++ (nmF js ++ txE r))) 0 n := by
      have e : nmF (k :: js) ++ txE r = [32] ++ (tq (10 + 2 * k) ++ (nmF js ++ txE r)) := by
        show ([32] ++ (tq (10 + 2 * k) ++ nmF js)) ++ txE r = _
        rw [List.append_assoc, List.append_assoc]
      rw [e] at h
      rw [eE]
      exact h.i
    have E3 : iV E 135 3 = y := by rw [eE, iV_s yr.1 yr.2]
    have Eo : ∀ q : Nat, q ≠ 3 → iV E 135 q = iV M 135 q := fun q hq => by rw [eE, iV_o (by omega)]
    have uE : Un (fun a => a ≠ 134 ∧ a ≠ 135) M E := by rw [eE]; exact Un.rf.iS (by (try dsimp only); omega)
    obtain ⟨G, eG, rG, uG⟩ := nx_sp (O := O) (f := f) (tk2 := 0) (n2 := 0) hE ⟨nmF_B, Or.inl ⟨(tq_days k hk).2.1, rfl, rfl⟩⟩ hf
    have wG := rG.1
    have G3 : ∀ q : Nat, iV G 135 q = iV E 135 q := fun q => uG.i (by (try dsimp only); omega)
    obtain ⟨N, eN, kN, n3, nO, uN⟩ := ih t (v + 1) k 0 G rG hk (fun q hq => hjs q (List.mem_cons_of_mem _ hq)) (by omega) (by omega) (by omega) (by rw [G3, E3]; exact y0)
    rw [G3, E3] at eN n3
    have ed : dyF (iV M 135 3) (j :: k :: js) = dyF y (k :: js) := by rw [ey]; rfl
    rw [ed]
    refine ⟨N, ?_, kN, n3, fun q hq => by rw [nO q hq, G3, Eo q hq], (uE.tr (uG.le (fun a q => by (try dsimp only at q ⊢); omega))).tr uN⟩
    show (if yw 120 ≤ yw v then _ else _) = _
    rw [le_F (by omega) (by omega) (by omega), eq_F (by omega) (by omega) (by omega) (by omega) (by omega), a_Reader_rule h1, a_RRule_days h1, p_RRule_days h1, ← ey, ← eE, a_Reader_is hE.1, eG, xcl_e, a_Reader_is wG, dn_ok2 hO hk rG (by omega), xcl_e]
    exact eN
/-- a set's days are read -/
theorem pd_ok (hO : STo O) {s : Nat} {j : Nat} {js : List Nat} (h : RT T M (tq (10 + 2 * j)) (nmF js ++ txE r) 0 n) (hs : s < 128) (es : dsL s = j :: js) (d0 : iV M 135 3 = 0) (hf : 200 ≤ f) : ∃ N, f_Reader_parseDays O f 134 M = some (1, N) ∧ EK T N r ∧ iV N 135 3 = (s : Int) ∧ (∀ q : Nat, q ≠ 3 → iV N 135 q = iV M 135 q) ∧ Un (fun a => a ≠ 134 ∧ a ≠ 135) M N := by
  obtain ⟨-, a2, a3, -, a5⟩ := ds_all s hs
  rw [es] at a2 a3 a5
  have lc : (j :: js).length = js.length + 1 := rfl
  rw [lc] at a5
  have hj : j < 7 := a3 j List.mem_cons_self
  obtain ⟨N, eN, kN, n3, nO, uN⟩ := pd_7 (f := f) hO hf js f 0 j n M h hj (fun q hq => a3 q (List.mem_cons_of_mem _ hq)) (by omega) (by omega) (by omega) (by omega)
  rw [d0, a2] at eN n3
  have sn : ¬ (s : Int) = 0 := by
    intro z
    have z' : s = 0 := by omega
    rw [z'] at es
    exact absurd es (by
      rw [show dsL 0 = [] from by decide]
      exact fun q => nomatch q)
  rw [if_neg sn] at eN
  refine ⟨N, ?_, kN, n3, nO, uN⟩
  unfold f_Reader_parseDays
  rw [a_Reader_is h.1, dn_ok2 hO hj h (by omega), xcl_e]
  exact eN
end PDS
end
