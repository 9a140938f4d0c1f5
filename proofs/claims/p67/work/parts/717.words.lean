/-! draft 717.words -/
section
/-! ===== words are known ===== -/
section RWD
variable {O : Nat → Option va_E} {f u : Nat} {M N : xM} {T W W2 B B2 K : List Int} {x tk n tk2 n2 : Int} {γ : Type}
theorem RT.i {j : Nat} (h : RT T M W B tk n) : RT T (iS M 135 j x) W B tk n := by
  obtain ⟨h1, h2, A, e, h3, h4, h5, h6⟩ := h
  exact ⟨h1, rd_i h2 (by omega) (by omega), A, e, by rw [iV_o (by omega)]; exact h3, by rw [iV_o (by omega)]; exact h4, by rw [iV_o (by omega)]; exact h5, by rw [iV_o (by omega)]; exact h6⟩
/-- what a token may be -/
def okT (W B : List Int) (tk n : Int) : Prop := isBt B ∧ ((isW W ∧ tk = 0 ∧ n = 0) ∨ (∃ v : Nat, v < 10000 ∧ W = dgs v ∧ tk = 1 ∧ n = (v : Int)) ∨ (W = [] ∧ B = [] ∧ tk = 3 ∧ n = 0))
/-- the next token -/
theorem nx_sp (h : RT T M W ([32] ++ (W2 ++ B2)) tk n) (c : okT W2 B2 tk2 n2) (hf : 200 ≤ f) : ∃ N, f_Reader_goOn O f 134 M = some ((), N) ∧ RT T N W2 B2 tk2 n2 ∧ Un (fun a => a ≠ 134) M N := by
  obtain ⟨h1, h2, A, e, h3, h4, h5, h6⟩ := h
  have e2 : T = (A ++ W) ++ ([32] ++ (W2 ++ B2)) := by rw [e, List.append_assoc]
  rw [e2] at h2
  have q := go_ok (O := O) (f := f) (P := A ++ W) (S := [32]) h1 h2 (by rw [h4, List.length_append]) (Or.inr rfl) c.1 hf c.2
  rw [← e2] at q
  exact q
/-- nothing more -/
theorem nx_end (h : RT T M W [] tk n) (hf : 200 ≤ f) : ∃ N, f_Reader_goOn O f 134 M = some ((), N) ∧ RT T N [] [] 3 0 ∧ Un (fun a => a ≠ 134) M N := by
  obtain ⟨h1, h2, A, e, h3, h4, h5, h6⟩ := h
  have e2 : T = (A ++ W) ++ ([] ++ ([] ++ [])) := by rw [e, List.append_assoc]; rfl
  rw [e2] at h2
  have q := go_ok (O := O) (f := f) (P := A ++ W) (S := []) (W := []) (B := []) h1 h2 (by rw [h4, List.length_append]) (Or.inl rfl) (Or.inl rfl) hf (Or.inr (Or.inr ⟨rfl, rfl, rfl, rfl⟩))
  rw [← e2] at q
  exact q
theorem gd_ext : ∀ {L K : List Int}, L.length = K.length → (∀ j, j < K.length → L.getD j 0 = K.getD j 0) → L = K := by
  intro L K h g
  refine List.ext_getElem h (fun j h1 h2 => ?_)
  have q := g j h2
  rw [List.getD_eq_getElem?_getD, List.getD_eq_getElem?_getD, List.getElem?_eq_getElem h1, List.getElem?_eq_getElem h2] at q
  exact q
theorem iw_27 (h : RT T M W B tk n) (hs : SG O M u K) (hl : W.length = K.length) : ∀ (r t i : Nat), i + r = K.length → r < t → (∀ j, j < i → W.getD j 0 = K.getD j 0) → f_Reader_isWord_27 O f t 134 u (i : Int) M = some ((if W = K then 1 else 0), M) := by
  obtain ⟨h1, h2, A, e, h3, h4, h5, h6⟩ := h
  have l120 := h2.2.1
  have lT : T.length = A.length + (W.length + B.length) := by rw [e, List.length_append, List.length_append]
  intro r
  induction r with
  | zero =>
    intro t i hi ht al
    obtain ⟨t, rfl⟩ : ∃ n', t = n' + 1 := ⟨t - 1, by omega⟩
    have eq : W = K := gd_ext hl (fun j hj => al j (by omega))
    show Option.bind (isO O M u 0) _ = _
    rw [hs.is, length_ok hs, xcl_e, le_T (by omega) (by omega) (by omega), if_pos eq]
  | succ r ih =>
    intro t i hi ht al
    obtain ⟨t, rfl⟩ : ∃ n', t = n' + 1 := ⟨t - 1, by omega⟩
    have gW : T.getD (A.length + i) 0 = W.getD i 0 := by rw [e]; exact gd_mid (by omega)
    have cW := h2.2.2.2 _ (getD_mem (show A.length + i < T.length by omega))
    rw [gW] at cW
    have cK := hs.chr (j := i) (by omega)
    show Option.bind (isO O M u 0) _ = _
    rw [hs.is, length_ok hs, xcl_e, le_F (by omega) (by omega) (by omega), a_Reader_start h1, h3, a_Reader_is h1, sa_in h1 h2 (by omega) (by omega), xcl_e, show ((A.length : Int) + (i : Int)).toNat = A.length + i by omega, gW, hs.is, charAt_ok hs (by omega) (by omega), xcl_e, Int.toNat_natCast]
    by_cases c : W.getD i 0 = K.getD i 0
    · rw [eq_T c]
      have q := ih t (i + 1) (by omega) (by omega) (fun j hj => by
        by_cases z : j = i
        · rw [z]
          exact c
        · exact al j (by omega))
      rw [show ((i + 1 : Nat) : Int) = (i : Int) + 1 by omega] at q
      exact q
    · rw [eq_F c (by omega) (by omega) (by omega) (by omega), if_neg (fun z => c (by rw [z]))]
theorem iw_ok (h : RT T M W B tk n) (hs : SG O M u K) (hf : 200 ≤ f) : f_Reader_isWord O f 134 u M = some ((if tk = 0 ∧ W = K then 1 else 0), M) := by
  have h' := h
  obtain ⟨h1, h2, A, e, h3, h4, h5, h6⟩ := h'
  have l120 := h2.2.1
  have lT : T.length = A.length + (W.length + B.length) := by rw [e, List.length_append, List.length_append]
  have lK := hs.2.2.2.1
  have r5 := iV_r M 134 5
  unfold f_Reader_isWord
  rw [a_Reader_token h1, h5]
  rw [h5] at r5
  by_cases c : tk = 0
  · rw [eq_T c, a_Reader_end h1, h4, a_Reader_start h1, h3, hs.is, length_ok hs, xcl_e]
    by_cases l : W.length = K.length
    · rw [eq_T (by omega)]
      have q := iw_27 (f := f) h hs l K.length f 0 (by omega) (by omega) (fun j hj => absurd hj (Nat.not_lt_zero _))
      by_cases z : W = K
      · rw [if_pos z] at q
        rw [if_pos ⟨c, z⟩]
        exact q
      · rw [if_neg z] at q
        rw [if_neg (fun y => z y.2)]
        exact q
    · rw [eq_F (by omega) (by omega) (by omega) (by omega) (by omega), if_neg (fun y => l (by rw [y.2]))]
  · rw [eq_F c (by omega) (by omega) (by omega) (by omega), if_neg (fun y => c y.1)]
theorem tk_no (h : RT T M W B tk n) (hs : SG O M u K) (ne : tk ≠ 0 ∨ W ≠ K) (hf : 200 ≤ f) : f_Reader_takes O f 134 u M = some (0, M) := by
  unfold f_Reader_takes
  have e : (if tk = 0 ∧ W = K then (1 : Int) else 0) = 0 := if_neg (fun y => ne.elim (fun z => z y.1) (fun z => z y.2))
  rw [a_Reader_is h.1, iw_ok h hs hf, xcl_e, e, eq_T rfl]
theorem tk_yes (h : RT T M K B 0 n) (hs : SG O M u K) (g : f_Reader_goOn O f 134 M = some ((), N)) (hf : 200 ≤ f) : f_Reader_takes O f 134 u M = some (1, N) := by
  unfold f_Reader_takes
  have e : (if (0 : Int) = 0 ∧ K = K then (1 : Int) else 0) = 1 := if_pos ⟨rfl, rfl⟩
  rw [a_Reader_is h.1, iw_ok h hs hf, xcl_e, e, eq_F (by omega) (by omega) (by omega) (by omega) (by omega), a_Reader_is h.1, g, xcl_e]
theorem in_ok {a b : Int} (h : RT T M W B tk n) (a0 : -1000 ≤ a) (a1 : a ≤ 100000000) (b0 : -1000 ≤ b) (b1 : b ≤ 100000000) : f_Reader_isNumber O f 134 a b M = some ((if tk = 1 ∧ a ≤ n ∧ n ≤ b then 1 else 0), M) := by
  obtain ⟨h1, h2, A, e, h3, h4, h5, h6⟩ := h
  have r5 := iV_r M 134 5
  have r6 := iV_r M 134 6
  unfold f_Reader_isNumber
  rw [a_Reader_token h1]
  rw [h5] at r5 ⊢
  by_cases c : tk = 1
  · rw [eq_T c, a_Reader_number h1]
    rw [h6] at r6 ⊢
    by_cases c2 : n < a
    · rw [lt_T c2 (by omega) (by omega), if_neg (by omega)]
    rw [lt_F (by omega) (by omega) (by omega), a_Reader_number h1, h6]
    by_cases c3 : b < n
    · rw [lt_T c3 (by omega) (by omega), if_neg (by omega)]
    · rw [lt_F (by omega) (by omega) (by omega), if_pos ⟨c, by omega, by omega⟩]
  · rw [eq_F c (by omega) (by omega) (by omega) (by omega), if_neg (fun y => c y.1)]
theorem in_yes {a b : Int} (h : RT T M W B 1 n) (a0 : -1000 ≤ a) (a1 : a ≤ 100000000) (b0 : -1000 ≤ b) (b1 : b ≤ 100000000) (c0 : a ≤ n) (c1 : n ≤ b) : f_Reader_isNumber O f 134 a b M = some (1, M) := by
  rw [in_ok h a0 a1 b0 b1, if_pos ⟨rfl, c0, c1⟩]
theorem in_no {a b : Int} (h : RT T M W B tk n) (ne : tk ≠ 1) (a0 : -1000 ≤ a) (a1 : a ≤ 100000000) (b0 : -1000 ≤ b) (b1 : b ≤ 100000000) : f_Reader_isNumber O f 134 a b M = some (0, M) := by
  rw [in_ok h a0 a1 b0 b1, if_neg (fun y => ne y.1)]
/-! weekdays by name -/
theorem dn_no (h : RT T M W B tk n) (ne : tk ≠ 0 ∨ W.length ≠ 2) : f_Reader_dayName O f 134 M = some (-1, M) := by
  obtain ⟨h1, h2, A, e, h3, h4, h5, h6⟩ := h
  have l120 := h2.2.1
  have lT : T.length = A.length + (W.length + B.length) := by rw [e, List.length_append, List.length_append]
  have r5 := iV_r M 134 5
  unfold f_Reader_dayName
  rw [a_Reader_token h1]
  rw [h5] at r5 ⊢
  by_cases c : tk = 0
  · have ne := ne.resolve_left (fun z => z c)
    rw [eq_T c, a_Reader_end h1, h4, a_Reader_start h1, h3, eq_F (by omega) (by omega) (by omega) (by omega) (by omega)]
  · rw [eq_F c (by omega) (by omega) (by omega) (by omega)]
theorem tq_days : ∀ k : Nat, k < 7 → (tq (10 + 2 * k)).length = 2 ∧ isW (tq (10 + 2 * k)) ∧ (tq 64).getD (2 * k) 0 = (tq (10 + 2 * k)).getD 0 0 ∧ (tq 64).getD (2 * k + 1) 0 = (tq (10 + 2 * k)).getD 1 0 := by
  unfold isW
  decide +kernel
theorem tq_first : ∀ k : Nat, k < 7 → ∀ j : Nat, j < 7 → j < k → (tq (10 + 2 * k)).getD 0 0 = (tq (10 + 2 * j)).getD 0 0 → (tq (10 + 2 * k)).getD 1 0 ≠ (tq (10 + 2 * j)).getD 1 0 := by decide +kernel
theorem dn_24 (hO : STo O) {k : Nat} (hk : k < 7) (h : RT T M (tq (10 + 2 * k)) B 0 n) : ∀ (r t j : Nat), j + r = k → r < t → f_Reader_dayName_24 O f t 134 (j : Int) M = some ((k : Int), M) := by
  obtain ⟨h1, h2, A, e, h3, h4, h5, h6⟩ := h
  have s64 : SG O M 1000000064 (tq 64) := hO 64 (by decide) M
  have l64 : (tq 64).length = 14 := rfl
  obtain ⟨l2, -, k0, k1⟩ := tq_days k hk
  have l120 := h2.2.1
  have lT : T.length = A.length + ((tq (10 + 2 * k)).length + B.length) := by rw [e, List.length_append, List.length_append]
  have g0 : T.getD A.length 0 = (tq (10 + 2 * k)).getD 0 0 := by
    have := gd_mid (A := A) (W := tq (10 + 2 * k)) (B := B) (k := 0) (by omega)
    rw [Nat.add_zero] at this
    rw [e]
    exact this
  have g1 : T.getD (A.length + 1) 0 = (tq (10 + 2 * k)).getD 1 0 := by
    rw [e]
    exact gd_mid (by omega)
  have c0 := h2.2.2.2 _ (getD_mem (show A.length < T.length by omega))
  have c1 := h2.2.2.2 _ (getD_mem (show A.length + 1 < T.length by omega))
  rw [g0] at c0
  rw [g1] at c1
  intro r
  induction r with
  | zero =>
    intro t j hj ht
    obtain ⟨t, rfl⟩ : ∃ n', t = n' + 1 := ⟨t - 1, by omega⟩
    obtain rfl : j = k := by omega
    show (if yw 7 ≤ yw (j : Int) then _ else _) = _
    rw [le_F (by omega) (by omega) (by omega), a_Reader_start h1, h3, a_Reader_is h1, sa_in h1 h2 (by omega) (by omega), xcl_e, Int.toNat_natCast, g0, s64.is, charAt_ok s64 (by omega) (by rw [l64]; omega), xcl_e, show (2 * (j : Int)).toNat = 2 * j by omega, k0, eq_T rfl, a_Reader_start h1, h3, a_Reader_is h1, sa_in h1 h2 (by omega) (by omega), xcl_e, show ((A.length : Int) + 1).toNat = A.length + 1 by omega, g1, s64.is, charAt_ok s64 (by omega) (by rw [l64]; omega), xcl_e, show (2 * (j : Int) + 1).toNat = 2 * j + 1 by omega, k1, eq_T rfl]
  | succ r ih =>
    intro t j hj ht
    obtain ⟨t, rfl⟩ : ∃ n', t = n' + 1 := ⟨t - 1, by omega⟩
    have q := ih t (j + 1) (by omega) (by omega)
    rw [show ((j + 1 : Nat) : Int) = (j : Int) + 1 by omega] at q
    obtain ⟨m2, -, j0, j1⟩ := tq_days j (by omega)
    have tf := tq_first k hk j (by omega) (by omega)
    have d0 := s64.chr (j := 2 * j) (by rw [l64]; omega)
    have d1 := s64.chr (j := 2 * j + 1) (by rw [l64]; omega)
    rw [j0] at d0
    rw [j1] at d1
    show (if yw 7 ≤ yw (j : Int) then _ else _) = _
    rw [le_F (by omega) (by omega) (by omega), a_Reader_start h1, h3, a_Reader_is h1, sa_in h1 h2 (by omega) (by omega), xcl_e, Int.toNat_natCast, g0, s64.is, charAt_ok s64 (by omega) (by rw [l64]; omega), xcl_e, show (2 * (j : Int)).toNat = 2 * j by omega, j0]
    by_cases c : (tq (10 + 2 * k)).getD 0 0 = (tq (10 + 2 * j)).getD 0 0
    · have n1 := tf c
      rw [eq_T c, a_Reader_start h1, h3, a_Reader_is h1, sa_in h1 h2 (by omega) (by omega), xcl_e, show ((A.length : Int) + 1).toNat = A.length + 1 by omega, g1, s64.is, charAt_ok s64 (by omega) (by rw [l64]; omega), xcl_e, show (2 * (j : Int) + 1).toNat = 2 * j + 1 by omega, j1, eq_F n1 (by omega) (by omega) (by omega) (by omega)]
      exact q
    · rw [eq_F c (by omega) (by omega) (by omega) (by omega)]
      exact q
theorem dn_ok2 (hO : STo O) {k : Nat} (hk : k < 7) (h : RT T M (tq (10 + 2 * k)) B 0 n) (hf : 20 ≤ f) : f_Reader_dayName O f 134 M = some ((k : Int), M) := by
  have h' := h
  obtain ⟨h1, h2, A, e, h3, h4, h5, h6⟩ := h'
  obtain ⟨l2, -⟩ := tq_days k hk
  have q := dn_24 (f := f) hO hk h k f 0 (by omega) (by omega)
  unfold f_Reader_dayName
  rw [a_Reader_token h1, h5, eq_T rfl, a_Reader_end h1, h4, a_Reader_start h1, h3, eq_T (by omega)]
  exact q
end RWD
end
