/-! ===== what the start gives of its heap ===== -/
/-- a row of numbers lies there -/
def Rw (s : State) (a n : Nat) (ty : FieldType) (f : Nat → Int32) : Prop := ∃ cell : Cell, s.heap[a]? = some cell ∧ s.isArrayOf cell ty ∧ cell.vm ≠ .unknown ∧ cell.slots.size = n ∧ ∀ i, i < n → cell.slots[i]? = some (.int (f i))
section GLU
variable {args : Array Value} {s : State}
theorem eq_ref {t1 t2 : Term} {a : Nat} (h : (Jvm.Cond.eq t1 t2).before args s = true) (h1 : t1.eval args s none [] s = some (.ref a)) : t2.eval args s none [] s = some (.ref a) := by
  cases hv : t2.eval args s none [] s with
  | none => simp [Cond.before, Cond.holds, Cond.value, h1, hv] at h
  | some w =>
    simp only [Cond.before, Cond.holds, Cond.value, h1, hv] at h
    cases w <;> simp_all
theorem isRef_ev {t : Term} (h : (Jvm.Cond.isRef t).before args s = true) : t.eval args s none [] s = some .null ∨ ∃ a, t.eval args s none [] s = some (.ref a) := by
  cases hv : t.eval args s none [] s with
  | none => simp [Cond.before, Cond.holds, Cond.value, hv] at h
  | some w =>
    simp only [Cond.before, Cond.holds, Cond.value, hv] at h
    cases w with
    | null => exact Or.inl rfl
    | ref a => exact Or.inr ⟨a, rfl⟩
    | _ => simp [Value.isRef] at h
theorem rw_of {tm : Term} {ty : FieldType} {L : List Int} (hL : L.length < 2147483648) (harr : (Jvm.Cond.arrayOf tm ty).before args s = true) (hlen : (Jvm.Cond.eq (.length tm) (.int (Int32.ofNat L.length))).before args s = true) (hel : ∀ j, j < L.length → (Jvm.Cond.eq (.elem tm (.int (Int32.ofNat j))) (.int (yw (L.getD j 0)))).before args s = true) : ∃ t, tm.eval args s none [] s = some (.ref t) ∧ Rw s t L.length ty (fun i => yw (L.getD i 0)) := by
  have hl := va_eqt hlen
  obtain ⟨t, ht, cell, h1, h2, h3, h4, h5, h6, -⟩ := va_Tof (f := fun j => .int (yw (L.getD j 0))) (A := fun q => s.heap.size ≤ q) (show L.length < 2 ^ 31 by omega) harr hl (fun j hj => va_eqt (hel j hj)) (fun a ha => Nat.not_le.mpr ha)
  obtain ⟨t2, cell2, ht2, hat2, hv⟩ := Term.length_spec hl
  cases ht.symm.trans ht2
  obtain ⟨hc2, -⟩ := State.arrayAt?_spec hat2
  cases h1.symm.trans hc2
  have hsz : cell.slots.size < 2147483648 := by
    simp only [Term.eval, ht2, hat2, Option.bind_eq_bind, Option.bind_some] at hl
    by_cases hlt : cell.slots.size < 2147483648
    · exact hlt
    · simp [hlt] at hl
  have e : (Int32.ofNat cell.slots.size).toInt = (Int32.ofNat L.length).toInt := congrArg Int32.toInt h5
  rw [Int32.toInt_ofNat_of_lt hsz, Int32.toInt_ofNat_of_lt hL] at e
  exact ⟨t, ht, cell, h1, h2, h3, by omega, h6⟩
theorem take_in {F W : List Jvm.Cond} {p n : Nat} (h : (F.drop p).take n = W) : ∀ c, c ∈ W → c ∈ F := fun c hc => by
  rw [← h] at hc
  exact List.mem_of_mem_drop (List.mem_of_mem_take hc)
theorem row_at (hn : ∀ c, c ∈ FLn → c.before args s = true) {C n d : String} {ty : FieldType} {L : List Int} (hL : L.length < 2147483648) (hW : ∀ c, c ∈ rowW C n d ty L → c ∈ FLn) : ∃ t, (Term.static C n d).eval args s none [] s = some (.ref t) ∧ Rw s t L.length ty (fun i => yw (L.getD i 0)) := by
  refine rw_of hL (hn _ (hW _ ?_)) (hn _ (hW _ ?_)) (fun j hj => hn _ (hW _ ?_))
  · exact List.mem_append_left _ List.mem_cons_self
  · exact List.mem_append_left _ (List.mem_cons_of_mem _ List.mem_cons_self)
  · exact List.mem_append_right _ (List.mem_map.mpr ⟨j, List.mem_range.mpr hj, rfl⟩)
/-- a String lies there: its bytes -/
def St (s : State) (a t : Nat) (L : List Int) : Prop := va_O "java/lang/String" a (fun q => s.heap.size ≤ q) s s.heap ∧ va_OF "java/lang/String" "coder" "B" (.int 0) a (fun q => s.heap.size ≤ q) s s.heap ∧ va_OF "java/lang/String" "value" "[B" (.ref t) a (fun q => s.heap.size ≤ q) s s.heap ∧ Rw s t L.length .byte (fun i => yw (L.getD i 0))
theorem str_at (hn : ∀ c, c ∈ FLn → c.before args s = true) {o : String} {k : Nat} {L : List Int} (hL : L.length < 2147483648) (hW : ∀ c, c ∈ strW o k L → c ∈ FLn) : ∃ q : Nat × Nat, (Term.string o k).eval args s none [] s = some (.ref q.1) ∧ St s q.1 q.2 L := by
  have hA : ∀ a : Nat, a < s.heap.size → ¬ (fun q => s.heap.size ≤ q) a := fun a ha => Nat.not_le.mpr ha
  have h0 := hn _ (hW (.exactly (.string o k) "java/lang/String") (List.mem_append_left _ List.mem_cons_self))
  have h1 := hn _ (hW (.eq (.field (.string o k) "java/lang/String" "coder" "B") (.int 0)) (List.mem_append_left _ (List.mem_cons_of_mem _ List.mem_cons_self)))
  have h2 := hn _ (hW (.arrayOf (.field (.string o k) "java/lang/String" "value" "[B") .byte) (List.mem_append_left _ (List.mem_cons_of_mem _ (List.mem_cons_of_mem _ List.mem_cons_self))))
  have h3 := hn _ (hW (.eq (.length (.field (.string o k) "java/lang/String" "value" "[B")) (.int (Int32.ofNat L.length))) (List.mem_append_left _ (List.mem_cons_of_mem _ (List.mem_cons_of_mem _ (List.mem_cons_of_mem _ List.mem_cons_self)))))
  obtain ⟨a, c, cA, kA, q1, q2, q3, q4, q5, q6, -⟩ := Cond.exactly_spec (args := args) (first := s) (o := none) (s := s) (idx := []) (t := .string o k) (cls := "java/lang/String") h0
  obtain ⟨t, ht, hT⟩ := rw_of hL h2 h3 (fun j hj => hn _ (hW _ (List.mem_append_right _ (List.mem_map.mpr ⟨j, List.mem_range.mpr hj, rfl⟩))))
  exact ⟨(a, t), q1, ⟨cA, q3, q5, by rw [q6]; exact q2, hA a (Array.getElem?_eq_some_iff.mp q3).1⟩, vk_OFof q1 (va_eqt h1) hA, vk_OFof q1 ht hA, hT⟩
theorem tq_lens : ∀ i : Nat, i < 31 → (tq (10 + 2 * i)).length < 1000 := by decide +kernel
/-- all texts -/
theorem strs_at (hn : ∀ c, c ∈ FLn → c.before args s = true) : ∃ Q : Nat → Nat × Nat, ∀ i : Nat, i < 31 → ∃ r, stP[i]? = some r ∧ (Term.string r.1 r.2.1).eval args s none [] s = some (.ref (Q i).1) ∧ St s (Q i).1 (Q i).2 (tq (10 + 2 * i)) := by
  have h0 : ∀ i : Nat, ∃ q : Nat × Nat, i < 31 → ∃ r, stP[i]? = some r ∧ (Term.string r.1 r.2.1).eval args s none [] s = some (.ref q.1) ∧ St s q.1 q.2 (tq (10 + 2 * i)) := by
    intro i
    by_cases hi : i < 31
    · have c := List.all_eq_true.mp gsp_all i (List.mem_range.mpr hi)
      have l := tq_lens i hi
      (try dsimp only at c)
      split at c
      · next r hr =>
        obtain ⟨q, q1, q2⟩ := str_at hn (show (tq (10 + 2 * i)).length < 2147483648 by omega) (take_in (of_decide_eq_true c))
        exact ⟨q, fun _ => ⟨r, hr, q1, q2⟩⟩
      · cases c
    · exact ⟨(0, 0), fun h => absurd h hi⟩
  obtain ⟨Q, hQ⟩ := Classical.axiomOfChoice h0
  exact ⟨Q, hQ⟩
/-- every constant is its text's object -/
theorem str_all {Q : Nat → Nat × Nat} (hn : ∀ c, c ∈ FLn → c.before args s = true) (hQ : ∀ i : Nat, i < 31 → ∃ r, stP[i]? = some r ∧ (Term.string r.1 r.2.1).eval args s none [] s = some (.ref (Q i).1) ∧ St s (Q i).1 (Q i).2 (tq (10 + 2 * i))) : ∀ q, q ∈ xStr → (10 ≤ q.2.2.2 ∧ q.2.2.2 < 72 ∧ q.2.2.2 % 2 = 0) ∧ (Term.string q.1 q.2.1).eval args s none [] s = some (.ref (Q ((q.2.2.2 - 10) / 2)).1) := by
  intro q hq
  have hid := of_decide_eq_true (List.all_eq_true.mp gid_all q hq)
  refine ⟨hid, ?_⟩
  obtain ⟨k, hk, e⟩ := List.mem_iff_getElem.mp hq
  have c := List.all_eq_true.mp geq_all k (List.mem_range.mpr hk)
  (try dsimp only at c)
  rw [List.getElem?_eq_getElem hk, e] at c
  obtain ⟨r, hr, ev, -⟩ := hQ ((q.2.2.2 - 10) / 2) (by omega)
  dsimp only at c
  rw [hr] at c
  dsimp only at c
  rw [Bool.or_eq_true] at c
  rcases c with c | c
  · obtain ⟨c1, c2⟩ := of_decide_eq_true c
    rw [c1, c2]
    exact ev
  · exact eq_ref (hn _ (List.mem_of_getElem? (of_decide_eq_true c))) ev
end GLU
