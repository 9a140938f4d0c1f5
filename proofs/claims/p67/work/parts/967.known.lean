/-! ===== the old objects, and what is known of them ===== -/
def gO (L : Nat) (xs : Nat → Int32) : Nat → Option va_E := fun j => if j = 0 then some (.inl (0, L, .inl xs)) else if j = 1 then some (.inl (0, 9, .inl (fun i => yw (mvs.getD i 0)))) else if j = 2 then some (.inl (3, 100, .inl (fun i => yw (tens.getD i 0)))) else if j = 3 then some (.inl (3, 100, .inl (fun i => yw (ones.getD i 0)))) else if j < 10 then none else if j < 72 then (if j % 2 = 0 then some (.inr (0, [.ref (1000000000 + (j + 1)), .int 0])) else some (.inl (3, (tq (j - 1)).length, .inl (fun i => yw ((tq (j - 1)).getD i 0))))) else none
/-- where they lie: the script, three rows, the formatter (0: null), the texts -/
def gad (b m t o z : Nat) (Q : Nat → Nat × Nat) : Nat → Nat := fun j => if j = 0 then b else if j = 1 then m else if j = 2 then t else if j = 3 then o else if j = 4 then z else if j % 2 = 0 then (Q ((j - 10) / 2)).1 else (Q ((j - 11) / 2)).2
section KNO
variable {L : Nat} {xs : Nat → Int32} {s : State} {args : Array Value} {b m t o z : Nat} {Q : Nat → Nat × Nat}
theorem gO_s {j : Nat} (h0 : 10 ≤ j) (h1 : j < 72) (h2 : j % 2 = 0) : gO L xs j = some (.inr (0, [.ref (1000000000 + (j + 1)), .int 0])) := by
  unfold gO
  rw [if_neg (by omega), if_neg (by omega), if_neg (by omega), if_neg (by omega), if_neg (by omega), if_pos h1, if_pos h2]
theorem gO_b {j : Nat} (h0 : 10 ≤ j) (h1 : j < 72) (h2 : ¬ j % 2 = 0) : gO L xs j = some (.inl (3, (tq (j - 1)).length, .inl (fun i => yw ((tq (j - 1)).getD i 0)))) := by
  unfold gO
  rw [if_neg (by omega), if_neg (by omega), if_neg (by omega), if_neg (by omega), if_neg (by omega), if_pos h1, if_neg h2]
theorem sto_ids : ∀ k, k ∈ [10, 12, 14, 16, 18, 20, 22, 24, 26, 28, 30, 32, 34, 36, 38, 40, 42, 44, 46, 48, 50, 52, 54, 56, 58, 60, 62, 64, 66, 68, 70] → 10 ≤ k ∧ k < 71 ∧ k % 2 = 0 := by decide
theorem gO_sto : STo (gO L xs) := by
  intro k hk M
  obtain ⟨k0, k1, k2⟩ := sto_ids k hk
  have e1 : gO L xs k = _ := gO_s k0 (by omega) k2
  have e2 : gO L xs (k + 1) = _ := gO_b (by omega) (by omega) (by omega)
  rw [Nat.add_sub_cancel] at e2
  have len : (tq k).length < 1000 := by
    have := tq_lens ((k - 10) / 2) (by omega)
    rw [show 10 + 2 * ((k - 10) / 2) = k by omega] at this
    exact this
  have ch : ∀ x, x ∈ tq k → 0 ≤ x ∧ x ≤ 127 := fun x hx => by
    have := tq_all k (by omega) x hx
    omega
  refine ⟨⟨_, hp_old_at.trans e1, ?_, rfl⟩, ⟨fun i => yw ((tq k).getD i 0), ?_, fun i hi => ?_⟩, ch, by omega, Or.inr (by omega)⟩
  · show some (Value.ref (1000000000 + (k + 1))) = some (Value.ref (1000000000 + k + 1))
    rw [Nat.add_assoc]
  · show xrd (gO L xs) (hp M) (1000000000 + k + 1) = _
    rw [Nat.add_assoc, hp_old_at]
    exact e2
  · have := ch _ (getD_mem hi)
    exact yw_to ⟨by omega, by omega⟩
theorem tens_v : ∀ i : Nat, i < 100 → tens.getD i 0 = 48 + ((i / 10 : Nat) : Int) ∧ ones.getD i 0 = 48 + ((i % 10 : Nat) : Int) := by decide +kernel
theorem gO_dgo : DGo (gO L xs) := by
  refine ⟨fun i => yw (tens.getD i 0), fun i => yw (ones.getD i 0), rfl, rfl, fun i hi => ?_⟩
  obtain ⟨a, c⟩ := tens_v i hi
  dsimp only
  rw [a, c]
  exact ⟨yw_to ⟨by omega, by omega⟩, yw_to ⟨by omega, by omega⟩⟩
theorem mvs_r : ∀ i : Nat, i < 9 → -120 ≤ mvs.getD i 0 ∧ mvs.getD i 0 ≤ 120 := by decide +kernel
theorem gO_mv : MV (gO L xs) := by
  intro M _
  have e : gO L xs 1 = some (.inl (0, 9, .inl (fun i => yw (mvs.getD i 0)))) := rfl
  refine ⟨o_aNN (k := 1) e (by decide), fun i hi => ?_⟩
  have r := mvs_r i hi
  have q := o_aI (M := M) (i := (i : Int)) (k := 1) e (by omega) (by omega) (by omega)
  rw [Int.toNat_natCast, yw_to ⟨by omega, by omega⟩] at q
  exact q
theorem gO_sc (h : L ≤ 260) : SCo (gO L xs) L := ⟨h, xs, rfl⟩
/-- the old cells are in the machine's heap -/
theorem gxO {dA : Nat → ClassId} {D : va_G} (hX : va_X b L xs s s.heap) (hm : Rw s m 9 .int (fun i => yw (mvs.getD i 0))) (ht : Rw s t 100 .byte (fun i => yw (tens.getD i 0))) (ho : Rw s o 100 .byte (fun i => yw (ones.getD i 0))) (hQ : ∀ i : Nat, i < 31 → St s (Q i).1 (Q i).2 (tq (10 + 2 * i))) : xO (gad b m t o z Q) s.heap.size dA D (gO L xs) s s.heap := by
  have row : ∀ (a n ty : Nat) (f : Nat → Int32), ty < 12 → Rw s a n (xT.getD ty .int) f → a < s.heap.size ∧ (ty < 12 ∧ ∃ cell : Cell, s.heap[a]? = some cell ∧ s.isArrayOf cell (xT.getD ty .int) ∧ cell.vm ≠ .unknown ∧ cell.slots.size = n ∧ ∀ i, i < n → cell.slots[i]? = some (.int (f i))) := fun a n ty f hty h => by
    obtain ⟨cell, h1, h2, h3, h4, h5⟩ := h
    exact ⟨(Array.getElem?_eq_some_iff.mp h1).1, hty, cell, h1, h2, h3, h4, h5⟩
  intro j x hj
  unfold gO at hj
  split at hj
  · next e =>
    cases hj
    rw [show gad b m t o z Q j = b from if_pos e]
    exact row b L 0 xs (by decide) hX
  split at hj
  · next e0 e =>
    cases hj
    rw [show gad b m t o z Q j = m by unfold gad; rw [if_neg e0, if_pos e]]
    exact row m 9 0 _ (by decide) hm
  split at hj
  · next e0 e1 e =>
    cases hj
    rw [show gad b m t o z Q j = t by unfold gad; rw [if_neg e0, if_neg e1, if_pos e]]
    exact row t 100 3 _ (by decide) ht
  split at hj
  · next e0 e1 e2 e =>
    cases hj
    rw [show gad b m t o z Q j = o by unfold gad; rw [if_neg e0, if_neg e1, if_neg e2, if_pos e]]
    exact row o 100 3 _ (by decide) ho
  split at hj
  · cases hj
  split at hj
  · next e0 e1 e2 e3 e4 e5 =>
    split at hj
    · next ev =>
      cases hj
      have ga : gad b m t o z Q j = (Q ((j - 10) / 2)).1 := by
        unfold gad
        rw [if_neg e0, if_neg e1, if_neg e2, if_neg e3, if_neg (by omega), if_pos ev]
      have gb : gad b m t o z Q (j + 1) = (Q ((j - 10) / 2)).2 := by
        unfold gad
        rw [if_neg (by omega), if_neg (by omega), if_neg (by omega), if_neg (by omega), if_neg (by omega), if_neg (by omega), show j + 1 - 11 = j - 10 by omega]
      obtain ⟨s1, s2, s3, -⟩ := hQ ((j - 10) / 2) (by omega)
      rw [ga]
      obtain ⟨cell, c1, c2, c3, -⟩ := s1
      refine ⟨(Array.getElem?_eq_some_iff.mp c1).1, RJ0, TJ0, 4, rfl, ⟨cell, c1, c2, c3⟩, fun i v hv => ?_⟩
      match i, hv with
      | 0, hv =>
        cases hv
        have xe : xv s.heap.size (gad b m t o z Q) (.ref (1000000000 + (j + 1))) = .ref (Q ((j - 10) / 2)).2 := by
          show Value.ref (xr s.heap.size (gad b m t o z Q) (1000000000 + (j + 1))) = _
          rw [xr_old (by omega), Nat.add_sub_cancel_left, gb]
        rw [xe]
        exact s3
      | 1, hv =>
        cases hv
        exact s2
      | i + 2, hv => cases hv
    · next od =>
      cases hj
      have ga : gad b m t o z Q j = (Q ((j - 11) / 2)).2 := by
        unfold gad
        rw [if_neg e0, if_neg e1, if_neg e2, if_neg e3, if_neg (by omega), if_neg od]
      obtain ⟨-, -, -, s4⟩ := hQ ((j - 11) / 2) (by omega)
      rw [show 10 + 2 * ((j - 11) / 2) = j - 1 by omega] at s4
      rw [ga]
      exact row _ _ 3 _ (by decide) s4
  · cases hj
/-! arrays and classes -/
theorem ga_of {ty : FieldType} (h : (Jvm.Cond.arrayClass ty).before args s = true) : ∃ cA, ArrOfT s cA ty ∧ s.vm.findClass ("[" ++ ty.toString) = some cA := by
  obtain ⟨c, k, comp, h1, h2, h3⟩ := Cond.arrayClass_spec h
  exact ⟨c, fun n z => ⟨fun k h => (by cases h), k, h2, comp, h3⟩, h1⟩
theorem go_of {C : String} (h : (Jvm.Cond.arrayOver (.object C)).before args s = true) : ∃ cA, ArrOfT s cA (.object C) ∧ va_RA s cA (.object C) := by
  obtain ⟨comp, c, k, h1, -, h2, h3, h4⟩ := Cond.arrayOver_spec h
  exact ⟨c, fun n z => ⟨fun k h => (by cases h), k, h2, comp, h3⟩, k, comp, h2, h3, h1, h4⟩
theorem gdA (hts : ∀ w, w ∈ lw_tbx → w.before args s = true) : ∃ dA : Nat → ClassId, (∀ t, t < 12 → ArrOfT s (dA t) (xT.getD t .int) ∧ va_RA s (dA t) (xT.getD t .int)) ∧ ∃ kA : Class, s.vm.classes[dA 5]? = some kA ∧ kA.kind = .array (dA 0) (.array .int) := by
  obtain ⟨comp, c5, k5, h1, -, h2, h3, h4⟩ := arrayOverA_spec (hts _ go_arr)
  have h0 : ∀ t : Nat, ∃ c : ClassId, (t < 12 → ArrOfT s c (xT.getD t .int) ∧ va_RA s c (xT.getD t .int)) := by
    intro t
    match t with
    | 0 => obtain ⟨c, a, f⟩ := ga_of (hts _ ga_int); exact ⟨c, fun _ => ⟨a, f⟩⟩
    | 1 => obtain ⟨c, a, f⟩ := ga_of (hts _ ga_long); exact ⟨c, fun _ => ⟨a, f⟩⟩
    | 2 => obtain ⟨c, a, f⟩ := ga_of (hts _ ga_boolean); exact ⟨c, fun _ => ⟨a, f⟩⟩
    | 3 => obtain ⟨c, a, f⟩ := ga_of (hts _ ga_byte); exact ⟨c, fun _ => ⟨a, f⟩⟩
    | 4 => obtain ⟨c, a, f⟩ := ga_of (hts _ ga_char); exact ⟨c, fun _ => ⟨a, f⟩⟩
    | 5 => exact ⟨c5, fun _ => ⟨fun n z => ⟨fun k h => (by cases h), k5, h2, comp, h3⟩, h4⟩⟩
    | 6 => obtain ⟨c, a, f⟩ := go_of (hts _ go_6); exact ⟨c, fun _ => ⟨a, f⟩⟩
    | 7 => obtain ⟨c, a, f⟩ := go_of (hts _ go_7); exact ⟨c, fun _ => ⟨a, f⟩⟩
    | 8 => obtain ⟨c, a, f⟩ := go_of (hts _ go_8); exact ⟨c, fun _ => ⟨a, f⟩⟩
    | 9 => obtain ⟨c, a, f⟩ := go_of (hts _ go_9); exact ⟨c, fun _ => ⟨a, f⟩⟩
    | 10 => obtain ⟨c, a, f⟩ := go_of (hts _ go_10); exact ⟨c, fun _ => ⟨a, f⟩⟩
    | 11 => obtain ⟨c, a, f⟩ := go_of (hts _ go_11); exact ⟨c, fun _ => ⟨a, f⟩⟩
    | n + 12 => exact ⟨c5, fun h => absurd h (by omega)⟩
  obtain ⟨dA, hd⟩ := Classical.axiomOfChoice h0
  refine ⟨dA, hd, k5, ?_, ?_⟩
  · have q : s.vm.findClass ("[" ++ (FieldType.array .int).toString) = some (dA 5) := (hd 5 (by decide)).2
    cases h4.symm.trans q
    exact h2
  · have q : s.vm.findClass ("[" ++ FieldType.int.toString) = some (dA 0) := (hd 0 (by decide)).2
    have e : (FieldType.array .int).toString = "[" ++ FieldType.int.toString := rfl
    rw [e] at h1
    cases h1.symm.trans q
    exact h3
theorem gD (hts : ∀ w, w ∈ lw_tbx → w.before args s = true) : ∃ D : va_G, ∀ (c : Nat) (q : vw_C), vwCl[c]? = some q → u_Kn s q.1 q.2.1 q.2.2 (D.1 c) (D.2 c) := by
  have h0 : ∀ c : Nat, ∃ p : ClassId × (Nat → Nat), ∀ q : vw_C, vwCl[c]? = some q → u_Kn s q.1 q.2.1 q.2.2 p.1 p.2 := by
    intro c
    cases h : vwCl[c]? with
    | none => exact ⟨(0, fun _ => 0), fun q hq => by cases hq⟩
    | some r =>
      obtain ⟨h1, ⟨n, h2⟩, -⟩ := gcl_all c r h
      obtain ⟨cC, iS, hK⟩ := u_known (ws := xW) (C := r.1) (T := r.2.1) (N := r.2.2) (n := n) (fun w hw => hts w (xW_in hw)) h1 (hts _ (xW_in h2))
      exact ⟨(cC, iS), fun q hq => by cases hq; exact hK⟩
  obtain ⟨P, hP⟩ := Classical.axiomOfChoice h0
  exact ⟨(fun c => (P c).1, fun c => (P c).2), hP⟩
end KNO
