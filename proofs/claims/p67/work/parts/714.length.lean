/-! draft 714.length -/
section
/-! ===== a rule's text is short ===== -/
section TXL
variable {r : Nat → Int}
theorem txE_len : (txE r).length ≤ 11 := by
  have d := dgs_len (v := (r 6).toNat)
  unfold txE
  split
  · rw [List.length_append]
    show 5 + _ ≤ 11
    omega
  · split
    · rw [List.length_append]
      show 7 + _ ≤ 11
      omega
    · decide
theorem txP3_len : (txP3 r).length ≤ 8 := by
  have d := dgs_len (v := (r 4).toNat)
  have d2 := dgs_len (v := (-r 4).toNat)
  unfold txP3
  split
  · rw [List.length_append]
    show 0 + _ ≤ 8
    omega
  · split
    · decide
    · rw [List.length_append]
      show 4 + _ ≤ 8
      omega
theorem tq_len : ∀ k : Nat, k < 72 → (tq k).length ≤ 14 := by decide +kernel
theorem txP4_len (h : r 4 ≤ 20) : (txP4 r).length ≤ 14 := by
  have d2 := dgs_len (v := (-r 4).toNat)
  unfold txP4
  split
  · exact tq_len _ (by omega)
  · split
    · decide
    · rw [List.length_append]
      show 4 + _ ≤ 14
      omega
theorem txR_len (hv : LVr r) : (txR r).length ≤ 120 := by
  obtain ⟨-, -, -, -, -, -, -, ⟨p0, p1⟩, -, p4, -, -⟩ := hv
  have dl := txD_len (S := r 3) 7 (by omega)
  have le := txE_len (r := r)
  have l3 := txP3_len (r := r)
  have ls := dgs_len (v := (r 2).toNat)
  have e431 : (tx431 r (txD (r 3) 7)).length ≤ 46 := by
    unfold tx431
    split
    · next z =>
      have l4 := txP4_len (r := r) (by have := p4 z; omega)
      rw [List.length_append, List.length_append]
      omega
    · omega
  have e333 : (tx333 r (txD (r 3) 7)).length ≤ 54 := by
    unfold tx333
    split
    · rw [List.length_append]
      omega
    · omega
  have eS : (tq 38 ++ txS r).length ≤ 11 := by
    rw [List.length_append]
    unfold txS
    split
    · show 6 + 0 ≤ 11
      omega
    · rw [List.length_append]
      show 6 + (_ + 1) ≤ 11
      omega
  unfold txR tx196
  rw [List.length_append]
  split
  · show 4 + _ ≤ 120
    omega
  · split
    · rw [List.length_append]
      show _ + 4 + _ ≤ 120
      omega
    · split
      · rw [List.length_append, List.length_append]
        show _ + 8 + _ + _ ≤ 120
        omega
      · split
        · rw [List.length_append]
          show _ + 5 + _ ≤ 120
          omega
        · rw [List.length_append]
          show _ + 10 + _ ≤ 120
          omega
end TXL
end
