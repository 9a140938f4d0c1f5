/-! ===== all that is known at the start ===== -/
section GKK
variable {L : Nat} {xs : Nat → Int32} {s : State} {b : Nat}
theorem gKK (hX : va_X b L xs s s.heap) (htx : ∀ w, w ∈ lw_tbx → w.before #[Value.ref b] s = true) (hgv : (Jvm.Cond.and given_1 narrow_1).before #[Value.ref b] s = true) : ∃ (ad : Nat → Nat) (dA : Nat → ClassId) (D : va_G), xKK s.heap.size ad dA D s.heap (gO L xs) s ∧ ad 0 = b := by
  have hn : ∀ c, c ∈ FLn → c.before #[Value.ref b] s = true := fun c hc => flat_of_before _ hgv c (List.mem_append_right _ hc)
  have hA : ∀ a : Nat, a < s.heap.size → ¬ (fun q => s.heap.size ≤ q) a := fun a ha => Nat.not_le.mpr ha
  obtain ⟨m, m1, m2⟩ := row_at hn (by decide) (take_in grow_1)
  obtain ⟨t, t1, t2⟩ := row_at hn (by decide +kernel) (take_in grow_2)
  obtain ⟨o, o1, o2⟩ := row_at hn (by decide +kernel) (take_in grow_3)
  have lt : tens.length = 100 := by decide +kernel
  have lo : ones.length = 100 := by decide +kernel
  rw [lt] at t2
  rw [lo] at o2
  obtain ⟨Q, hQ⟩ := strs_at hn
  have hS := str_all hn hQ
  have hv := va_eqt (hn _ gcs)
  obtain ⟨z, hz⟩ : ∃ z : Nat, (Term.static "jdk/internal/util/Preconditions" "SIOOBE_FORMATTER" "Ljava/util/function/BiFunction;").eval #[Value.ref b] s none [] s = some (if z = 0 then .null else .ref (z - 1)) := by
    rcases isRef_ev (hn _ gfm) with h | ⟨a, h⟩
    · exact ⟨0, h⟩
    · refine ⟨a + 1, ?_⟩
      rw [if_neg (Nat.succ_ne_zero a), Nat.add_sub_cancel]
      exact h
  obtain ⟨dA, hd, kA, hk1, hk2⟩ := gdA htx
  obtain ⟨D, hD⟩ := gD htx
  refine ⟨gad b m t o z Q, dA, D, ⟨⟨hD, fun k q hq => ?_⟩, gxO hX m2 t2 o2 (fun i hi => by obtain ⟨r, -, -, h⟩ := hQ i hi; exact h), ⟨kA, hk1, hk2⟩, fun q hq => ?_, fun q hq => ?_, fun w hw => ?_⟩, rfl⟩
  · have k12 : k < 12 := by
      by_cases g : k < 12
      · exact g
      · exfalso
        unfold xtys at hq
        rw [List.getElem?_eq_none (by rw [List.length_map, List.length_range]; omega)] at hq
        cases hq
    rw [xtys_at dA k12] at hq
    cases hq
    exact hd k k12
  · obtain ⟨⟨i0, i1, i2⟩, ev⟩ := hS q hq
    have ga : gad b m t o z Q q.2.2.2 = (Q ((q.2.2.2 - 10) / 2)).1 := by
      unfold gad
      rw [if_neg (by omega), if_neg (by omega), if_neg (by omega), if_neg (by omega), if_neg (by omega), if_pos i2]
    rw [ga]
    exact vk_R.of (htx _ (gst_in q hq)) ev
  · simp only [xSta, List.mem_cons, List.not_mem_nil, or_false] at hq
    rcases hq with rfl | rfl | rfl | rfl | rfl
    · have e : xv s.heap.size (gad b m t o z Q) (.ref 1000000001) = .ref m := by
        show Value.ref (xr s.heap.size (gad b m t o z Q) 1000000001) = _
        rw [xr_old (by decide)]
        rfl
      dsimp only
      rw [e]
      exact va_Zof (htx _ gls_0) (htx _ gin_0) m1 hA
    · have e : xv s.heap.size (gad b m t o z Q) (.ref 1000000002) = .ref t := by
        show Value.ref (xr s.heap.size (gad b m t o z Q) 1000000002) = _
        rw [xr_old (by decide)]
        rfl
      dsimp only
      rw [e]
      exact va_Zof (htx _ gls_1) (htx _ gin_1) t1 hA
    · have e : xv s.heap.size (gad b m t o z Q) (.ref 1000000003) = .ref o := by
        show Value.ref (xr s.heap.size (gad b m t o z Q) 1000000003) = _
        rw [xr_old (by decide)]
        rfl
      dsimp only
      rw [e]
      exact va_Zof (htx _ gls_2) (htx _ gin_2) o1 hA
    · exact va_Zof (htx _ gls_3) (htx _ gin_3) hv hA
    · have e : xv s.heap.size (gad b m t o z Q) (.float 7) = (if z = 0 then .null else .ref (z - 1)) := by
        have g4 : gad b m t o z Q 4 = z := rfl
        unfold xv
        dsimp only
        rw [if_pos rfl, g4]
      dsimp only
      rw [e]
      exact va_Zof (htx _ gls_4) (htx _ gin_4) hz hA
  · have h := htx _ (gnw_in w hw)
    rcases xNw_form w hw with ⟨a, i, c, n, d, hh, rfl⟩ | ⟨a, i, x, hh, rfl⟩ | ⟨C, rfl⟩ | ⟨ty, rfl⟩ | ⟨C, T, rfl⟩
    · exact va_Nw.of rfl h
    · exact va_Nw.of rfl h
    · exact h
    · exact h
    · exact va_Nw.of rfl h
theorem xre_i {ins : Instr} {len : Nat} {st : List Value} {v : Int32} (h : xre (some .boolean) ins len st = some (some (.int v))) : ins = .ireturn ∧ len = 1 ∧ st = [.int v] := by
  unfold xre at h
  split at h
  · dsimp only at h
    split at h
    · cases h
      exact ⟨rfl, rfl, rfl⟩
    · cases h
  · split at h <;> cases h
  · split at h <;> cases h
  · dsimp only at h
    split at h
    · next g => exact absurd g.1 (by decide)
    · cases h
  · split at h <;> cases h
  · cases h
end GKK
