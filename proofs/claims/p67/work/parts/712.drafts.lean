/-! draft 712.good -/
section
/-! ===== the text's signs ===== -/
def gdT (L : List Int) : Prop := ∀ y, y ∈ L → 1 ≤ y ∧ y ≤ 127
section GDT
variable {L L2 : List Int} {r : Nat → Int}
theorem gdT.app (h : gdT L) (g : gdT L2) : gdT (L ++ L2) := fun y hy => (List.mem_append.mp hy).elim (h y) (g y)
theorem gdT.dg {v : Nat} (hv : v < 10000) : gdT (dgs v) := fun y hy => by
  have := dgs_r y hy hv
  omega
theorem tq_all : ∀ k : Nat, k < 72 → ∀ y, y ∈ tq k → 1 ≤ y ∧ y ≤ 127 := by decide +kernel
theorem gdT.tq {k : Nat} (hk : k < 72) : gdT (tq k) := tq_all k hk
theorem gdT.d {S : Int} : ∀ n, n ≤ 7 → gdT (txD S n)
  | 0, _ => gdT.tq (by decide)
  | n + 1, h => by
    refine (gdT.d n (by omega)).app ?_
    split
    · exact (gdT.tq (by decide)).app (gdT.tq (by omega))
    · exact gdT.tq (by decide)
theorem txR_good (hv : LVr r) : gdT (txR r) := by
  obtain ⟨f0, ⟨k0, k5⟩, st, s0, -, -, -, ⟨p0, p1⟩, -, p4, -, en⟩ := hv
  have t : ∀ k : Nat, k < 72 → gdT (tq k) := fun k hk => gdT.tq hk
  have eE : gdT (txE r) := by
    unfold txE
    split
    · exact (t 54 (by decide)).app (gdT.dg (by omega))
    · split
      · exact (t 56 (by decide)).app (gdT.dg (by omega))
      · exact t 34 (by decide)
  have e3 : gdT (txP3 r) := by
    unfold txP3
    split
    · exact (t 34 (by decide)).app (gdT.dg (by omega))
    · split
      · exact t 50 (by decide)
      · exact (t 52 (by decide)).app (gdT.dg (by omega))
  have e4 : r 1 = 4 → gdT (txP4 r) := fun z => by
    have := p4 z
    unfold txP4
    split
    · exact t _ (by omega)
    · split
      · exact t 50 (by decide)
      · exact (t 52 (by decide)).app (gdT.dg (by omega))
  have e431 : gdT (tx431 r (txD (r 3) 7)) := by
    unfold tx431
    split
    · next z => exact ((e4 z).app (gdT.d 7 (by omega))).app eE
    · exact eE
  have e333 : gdT (tx333 r (txD (r 3) 7)) := by
    unfold tx333
    split
    · exact e3.app e431
    · exact e431
  have eS : gdT (tq 38 ++ txS r) := by
    refine (t 38 (by decide)).app ?_
    unfold txS
    split
    · exact t 34 (by decide)
    · refine (gdT.dg ?_).app (t 36 (by decide))
      by_cases z : r 1 = 0
      · have := s0 z
        omega
      · have := st z
        omega
  unfold txR tx196
  refine gdT.app ?_ e333
  split
  · exact t 40 (by decide)
  · split
    · exact eS.app (t 42 (by decide))
    · split
      · exact (eS.app (t 44 (by decide))).app (gdT.d 7 (by omega))
      · split
        · exact eS.app (t 46 (by decide))
        · exact eS.app (t 48 (by decide))
end GDT
end
/-! draft 713.lawtype2 -/
section
/-! ===== the law types a text ===== -/
section LT9
variable {O : Nat → Option va_E} {f u : Nat} {M N : xM} {L : List Int}
theorem ltype_ok (h1 : gdT L) (hl : L.length ≤ 120) (w : Wd M) (hs : SG O M u L) (hf : 100 ≤ f) : ∃ N, f_Law_type O f 1 u M = some ((), N) ∧ RD N L ∧ Un (fun a => a ≠ 134 ∧ a ≠ 136) M N := by
  obtain ⟨E, eE⟩ : ∃ E, E = iS M 134 0 0 := ⟨_, rfl⟩
  have wE : Wd E := by rw [eE]; exact w
  have uE : Un (fun a => a ≠ 134 ∧ a ≠ 136) M E := by rw [eE]; exact Un.rf.iS (by (try dsimp only); omega)
  have cl : f_Calendarhall_clearText O f 1 M = some (iV M 134 0, E) := by
    unfold f_Calendarhall_clearText
    rw [a_Cal_reader w, a_Reader_length w, a_Cal_reader w, p_Reader_length w, ← eE]
  have rE : RD E (L.take 0) := ⟨by rw [eE, iV_s (by omega) (by omega), List.take_zero]; rfl, by rw [List.take_zero]; decide, fun j hj => by rw [List.take_zero] at hj; exact absurd hj (Nat.not_lt_zero _), fun y hy => by rw [List.take_zero] at hy; exact absurd hy List.not_mem_nil⟩
  have ne := sg_ne2 hs w
  obtain ⟨N, eN, rN, uN⟩ := lty_7 (O := O) (f := f) (u := u) h1 hl hf 15 f 0 E wE (hs.kq uE.kq (fun _ => ⟨ne.1, ne.2⟩)) rE (by omega) (by omega) (by omega)
  refine ⟨N, ?_, rN, uE.tr uN⟩
  unfold f_Law_type
  rw [a_Cal_is w, cl, xcl_e]
  exact eN
end LT9
end
