/-! ===== what the constructor leaves ===== -/
def z0 : zH := ([(.inl 12, [], []), (.inl 15, [], [])], 2, 11)
def zS : Option zH := m_Calendarhall_ctor 1 z0
/-- a cell is as the world wants it -/
def zck1 (c : zC) (k : Nat) : Bool := decide (c.1 = shp k) && (List.range 13).all (fun j => match rfs k j with
  | none => true
  | some r => decide (c.2.1.getD j none = some r))
def zckL : Nat → List zC → Bool
  | n + 1, c :: l => zck1 c n && zckL n l
  | _, _ => true
def zi (H : zH) (k j : Nat) : Int := (zcl H k).2.2.getD j 0
/-- the numbers -/
def zF1 (H : zH) : Bool := decide (H.2.1 = 1044 ∧ H.2.2 ≤ 30000) && decide (zi H 1 2 = 0 ∧ zi H 1 3 = 0) && decide (∀ k : Nat, k < 12 → zi H (29 + 6 * k) 0 = 0 ∧ zi H (29 + 6 * k) 5 = 0)
def zF2 (H : zH) : Bool := decide (∀ k : Nat, k < 2 → zi H (101 + 7 * k) 0 = 0 ∧ zi H (101 + 7 * k) 1 = 0) && decide (∀ k : Nat, k < 2 → ∀ p : Nat, p < 48 → zi H (105 + 7 * k) p = -1 ∧ zi H (106 + 7 * k) p = 0 ∧ zi H (107 + 7 * k) p = 0)
def zF3 (H : zH) : Bool := decide (∀ k : Nat, k < 3 → (zi H (12 + 3 * k) 0 = 0 ∧ zi H (12 + 3 * k) 1 = 0) ∧ (zi H (13 + 3 * k) 0 = 3 ∧ zi H (13 + 3 * k) 1 = 5 ∧ zi H (13 + 3 * k) 2 = 6 ∧ zi H (13 + 3 * k) 3 = 120) ∧ (zi H (14 + 3 * k) 0 = 10 ∧ zi H (14 + 3 * k) 1 = 5 ∧ zi H (14 + 3 * k) 2 = 6 ∧ zi H (14 + 3 * k) 3 = 120))
def zF4 (H : zH) : Bool := decide (∀ k : Nat, k < 8 → zi H (21 + k) 0 = 0 ∧ zi H (21 + k) 1 = 31 ∧ zi H (21 + k) 2 = 540 ∧ zi H (21 + k) 3 = 1020) && decide (∀ k : Nat, k < 4 → zi H 5 k = (k : Int)) && decide (zi H 2 5 = 14400 ∧ zi H 2 9 = 0 ∧ zi H 2 11 = 0) && decide (∀ k : Nat, k < 10 → zi H 8 k = -1) && decide (zi H 134 0 = 0)
def zF5 (H : zH) : Bool := decide ((zcl H 137).2.1.getD 0 none = some 138) && decide (zi H 137 1 = 0 ∧ zi H 137 3 = 0) && decide (∀ j : Nat, j < 16 → zi H 138 j = 0)
theorem zS_1 : (zS.elim false (fun H => zckL 1044 H.1)) = true := by decide +kernel
theorem zS_2 : (zS.elim false (fun H => zF1 H && zF2 H && zF3 H && zF4 H && zF5 H)) = true := by decide +kernel
section ZST
variable {O : Nat → Option va_E} {f : Nat} {M : xM} {H : zH}
theorem zckL_ok : ∀ (n : Nat) (l : List zC), l.length = n → zckL n l = true → ∀ k, k < n → zck1 (l.getD (n - 1 - k) zd) k = true := by
  intro n
  induction n with
  | zero => intro l _ _ k hk; exact absurd hk (Nat.not_lt_zero _)
  | succ n ih =>
    intro l hl h k hk
    cases l with
    | nil => cases hl
    | cons c l =>
      have hl' : l.length = n := Nat.succ.inj hl
      have h' : (zck1 c n && zckL n l) = true := h
      rw [Bool.and_eq_true] at h'
      by_cases z : k = n
      · rw [z, show n + 1 - 1 - n = 0 by omega]
        exact h'.1
      · rw [show n + 1 - 1 - k = (n - 1 - k) + 1 by omega]
        exact ih l hl' h'.2 k (by omega)
theorem gdn_far {α : Type} {l : List (Option α)} {j : Nat} (h : l.length ≤ j) : l.getD j none = none := by
  rw [List.getD_eq_getElem?_getD, List.getElem?_eq_none h]
  rfl
theorem hbR_len : ∀ l, l ∈ hbR → l.length ≤ 12 := by decide +kernel
theorem mdR_len : ∀ l, l ∈ mdR → l.length ≤ 12 := by decide +kernel
theorem gdl_len {L : List (List (Option Nat))} (h : ∀ l, l ∈ L → l.length ≤ 12) (i : Nat) : (L.getD i []).length ≤ 12 := by
  rw [List.getD_eq_getElem?_getD]
  by_cases g : i < L.length
  · rw [List.getElem?_eq_getElem g]
    exact h _ (List.getElem_mem g)
  · rw [List.getElem?_eq_none (by omega)]
    exact Nat.zero_le _
theorem rfs_far {k j : Nat} (hj : 13 ≤ j) : rfs k j = none := by
  have a : ∀ i, (hbR.getD i []).getD j none = none := fun i => gdn_far (by have := gdl_len hbR_len i; omega)
  have b : ∀ i, (mdR.getD i []).getD j none = none := fun i => gdn_far (by have := gdl_len mdR_len i; omega)
  unfold rfs
  split
  · rfl
  · split
    · exact gdn_far (by show 10 ≤ j; omega)
    · split
      · rw [a]
        rfl
      · split
        · rfl
        · split
          · exact b _
          · rw [a]
            rfl
/-- the start of the branches -/
theorem zst_ok (h : zB H M) (e : zS = some H) : St0 M ∧ BD M 137 138 16 [] := by
  have c1 := zS_1
  have c2 := zS_2
  rw [e] at c1 c2
  have c1 : zckL 1044 H.1 = true := c1
  have c2 : (zF1 H && zF2 H && zF3 H && zF4 H && zF5 H) = true := c2
  simp only [Bool.and_eq_true] at c2
  obtain ⟨⟨⟨⟨f1, f2⟩, f3⟩, f4⟩, f5⟩ := c2
  unfold zF1 at f1
  unfold zF2 at f2
  unfold zF3 at f3
  unfold zF4 at f4
  unfold zF5 at f5
  simp only [Bool.and_eq_true] at f1 f2 f3 f4 f5
  obtain ⟨⟨a1, a2⟩, a3⟩ := f1
  obtain ⟨b1, b2⟩ := f2
  obtain ⟨⟨⟨⟨d1, d2⟩, d3⟩, d4⟩, d5⟩ := f4
  obtain ⟨⟨g1, g2⟩, g3⟩ := f5
  have a1 := of_decide_eq_true a1
  have a2 := of_decide_eq_true a2
  have a3 := of_decide_eq_true a3
  have b1 := of_decide_eq_true b1
  have b2 := of_decide_eq_true b2
  have f3 := of_decide_eq_true f3
  have d1 := of_decide_eq_true d1
  have d2 := of_decide_eq_true d2
  have d3 := of_decide_eq_true d3
  have d4 := of_decide_eq_true d4
  have d5 := of_decide_eq_true d5
  have g1 := of_decide_eq_true g1
  have g2 := of_decide_eq_true g2
  have g3 := of_decide_eq_true g3
  obtain ⟨⟨h1, h0⟩, h2, h3⟩ := h
  have ck : ∀ k, k < 1044 → zck1 (zcl H k) k = true := fun k hk => by
    have q := zckL_ok 1044 H.1 (by rw [h0]; exact a1.1) c1 k hk
    unfold zcl
    rw [a1.1]
    exact q
  have v : ∀ k j, k < 1044 → iV M k j = zi H k j := fun k j hk => (h3 k (by rw [a1.1]; exact hk)).2.2 j
  have w : Wd M := by
    refine ⟨by omega, by omega, fun k hk => ?_, fun k j r hk hr => ?_⟩
    · have q := ck k hk
      unfold zck1 at q
      rw [Bool.and_eq_true] at q
      rw [(h3 k (by omega)).1]
      exact of_decide_eq_true q.1
    · by_cases hj : j < 13
      · have q := ck k hk
        unfold zck1 at q
        rw [Bool.and_eq_true] at q
        have q2 := List.all_eq_true.mp q.2 j (List.mem_range.mpr hj)
        rw [hr] at q2
        exact (h3 k (by omega)).2.1 j r (of_decide_eq_true q2)
      · rw [rfs_far (by omega)] at hr
        cases hr
  refine ⟨⟨w, by omega, by omega, ?_, fun k hk => ?_, fun k hk => ⟨?_, ?_, fun p hp => ?_⟩, fun k hk => ?_, fun k hk => ?_, fun k hk => ?_, ?_, fun k hk => ?_, ?_⟩, ?_⟩
  · rw [v _ _ (by omega), v _ _ (by omega)]
    exact a2
  · rw [v _ _ (by omega), v _ _ (by omega)]
    exact a3 k hk
  · rw [v _ _ (by omega)]
    exact (b1 k hk).1
  · rw [v _ _ (by omega)]
    exact (b1 k hk).2
  · rw [v _ _ (by omega), v _ _ (by omega), v _ _ (by omega)]
    exact b2 k hk p hp
  · obtain ⟨⟨x1, x2⟩, ⟨x3, x4, x5, x6⟩, x7, x8, x9, x10⟩ := f3 k hk
    rw [v _ _ (by omega), v _ _ (by omega), v _ _ (by omega), v _ _ (by omega), v _ _ (by omega), v _ _ (by omega), v _ _ (by omega), v _ _ (by omega), v _ _ (by omega), v _ _ (by omega)]
    exact ⟨x1, x2, x3, x4, x5, x6, x7, x8, x9, x10⟩
  · rw [v _ _ (by omega), v _ _ (by omega), v _ _ (by omega), v _ _ (by omega)]
    exact d1 k hk
  · rw [v _ _ (by omega)]
    exact d2 k hk
  · rw [v _ _ (by omega), v _ _ (by omega), v _ _ (by omega)]
    exact d3
  · rw [v _ _ (by omega)]
    exact d4 k hk
  · rw [v _ _ (by omega)]
    exact d5
  · have e7 : mS M 137 = .inl 1 := (w.s (by decide)).trans (by decide)
    have e8 : mS M 138 = .inr (3, 16) := (w.s (by decide)).trans (by decide)
    exact ⟨w.b (by decide), e7, (h3 137 (by omega)).2.1 0 138 g1, by rw [v _ _ (by omega)]; exact g2.1, by rw [v _ _ (by omega)]; exact g2.2, w.b (by decide), e8, Nat.zero_le _, by decide, fun j hj => absurd hj (Nat.not_lt_zero _), fun y hy => absurd hy List.not_mem_nil, fun j hj => by rw [v _ _ (by omega), g3 j hj]; decide⟩
end ZST
