/-! draft 630.datesat -/
section
/-! ===== dates that begin in a short piece ===== -/
theorem two_len {F : List Int} (hF : srt F) {c1 c2 : Prop} {r1 r2 : Int} (hne : c1 → c2 → r1 ≠ r2) (hm : ∀ y, y ∈ F ↔ (c1 ∧ y = r1) ∨ (c2 ∧ y = r2)) : (c1 → c2 → F.length = 2) ∧ (c1 → ¬ c2 → F.length = 1) ∧ (¬ c1 → c2 → F.length = 1) ∧ (¬ c1 → ¬ c2 → F.length = 0) := by
  have one : ∀ r : Int, (∀ y, y ∈ F ↔ y = r) → F.length = 1 := fun r h => by
    have : F = [r] := srt_uniq hF (List.pairwise_singleton _ _) (fun y => by rw [h y, List.mem_singleton])
    rw [this]
    rfl
  refine ⟨fun a b => ?_, fun a b => one r1 (fun y => ?_), fun a b => one r2 (fun y => ?_), fun a b => ?_⟩
  · have ne := hne a b
    rcases Int.lt_or_gt_of_ne ne with g | g
    · have : F = [r1, r2] := srt_uniq hF (List.Pairwise.cons (fun y hy => by rw [List.mem_singleton] at hy; omega) (List.pairwise_singleton _ _)) (fun y => by
        rw [hm y, List.mem_cons, List.mem_singleton]
        exact ⟨fun q => q.elim (fun z => Or.inl z.2) (fun z => Or.inr z.2), fun q => q.elim (fun z => Or.inl ⟨a, z⟩) (fun z => Or.inr ⟨b, z⟩)⟩)
      rw [this]
      rfl
    · have : F = [r2, r1] := srt_uniq hF (List.Pairwise.cons (fun y hy => by rw [List.mem_singleton] at hy; omega) (List.pairwise_singleton _ _)) (fun y => by
        rw [hm y, List.mem_cons, List.mem_singleton]
        exact ⟨fun q => q.elim (fun z => Or.inr z.2) (fun z => Or.inl z.2), fun q => q.elim (fun z => Or.inr ⟨b, z⟩) (fun z => Or.inl ⟨a, z⟩)⟩)
      rw [this]
      rfl
  · rw [hm y]
    exact ⟨fun q => q.elim (fun z => z.2) (fun z => (b z.1).elim), fun q => Or.inl ⟨a, q⟩⟩
  · rw [hm y]
    exact ⟨fun q => q.elim (fun z => (a z.1).elim) (fun z => z.2), fun q => Or.inr ⟨b, q⟩⟩
  · cases F with
    | nil => rfl
    | cons y F =>
      rcases (hm y).mp List.mem_cons_self with z | z
      · exact (a z.1).elim
      · exact (b z.1).elim
theorem div_step {u s : Int} (hs : 0 < s) : u / s - (u - 1) / s = if u % s = 0 then 1 else 0 := by
  have e := Int.mul_ediv_add_emod u s
  have r0 := Int.emod_nonneg u (show s ≠ 0 by omega)
  have r1 := Int.emod_lt_of_pos u hs
  generalize hq : u / s = q at *
  generalize hr : u % s = r at *
  by_cases g : r = 0
  · rw [if_pos g]
    have h : (u - 1) / s = q - 1 := ((Int.ediv_emod_unique hs (r := s - 1) (q := q - 1)).mpr ⟨by rw [Int.mul_sub]; omega, by omega, by omega⟩).1
    omega
  · rw [if_neg g]
    have h : (u - 1) / s = q := ((Int.ediv_emod_unique hs (r := r - 1) (q := q)).mpr ⟨by omega, by omega, by omega⟩).1
    omega
section DAT
variable {O : Nat → Option va_E} {f k m : Nat} {M N : xM} {x fd a b : Int}
/-- the first day whose date begins at a minute or behind it -/
theorem firstDay_ok (h : Wd M) (hk : k < 12) (hs : SV M k) (hz : Zv M (zk M k)) (hz3 : zk M k < 3) (x0 : 20000 ≤ x) (x1 : x ≤ 200000000) (hf : 5 ≤ f) : ∃ d, f_Series_firstDayFrom O f (29 + 6 * k) (12 + 3 * zk M k) x M = some (d, M) ∧ C0 M k (d - 1) < x ∧ x ≤ C0 M k d ∧ 10 ≤ d ∧ d ≤ 146000 := by
  have hz' := hz
  obtain ⟨o0, o1, s0, s1, -, -⟩ := hz'
  have sm := hs.2.2.1
  obtain ⟨d0, ed⟩ : ∃ d0, d0 = (x + iV M (12 + 3 * zk M k) 0 - iV M (29 + 6 * k) 2) / 1440 := ⟨_, rfl⟩
  have b0 := C0_r (d := d0) hs hz
  have b1 := C0_r (d := d0 + 1) hs hz
  have b2 := C0_r (d := d0 + 2) hs hz
  have bm := C0_r (d := d0 - 1) hs hz
  have com_at : ∀ d : Int, 10 ≤ d → d ≤ 146000 → f_Zone_commonOf O f (12 + 3 * zk M k) (d * 1440 + iV M (29 + 6 * k) 2) M = some (C0 M k d, M) := fun d h0 h1 => e_commonOf h hz3 hz (by omega) (by omega)
  obtain ⟨t, ht⟩ : ∃ t, f = t + 1 + 1 + 1 := ⟨f - 3, by omega⟩
  have step : ∀ (t : Nat) (d j : Int), 10 ≤ d → d ≤ 146000 → 0 ≤ j → j < 2 → f_Series_firstDayFrom_10 O f (t + 1) (29 + 6 * k) (12 + 3 * zk M k) x d j M = if x ≤ C0 M k d then some (d, M) else f_Series_firstDayFrom_10 O f t (29 + 6 * k) (12 + 3 * zk M k) x (d + 1) (j + 1) M := fun t d j h0 h1 j0 j1 => by
    have bd := C0_r (d := d) hs hz
    show (if yw 2 ≤ yw j then _ else _) = _
    rw [le_F (by omega) (by omega) (by omega), a_Series_minute h hk, a_Zone_is h hz3, xc_of (com_at d h0 h1)]
    by_cases g : x ≤ C0 M k d
    · rw [le_T g (by omega) (by omega), if_pos g]
    · rw [le_F (by omega) (by omega) (by omega), if_neg g]
  have body : f_Series_firstDayFrom O f (29 + 6 * k) (12 + 3 * zk M k) x M = f_Series_firstDayFrom_10 O f f (29 + 6 * k) (12 + 3 * zk M k) x d0 0 M := by
    unfold f_Series_firstDayFrom
    rw [a_Series_is h hk, xc_of (e_earliestDay h hk hz3 (by omega) (by omega)), ed]
  have e2 : f_Series_firstDayFrom O f (29 + 6 * k) (12 + 3 * zk M k) x M = if x ≤ C0 M k d0 then some (d0, M) else if x ≤ C0 M k (d0 + 1) then some (d0 + 1, M) else some (d0 + 2, M) := by
    rw [body]
    have e3 : f_Series_firstDayFrom_10 O f f (29 + 6 * k) (12 + 3 * zk M k) x d0 0 M = f_Series_firstDayFrom_10 O f (t + 1 + 1 + 1) (29 + 6 * k) (12 + 3 * zk M k) x d0 0 M := by rw [← ht]
    rw [e3, step _ _ _ (by omega) (by omega) (by omega) (by omega)]
    by_cases g : x ≤ C0 M k d0
    · rw [if_pos g, if_pos g]
    · rw [if_neg g, if_neg g, step _ _ _ (by omega) (by omega) (by omega) (by omega)]
      by_cases g2 : x ≤ C0 M k (d0 + 1)
      · rw [if_pos g2, if_pos g2]
      · rw [if_neg g2, if_neg g2]
        show (if yw 2 ≤ yw (0 + 1 + 1) then _ else _) = _
        rw [le_T (by omega) (by omega) (by omega), show d0 + 1 + 1 = d0 + 2 by omega]
  rw [e2]
  by_cases g : x ≤ C0 M k d0
  · rw [if_pos g]
    exact ⟨d0, rfl, by omega, g, by omega, by omega⟩
  · rw [if_neg g]
    by_cases g2 : x ≤ C0 M k (d0 + 1)
    · rw [if_pos g2]
      exact ⟨d0 + 1, rfl, by rw [show d0 + 1 - 1 = d0 by omega]; omega, g2, by omega, by omega⟩
    · rw [if_neg g2]
      exact ⟨d0 + 2, rfl, by rw [show d0 + 2 - 1 = d0 + 1 by omega]; omega, by omega, by omega, by omega⟩
/-- days counted, where there is one at most -/
theorem count01 (h : Wd M) (hk : k < 12) (hr : RV01 (iV M (30 + 6 * k))) (a0 : 0 ≤ a) (a1 : a ≤ 150000) (hb : b = a ∨ b = a - 1) : (b = a ∧ D01 (iV M (30 + 6 * k)) a ∧ f_Rule_count O f (30 + 6 * k) a b M = some (1, M)) ∨ (¬ (b = a ∧ D01 (iV M (30 + 6 * k)) a) ∧ f_Rule_count O f (30 + 6 * k) a b M = some (0, M)) := by
  obtain ⟨f0, f1, hkind, t0, t1⟩ := hr
  unfold f_Rule_count
  rw [a_Rule_first h hk, xc_of (e_max (by omega) (by omega) (by omega) (by omega)), a_Rule_last h hk, xc_of (e_min (by omega) (by omega) (by omega) (by omega))]
  by_cases g : max a (iV M (30 + 6 * k) 0) ≤ min b (iV M (30 + 6 * k) 7)
  · have ba : b = a := by omega
    subst ba
    rw [le_T g (by omega) (by omega), show max b (iV M (30 + 6 * k) 0) = b by omega, show min b (iV M (30 + 6 * k) 7) = b by omega, a_Rule_kind h hk]
    rcases hkind with k0 | ⟨k1, s0, s1⟩
    · rw [k0, eq_T rfl]
      unfold f_Rule_count_42
      rw [a_Rule_first h hk]
      by_cases c : b = iV M (30 + 6 * k) 0
      · rw [eq_T c]
        refine Or.inl ⟨rfl, ?_, rfl⟩
        unfold D01
        rw [if_pos k0]
        omega
      · rw [eq_F c (by omega) (by omega) (by omega) (by omega)]
        refine Or.inr ⟨fun z => ?_, rfl⟩
        have z2 := z.2
        unfold D01 at z2
        rw [if_pos k0] at z2
        exact c z2.2.2
    · have ds := div_step (u := b - iV M (30 + 6 * k) 0) (s := iV M (30 + 6 * k) 2) (by omega)
      rw [k1, eq_F (by omega) (by omega) (by omega) (by omega) (by omega), a_Rule_step h hk, le_T (by omega) (by omega) (by omega), a_Rule_kind h hk, k1, eq_T rfl, a_Rule_first h hk, a_Rule_step h hk, xc_of (e_floorDiv (by omega) (by omega) (by omega) (by omega)), a_Rule_first h hk, a_Rule_step h hk, xc_of (e_floorDiv (by omega) (by omega) (by omega) (by omega)), show b - 1 - iV M (30 + 6 * k) 0 = b - iV M (30 + 6 * k) 0 - 1 by omega, ds]
      by_cases c : (b - iV M (30 + 6 * k) 0) % iV M (30 + 6 * k) 2 = 0
      · rw [if_pos c]
        refine Or.inl ⟨rfl, ?_, rfl⟩
        unfold D01
        rw [if_neg (by omega)]
        exact ⟨by omega, by omega, c⟩
      · rw [if_neg c]
        refine Or.inr ⟨fun z => ?_, rfl⟩
        have z2 := z.2
        unfold D01 at z2
        rw [if_neg (by omega)] at z2
        exact c z2.2.2
  · rw [le_F (by omega) (by omega) (by omega)]
    refine Or.inr ⟨fun z => ?_, rfl⟩
    obtain ⟨z1, z2, z3, -⟩ := z
    omega
end DAT
end
/-! draft 631.datesat2 -/
section
/-! ===== datesAt ===== -/
section DA2
variable {O : Nat → Option va_E} {f k m p : Nat} {M N : xM} {x fd lo hi : Int} {A : List Int}
theorem countBegins_ok (h : SR M m fd) (hm : m ≤ 12) (hk : k < m) (x0 : 30000 ≤ x) (x1 : x ≤ 150000000) (hf : 10 ≤ f) : ∃ c : Nat, f_Series_countBegins O f (29 + 6 * k) (12 + 3 * zk M k) (x - iV M (29 + 6 * k) 3 + 1) (x + 1) M = some ((c : Int), M) ∧ c ≤ 2 ∧ ∀ F : List Int, srt F → (∀ y, y ∈ F ↔ ∃ d, D01 (iV M (30 + 6 * k)) d ∧ bg M k d ≠ -1 ∧ bg M k d ≤ x ∧ x < bg M k d + iV M (29 + 6 * k) 3 ∧ y = rw' (bg M k d) k d) → F.length = c := by
  have w := h.1.1
  have s := h.2.2.1 k hk
  have sv := s.1
  have k12 : k < 12 := by omega
  have zl : zk M k < 3 := by
    have := sv.2.1
    unfold zk
    omega
  have hz := h.2.1 _ zl
  have hz' := hz
  obtain ⟨o0, o1, s0, s1, -, -⟩ := hz'
  have sm := sv.2.2.1
  have sl := sv.2.2.2.1
  have ex1 := s.2.2.1.2.2.2
  have ex0 := sv.2.2.2.2.2.2.1.1
  obtain ⟨len, el⟩ : ∃ len, len = iV M (29 + 6 * k) 3 := ⟨_, rfl⟩
  rw [← el] at sl ⊢
  obtain ⟨a, ea, a0, a1, a2, a3⟩ := firstDay_ok (O := O) (f := f) (x := x - len + 1) w k12 sv hz zl (by omega) (by omega) (by omega)
  obtain ⟨b, eb, b0, b1, b2, b3⟩ := firstDay_ok (O := O) (f := f) (x := x + 1) w k12 sv hz zl (by omega) (by omega) (by omega)
  have ab0 : a ≤ b := by
    by_cases z : a ≤ b
    · exact z
    · have := C0_mono (M := M) (k := k) hz (show b ≤ a - 1 by omega)
      omega
  have r0 := C0_r (d := a) sv hz
  have ab1 : b ≤ a + 1 := by
    by_cases z : b ≤ a + 1
    · exact z
    · have q1 := C0_mono (M := M) (k := k) hz (show a + 1 ≤ b - 1 by omega)
      have q2 := C0_r (d := a + 1) sv hz
      omega
  -- regular days
  have reg : ∀ d : Int, (x - len + 1 ≤ C0 M k d ∧ C0 M k d < x + 1) ↔ (d = a ∧ b = a + 1) := fun d => by
    constructor
    · rintro ⟨c0, c1⟩
      have u0 : a ≤ d := by
        by_cases z : a ≤ d
        · exact z
        · have := C0_mono (M := M) (k := k) hz (show d ≤ a - 1 by omega)
          omega
      have u1 : d ≤ b - 1 := by
        by_cases z : d ≤ b - 1
        · exact z
        · have := C0_mono (M := M) (k := k) hz (show b ≤ d by omega)
          omega
      omega
    · rintro ⟨c0, c1⟩
      subst c0
      rw [show b - 1 = d by omega] at b0
      exact ⟨a1, b0⟩
  -- the exception
  obtain ⟨e, he⟩ : ∃ e, e = iV M (31 + 6 * k) 0 := ⟨_, rfl⟩
  obtain ⟨t, htt⟩ : ∃ t, t = iV M (32 + 6 * k) 0 := ⟨_, rfl⟩
  have exn : ∀ d, iV M (29 + 6 * k) 7 = 0 → exO M k d = -1 := fun d q => by
    unfold exO
    rw [q]
    rfl
  have exy : ∀ d, iV M (29 + 6 * k) 7 = 1 → exO M k d = if e = d then 0 else -1 := fun d q => by
    unfold exO
    rw [q]
    show exF (iV M (31 + 6 * k)) d 1 = _
    unfold exF exF
    rw [he]
    by_cases z : iV M (31 + 6 * k) 0 = d
    · simp [z]
    · simp [z]
  have rdiff : ∀ {c c' d d' : Int}, d ≠ d' → 0 ≤ d → d < 262144 → 0 ≤ d' → d' < 262144 → rw' c (k : Int) d ≠ rw' c' (k : Int) d' := fun hd q0 q1 q2 q3 z => by
    unfold rw' at z
    omega
  have cpos : ∀ d, 10 ≤ d → C0 M k d ≠ -1 := fun d hd => by
    have := C0_r (d := d) sv hz
    omega
  have front : ∀ R : Option (Int × xM), xcl (f_Rule_count O f (30 + 6 * k) a (b - 1) M) (fun x4 M3 => f_Series_countBegins_34 O f f (29 + 6 * k) (12 + 3 * zk M k) (x - len + 1) (x + 1) a (b - 1) x4 0 M3) = R → f_Series_countBegins O f (29 + 6 * k) (12 + 3 * zk M k) (x - len + 1) (x + 1) M = R := fun R hR => by
    unfold f_Series_countBegins
    rw [a_Series_is w k12, ea, xcl_e, a_Series_is w k12, eb, xcl_e, a_Series_rule w k12, a_Rule_is w k12]
    exact hR
  obtain ⟨g, hfg⟩ : ∃ g, f = g + 1 + 1 := ⟨f - 2, by omega⟩
  -- counted by the rule
  obtain ⟨c1, hc1, cb, ec⟩ : ∃ c1 : Int, (c1 = 0 ∨ c1 = 1) ∧ (c1 = 1 ↔ b = a + 1 ∧ D01 (iV M (30 + 6 * k)) a) ∧ f_Rule_count O f (30 + 6 * k) a (b - 1) M = some (c1, M) := by
    rcases count01 (O := O) (f := f) (a := a) (b := b - 1) w k12 s.2.1 (by omega) (by omega) (by omega) with ⟨q1, q2, q3⟩ | ⟨q1, q3⟩
    · exact ⟨1, Or.inr rfl, ⟨fun _ => ⟨by omega, q2⟩, fun _ => rfl⟩, q3⟩
    · exact ⟨0, Or.inl rfl, ⟨fun z => by omega, fun z => (q1 ⟨by omega, z.2⟩).elim⟩, q3⟩
  rw [ec] at front
  have stop : ∀ (t : Nat) (v j : Int), iV M (29 + 6 * k) 7 ≤ j → j ≤ 10 → f_Series_countBegins_34 O f (t + 1) (29 + 6 * k) (12 + 3 * zk M k) (x - len + 1) (x + 1) a (b - 1) v j M = some (v, M) := fun t v j hj hj2 => by
    show (gJ O M (29 + 6 * k) 10 7).bind _ = _
    rw [a_Series_exceptions w k12, le_T (by omega) (by omega) (by omega)]
  rcases (show iV M (29 + 6 * k) 7 = 0 ∨ iV M (29 + 6 * k) 7 = 1 by omega) with q | q
  · -- no exception
    have e34 : f_Series_countBegins_34 O f f (29 + 6 * k) (12 + 3 * zk M k) (x - len + 1) (x + 1) a (b - 1) c1 0 M = some (c1, M) := by
      have z : ∀ v, f_Series_countBegins_34 O f f (29 + 6 * k) (12 + 3 * zk M k) (x - len + 1) (x + 1) a (b - 1) v 0 M = f_Series_countBegins_34 O f (g + 1 + 1) (29 + 6 * k) (12 + 3 * zk M k) (x - len + 1) (x + 1) a (b - 1) v 0 M := fun v => by rw [← hfg]
      rw [z, stop _ _ _ (by omega) (by omega)]
    refine ⟨c1.toNat, front _ ?_, by omega, fun F hF hFm => ?_⟩
    · rw [xcl_e, e34, show ((c1.toNat : Nat) : Int) = c1 by omega]
    · have tl := two_len hF (c1 := c1 = 1) (c2 := False) (r1 := rw' (C0 M k a) k a) (r2 := 0) (fun _ z => z.elim) (fun y => by
        rw [hFm y]
        constructor
        · rintro ⟨d, d0, d1, d2, d3, d4⟩
          have bd : bg M k d = C0 M k d := by unfold bg; rw [if_pos (exn d q)]; rfl
          rw [bd] at d1 d2 d3 d4
          obtain ⟨v1, v2⟩ := (reg d).mp ⟨by omega, by omega⟩
          subst v1
          exact Or.inl ⟨cb.mpr ⟨v2, d0⟩, d4⟩
        · rintro (⟨z1, z2⟩ | ⟨z, -⟩)
          · obtain ⟨v1, v2⟩ := cb.mp z1
            have bd : bg M k a = C0 M k a := by unfold bg; rw [if_pos (exn a q)]; rfl
            have v3 := (reg a).mpr ⟨rfl, v1⟩
            exact ⟨a, v2, by rw [bd]; exact cpos a (by omega), by rw [bd]; omega, by rw [bd]; omega, by rw [bd]; exact z2⟩
          · exact z.elim)
      rcases hc1 with z | z
      · rw [tl.2.2.2 (by omega) id, z]
        rfl
      · rw [tl.2.1 z id, z]
        rfl
  · -- one exception
    obtain ⟨er, et⟩ := sv.2.2.2.2.2.2.2.1 0 (by omega)
    have ed := (s.2.2.2.1 0 (by omega)).1
    rw [← he] at er ed
    rw [← htt] at et
    -- does it count where it was moved to
    have ct : t ≠ -1 → f_Zone_commonOf O f (12 + 3 * zk M k) t M = some (com M (zk M k) t, M) := fun z => e_commonOf w zl hz (by omega) (by omega)
    have ctr := com_r (M := M) (k := zk M k) (l := t) hz
    obtain ⟨c2, hc2, cb2, e68⟩ : ∃ c2 : Int, (c2 = 0 ∨ c2 = 1) ∧ (c2 = 1 ↔ t ≠ -1 ∧ x - len + 1 ≤ com M (zk M k) t ∧ com M (zk M k) t < x + 1) ∧ ∀ v : Int, f_Series_countBegins_68 O f (f_Series_countBegins_34 O f (g + 1)) (29 + 6 * k) (12 + 3 * zk M k) (x - len + 1) (x + 1) a (b - 1) v 0 M = some (v + c2, M) := by
      have e68 : ∀ v : Int, f_Series_countBegins_68 O f (f_Series_countBegins_34 O f (g + 1)) (29 + 6 * k) (12 + 3 * zk M k) (x - len + 1) (x + 1) a (b - 1) v 0 M = if t = -1 then some (v, M) else if com M (zk M k) t < x - len + 1 then some (v, M) else if x + 1 ≤ com M (zk M k) t then some (v, M) else some (v + 1, M) := fun v => by
        unfold f_Series_countBegins_68
        rw [a_Series_is w k12, xc_of (e_exceptionTo w k12 (by omega) (by omega)), show ((0 : Int)).toNat = 0 from rfl, ← htt]
        by_cases z : t = -1
        · rw [eq_T z, if_pos z, stop _ _ _ (by omega) (by omega)]
        · rw [eq_F z (by omega) (by omega) (by omega) (by omega), if_neg z, a_Series_is w k12, xc_of (e_exceptionTo w k12 (by omega) (by omega)), show ((0 : Int)).toNat = 0 from rfl, ← htt, a_Zone_is w zl, ct z, xcl_e]
          by_cases z2 : com M (zk M k) t < x - len + 1
          · rw [lt_T z2 (by omega) (by omega), if_pos z2, stop _ _ _ (by omega) (by omega)]
          · rw [lt_F (by omega) (by omega) (by omega), if_neg z2]
            by_cases z3 : x + 1 ≤ com M (zk M k) t
            · rw [le_T z3 (by omega) (by omega), if_pos z3, stop _ _ _ (by omega) (by omega)]
            · rw [le_F (by omega) (by omega) (by omega), if_neg z3, stop _ _ _ (by omega) (by omega)]
      by_cases z : t ≠ -1 ∧ x - len + 1 ≤ com M (zk M k) t ∧ com M (zk M k) t < x + 1
      · refine ⟨1, Or.inr rfl, ⟨fun _ => z, fun _ => rfl⟩, fun v => ?_⟩
        rw [e68, if_neg z.1, if_neg (by omega), if_neg (by omega)]
      · refine ⟨0, Or.inl rfl, ⟨fun z2 => by omega, fun z2 => (z z2).elim⟩, fun v => ?_⟩
        rw [e68, show v + 0 = v by omega]
        by_cases z1 : t = -1
        · rw [if_pos z1]
        · rw [if_neg z1]
          by_cases z2 : com M (zk M k) t < x - len + 1
          · rw [if_pos z2]
          · rw [if_neg z2, if_pos (by omega)]
    have e34 : f_Series_countBegins_34 O f f (29 + 6 * k) (12 + 3 * zk M k) (x - len + 1) (x + 1) a (b - 1) c1 0 M = some ((if e < a then c1 else if b - 1 < e then c1 else c1 - 1) + c2, M) := by
      have z : ∀ v, f_Series_countBegins_34 O f f (29 + 6 * k) (12 + 3 * zk M k) (x - len + 1) (x + 1) a (b - 1) v 0 M = f_Series_countBegins_34 O f (g + 1 + 1) (29 + 6 * k) (12 + 3 * zk M k) (x - len + 1) (x + 1) a (b - 1) v 0 M := fun v => by rw [← hfg]
      rw [z]
      show (gJ O M (29 + 6 * k) 10 7).bind _ = _
      rw [a_Series_exceptions w k12, q, le_F (by omega) (by omega) (by omega), a_Series_is w k12, xc_of (e_exceptionDay w k12 (by omega) (by omega)), show ((0 : Int)).toNat = 0 from rfl, ← he]
      by_cases z1 : e < a
      · rw [lt_T z1 (by omega) (by omega), if_pos z1, e68]
      · rw [lt_F (by omega) (by omega) (by omega), if_neg z1, a_Series_is w k12, xc_of (e_exceptionDay w k12 (by omega) (by omega)), show ((0 : Int)).toNat = 0 from rfl, ← he]
        by_cases z2 : b - 1 < e
        · rw [lt_T z2 (by omega) (by omega), if_pos z2, e68]
        · rw [lt_F (by omega) (by omega) (by omega), if_neg z2, e68, show c1 + (-1) = c1 - 1 by omega]
    obtain ⟨c3, ec3⟩ : ∃ c3, c3 = (if e < a then c1 else if b - 1 < e then c1 else c1 - 1) := ⟨_, rfl⟩
    rw [← ec3] at e34
    -- the regular date that counts
    have c3b : (c3 = 0 ∨ c3 = 1) ∧ (c3 = 1 ↔ (b = a + 1 ∧ D01 (iV M (30 + 6 * k)) a) ∧ e ≠ a) := by
      rw [ec3]
      by_cases z1 : e < a
      · rw [if_pos z1]
        exact ⟨hc1, ⟨fun z => ⟨cb.mp z, by omega⟩, fun z => cb.mpr z.1⟩⟩
      · rw [if_neg z1]
        by_cases z2 : b - 1 < e
        · rw [if_pos z2]
          refine ⟨hc1, ⟨fun z => ⟨cb.mp z, ?_⟩, fun z => cb.mpr z.1⟩⟩
          have := (cb.mp z).1
          omega
        · rw [if_neg z2]
          have ea' : e = a := by omega
          have : c1 = 1 := cb.mpr ⟨by omega, by rw [← ea']; exact ed⟩
          exact ⟨by omega, ⟨fun z => by omega, fun z => (z.2 ea').elim⟩⟩
    refine ⟨(c3 + c2).toNat, front _ ?_, by omega, fun F hF hFm => ?_⟩
    · rw [xcl_e, e34, show (((c3 + c2).toNat : Nat) : Int) = c3 + c2 by omega]
    · have be : ∀ d, e ≠ d → bg M k d = C0 M k d := fun d z => by
        unfold bg
        rw [exy d q, if_neg z, if_pos rfl]
        rfl
      have bt : bg M k e = if t = -1 then -1 else com M (zk M k) t := by
        unfold bg
        rw [exy e q, if_pos rfl, if_neg (by decide), show ((0 : Int)).toNat = 0 from rfl, ← htt]
      have tl := two_len hF (c1 := c3 = 1) (c2 := c2 = 1) (r1 := rw' (C0 M k a) k a) (r2 := rw' (com M (zk M k) t) k e) (fun z1 z2 => rdiff (fun z3 => (c3b.2.mp z1).2 z3.symm) (by omega) (by omega) (by omega) (by omega)) (fun y => by
        rw [hFm y]
        constructor
        · rintro ⟨d, d0, d1, d2, d3, d4⟩
          by_cases z : e = d
          · subst z
            rw [bt] at d1 d2 d3 d4
            by_cases z1 : t = -1
            · rw [if_pos z1] at d1
              exact (d1 rfl).elim
            · rw [if_neg z1] at d1 d2 d3 d4
              exact Or.inr ⟨cb2.mpr ⟨z1, by omega, by omega⟩, d4⟩
          · rw [be d z] at d1 d2 d3 d4
            obtain ⟨v1, v2⟩ := (reg d).mp ⟨by omega, by omega⟩
            subst v1
            exact Or.inl ⟨c3b.2.mpr ⟨⟨v2, d0⟩, z⟩, d4⟩
        · rintro (⟨z1, z2⟩ | ⟨z1, z2⟩)
          · obtain ⟨⟨v1, v2⟩, v4⟩ := c3b.2.mp z1
            have bd := be a v4
            have v3 := (reg a).mpr ⟨rfl, v1⟩
            exact ⟨a, v2, by rw [bd]; exact cpos a (by omega), by rw [bd]; omega, by rw [bd]; omega, by rw [bd]; exact z2⟩
          · obtain ⟨v1, v2, v3⟩ := cb2.mp z1
            have bd : bg M k e = com M (zk M k) t := by rw [bt, if_neg v1]
            exact ⟨e, ed, by rw [bd]; omega, by rw [bd]; omega, by rw [bd]; omega, by rw [bd]; exact z2⟩)
      rcases c3b.1 with z | z <;> rcases hc2 with z2 | z2
      · rw [tl.2.2.2 (by omega) (by omega), z, z2]
        rfl
      · rw [tl.2.2.1 (by omega) z2, z, z2]
        rfl
      · rw [tl.2.1 z (by omega), z, z2]
        rfl
      · rw [tl.1 z z2, z, z2]
        rfl
/-- a date is on at a minute -/
def onB2 (M : xM) (x : Int) (y : Int) : Bool := decide (rM y ≤ x ∧ x < rM y + iV M (29 + 6 * (rN y).toNat) 3)
theorem fil_split {P : Int → Bool} (K : Nat) : ∀ A : List Int, (∀ y, y ∈ A → 0 ≤ rN y) → (A.filter (fun y => P y && decide ((rN y).toNat < K + 1))).length = (A.filter (fun y => P y && decide ((rN y).toNat < K))).length + (A.filter (fun y => P y && decide ((rN y).toNat = K))).length
  | [], _ => rfl
  | y :: A, h => by
    have ih := fil_split (P := P) K A (fun z hz => h z (List.mem_cons_of_mem _ hz))
    rw [List.filter_cons, List.filter_cons, List.filter_cons]
    cases P y with
    | false =>
      simp only [Bool.false_and, if_neg (show ¬ (false = true) by decide)]
      exact ih
    | true =>
      simp only [Bool.true_and, decide_eq_true_eq]
      by_cases g : (rN y).toNat < K
      · rw [if_pos (by omega), if_pos g, if_neg (by omega), List.length_cons, List.length_cons, ih]
        omega
      · by_cases g2 : (rN y).toNat = K
        · rw [if_pos (by omega), if_neg g, if_pos g2, List.length_cons, List.length_cons, ih]
          omega
        · rw [if_neg (by omega), if_neg g, if_neg g2]
          exact ih
theorem datesAt_ok {pp : Int} (h : SR M m fd) (hm : m ≤ 12) (hp : p < 8) (hpp : pp = (p : Int)) (a : AL M m lo hi A) (x0 : 30000 ≤ x) (x1 : x ≤ 150000000) (l0 : lo ≤ x - 600) (l1 : x < hi) (ha : A.length ≤ 1000) (hf : 100 ≤ f) : f_Calendarhall_datesAt O f 1 pp x M = some ((((A.filter (fun y => onB2 M x y && tpB M p (rN y).toNat)).length : Nat) : Int), M) := by
  subst hpp
  have w := h.1.1
  obtain ⟨v, ev, hv⟩ := seriesOf_ok (O := O) (f := f) h hm hp (by omega)
  obtain ⟨v0, v1, v2⟩ := hv
  have e12 : (2 : Int) ^ 12 = 4096 := by decide
  have hn0 : ∀ y, y ∈ A → 0 ≤ rN y := fun y hy => (a.b h hm hy).1
  obtain ⟨P, eP⟩ : ∃ P : Int → Bool, P = fun y => onB2 M x y && tpB M p (rN y).toNat := ⟨_, rfl⟩
  have fl : ∀ K, (A.filter (fun y => P y && decide ((rN y).toNat < K))).length ≤ A.length := fun K => List.length_filter_le _ _
  have key : ∀ (n t K : Nat), K + n = 12 → n < t → f_Calendarhall_datesAt_27 O f t 1 x v (((A.filter (fun y => P y && decide ((rN y).toNat < K))).length : Nat) : Int) (K : Int) M = some ((((A.filter (fun y => P y && decide ((rN y).toNat < 12))).length : Nat) : Int), M) := by
    intro n
    induction n with
    | zero =>
      intro t K h1 h2
      obtain ⟨t, rfl⟩ : ∃ n', t = n' + 1 := ⟨t - 1, by omega⟩
      obtain rfl : K = 12 := by omega
      show (if yw 12 ≤ yw ((12 : Nat) : Int) then _ else _) = _
      rw [le_T (by omega) (by omega) (by omega)]
    | succ n ih =>
      intro t K h1 h2
      obtain ⟨t, rfl⟩ : ∃ n', t = n' + 1 := ⟨t - 1, by omega⟩
      have sp := fil_split (P := P) K A hn0
      have fK := fl K
      have q := ih t (K + 1) (by omega) (by omega)
      rw [show ((K + 1 : Nat) : Int) = (K : Int) + 1 by omega, sp] at q
      show (if yw 12 ≤ yw (K : Int) then _ else _) = _
      rw [le_F (by omega) (by omega) (by omega), a_Cal_hall w, a_Hall_is w, e_anySeries w (by omega) (by omega), xcl_e, show ((K : Int)).toNat = K by omega, bit_e v0 (by omega) (by omega) (by omega)]
      have bl := bitz_lt (x := v) (k := (K : Int))
      by_cases g : bitz v (K : Int) = 1
      · obtain ⟨g1, g2⟩ := (v2 K (by omega)).mp g
        have s := h.2.2.1 K g1
        have sl := s.1.2.2.2.1
        have zz := s.1.2.1
        obtain ⟨c, ec, c2, hc⟩ := countBegins_ok (O := O) (f := f) (x := x) h hm g1 x0 x1 (by omega)
        have hl := hc (A.filter (fun y => P y && decide ((rN y).toNat = K))) (List.Pairwise.filter _ a.1) (fun y => by
          rw [List.mem_filter, a.2 y, eP]
          constructor
          · rintro ⟨⟨k, k1, d, k2, k3⟩, k4⟩
            have sk := h.2.2.1 k k1
            have d1 := (nx01 (O := fun _ => none) (f := 0) (k := k) (by omega) sk.2.1).1 d k2
            have nn := rwB_N (M := M) (k := k) (nb := k) (by omega) (by omega) (by omega) k3
            obtain ⟨q1, q2, q3, q4⟩ := k3
            have k4' : (onB2 M x y && tpB M p (rN y).toNat && decide ((rN y).toNat = K)) = true := k4
            rw [Bool.and_eq_true, Bool.and_eq_true, decide_eq_true_eq] at k4'
            obtain ⟨⟨k5, k6⟩, k7⟩ := k4'
            have k5' : rM y ≤ x ∧ x < rM y + iV M (29 + 6 * (rN y).toNat) 3 := of_decide_eq_true k5
            obtain rfl : k = K := by omega
            rw [k7, nn.2.2] at k5'
            refine ⟨d, k2, q1, by omega, by omega, ?_⟩
            rw [q4, show bg M k d - 0 = bg M k d by omega]
          · rintro ⟨d, k2, q1, q2, q3, q4⟩
            have d1 := (nx01 (O := fun _ => none) (f := 0) (k := K) (by omega) s.2.1).1 d k2
            have k3 : rwB M K K 0 lo hi d y := ⟨q1, by omega, by omega, by rw [q4, show bg M K d - 0 = bg M K d by omega]⟩
            have nn := rwB_N (M := M) (k := K) (nb := K) (by omega) (by omega) (by omega) k3
            have kn : (rN y).toNat = K := by omega
            refine ⟨⟨K, g1, d, k2, k3⟩, ?_⟩
            show (onB2 M x y && tpB M p (rN y).toNat && decide ((rN y).toNat = K)) = true
            rw [Bool.and_eq_true, Bool.and_eq_true, decide_eq_true_eq]
            refine ⟨⟨decide_eq_true ?_, tpB_iff.mpr (by rw [kn]; exact g2)⟩, kn⟩
            rw [kn, nn.2.2]
            omega)
        rw [hl] at q
        rw [eq_T g, a_Cal_hall w, a_Hall_is w, xc_of (e_zoneOf w (by omega) zz.1 zz.2), a_Series_length w (by omega), a_Series_is w (by omega), ec, xcl_e]
        rw [show (((A.filter (fun y => P y && decide ((rN y).toNat < K))).length + c : Nat) : Int) = (((A.filter (fun y => P y && decide ((rN y).toNat < K))).length : Nat) : Int) + (c : Int) by omega] at q
        exact q
      · have hl : A.filter (fun y => P y && decide ((rN y).toNat = K)) = [] := by
          rw [List.filter_eq_nil_iff]
          intro y hy hP
          rw [eP] at hP
          have hP' : (onB2 M x y && tpB M p (rN y).toNat && decide ((rN y).toNat = K)) = true := hP
          rw [Bool.and_eq_true, Bool.and_eq_true, decide_eq_true_eq] at hP'
          obtain ⟨⟨k5, k6⟩, k7⟩ := hP'
          have b := a.b h hm hy
          rw [k7] at k6
          exact g ((v2 K (by omega)).mpr ⟨by omega, tpB_iff.mp k6⟩)
        rw [hl] at q
        rw [eq_F g (by omega) (by omega) (by omega) (by omega)]
        exact q
  have hpn : f_Calendarhall_personNumbered O f 1 (p : Int) M = some (21 + 1 * ((p : Int)).toNat, M) := e_personNumbered w (by omega) (by omega)
  have k0 := key 12 f 0 (by omega) (by omega)
  have z0 : A.filter (fun y => P y && decide ((rN y).toNat < 0)) = [] := by
    rw [List.filter_eq_nil_iff]
    intro y hy hP
    rw [Bool.and_eq_true, decide_eq_true_eq] at hP
    omega
  have z12 : A.filter (fun y => P y && decide ((rN y).toNat < 12)) = A.filter (fun y => onB2 M x y && tpB M p (rN y).toNat) := List.filter_congr (fun y hy => by
    have b := a.b h hm hy
    rw [decide_eq_true (show (rN y).toNat < 12 by omega), Bool.and_true, eP])
  rw [z0, z12] at k0
  unfold f_Calendarhall_datesAt
  rw [a_Cal_is w, hpn, xcl_e, xc_of (e_needMinute (by omega) (by omega)), a_Cal_hall w, a_Hall_is w, two_p hp, ev, xcl_e]
  exact k0
end DA2
end
/-! draft 632.freehelp -/
section
/-! ===== the law of free times: what it needs ===== -/
noncomputable def bB (P : Prop) : Bool := @decide P (Classical.propDecidable P)
theorem bB_iff {P : Prop} : bB P = true ↔ P := by
  unfold bB
  exact @decide_eq_true_iff P (Classical.propDecidable P)
theorem bB_f {P : Prop} : bB P = false ↔ ¬ P := by
  unfold bB
  exact @decide_eq_false_iff_not P (Classical.propDecidable P)
section FHP
variable {O : Nat → Option va_E} {f m p k n : Nat} {M N : xM} {x fd lo hi i : Int} {A : List Int} {γ : Type}
theorem z_wJB {K : xM → Option γ} (hb : inM M k) (hs : mS M k = .inr (2, n)) (h0 : 0 ≤ i) (h1 : i < n) (h2 : i ≤ 2147483647) (hx : x = 0 ∨ x = 1) : (wJB M k i x).bind K = K (iS M k i.toNat x) := by
  unfold wJB
  rw [c_wB hb.1 hb.2 hs h0 h1 ⟨by omega, h2⟩]
  have e : vp_nar .boolean (yw x) = yw x := by rcases hx with rfl | rfl <;> decide
  rw [e]
  rfl
/-- a reference put into a row of rows -/
def rS (M : xM) (k j v : Nat) : xM := msR M k (mup (mR M k) j (some v))
theorem z_wJR {K : xM → Option γ} {v c : Nat} (hb : inM M k) (hs : mS M k = .inr (5, n)) (hbv : inM M v) (hv : mS M v = .inr (0, c)) (h0 : 0 ≤ i) (h1 : i < n) (h2 : i ≤ 2147483647) : (wJR O M k i v).bind K = K (rS M k i.toNat v) := by
  have ok : wRok O M 5 v = true := by
    unfold wRok
    rw [hp_new_at hbv.1 hbv.2, hv]
    unfold mcell
    simp [hbv.1]
  unfold wJR wR
  rw [hs]
  dsimp only
  rw [if_pos ⟨by decide, c_wX hb.1 hb.2 hs h0 h1 ⟨by omega, h2⟩, ok⟩, yw_nat ⟨by omega, h2⟩]
  rfl
/-- work is the same all through an hour -/
theorem su_hour {s : Int} (h : s % 60 ≠ 0) : su s = su (s - 1) := by
  unfold su
  by_cases g : s < 434880 + 120 ∨ 646560 + 120 ≤ s
  · rw [if_pos g, if_pos (by omega)]
  · rw [if_neg g, if_neg (by omega)]
theorem wkL_hour {d fr tt l : Int} (hf : fr % 60 = 0) (ht : tt % 60 = 0) (h : l % 60 ≠ 0) : wkL d fr tt l ↔ wkL d fr tt (l - 1) := by
  have e : l / 1440 = (l - 1) / 1440 := by omega
  unfold wkL
  rw [e]
  constructor
  · rintro ⟨h1, h2, h3⟩
    exact ⟨by omega, by omega, h3⟩
  · rintro ⟨h1, h2, h3⟩
    exact ⟨by omega, by omega, h3⟩
/-- hours that are whole, zones by whole hours -/
def WH (M : xM) : Prop := (∀ z, z < 3 → iV M (12 + 3 * z) 0 % 60 = 0 ∧ (iV M (12 + 3 * z) 1 = 0 ∨ iV M (12 + 3 * z) 1 = 60)) ∧ ∀ p, p < 4 → iV M (21 + p) 2 % 60 = 0 ∧ iV M (21 + p) 3 % 60 = 0
theorem wk_hour (h : FR M m fd) (wh : WH M) (hp : p < 4) (x0 : 131001 ≤ x) (x1 : x < 760000) (hx : x % 60 ≠ 0) : wk M p x ↔ wk M p (x - 1) := by
  obtain ⟨⟨z0, z1⟩, -⟩ := h.2.2 p hp
  have zd := h.2.1 (iV M (21 + p) 0).toNat (by omega)
  have q := wh.1 (iV M (21 + p) 0).toNat (by omega)
  have hh := wh.2 p hp
  have l1 := loc_su zd (x := x) (by omega) (by omega)
  have l2 := loc_su zd (x := x - 1) (by omega) (by omega)
  have sh := su_hour (s := x + iV M (12 + 3 * (iV M (21 + p) 0).toNat) 0) (by omega)
  have s01 : su (x + iV M (12 + 3 * (iV M (21 + p) 0).toNat) 0) = 0 ∨ su (x + iV M (12 + 3 * (iV M (21 + p) 0).toNat) 0) = 1 := by
    unfold su
    split
    · exact Or.inr rfl
    · exact Or.inl rfl
  have e : loc M (iV M (21 + p) 0).toNat (x - 1) = loc M (iV M (21 + p) 0).toNat x - 1 := by
    rw [l1, l2, show x - 1 + iV M (12 + 3 * (iV M (21 + p) 0).toNat) 0 = x + iV M (12 + 3 * (iV M (21 + p) 0).toNat) 0 - 1 by omega, ← sh]
    omega
  have l60 : loc M (iV M (21 + p) 0).toNat x % 60 ≠ 0 := by
    rw [l1]
    rcases s01 with u | u <;> rcases q.2 with v | v <;> rw [u, v] <;> omega
  unfold wk
  rw [e]
  exact wkL_hour hh.1 hh.2 l60
/-- a person set -/
theorem setPerson_ok {pp z d a b : Int} (h : Bs M) (hpp : pp = (p : Int)) (hp : p < 8) (z0 : 0 ≤ z) (z1 : z < 3) (d0 : 0 ≤ d) (d1 : d ≤ 127) (a0 : 0 ≤ a) (ab : a < b) (b1 : b ≤ 1440) (hf : 20 ≤ f) : ∃ M' r, f_Calendarhall_setPerson O f 1 pp z d a b M = some (r, M') ∧ Bs M' ∧ Un (fun c => c = 0 ∨ 1044 ≤ c ∨ (1 < c ∧ c < 140 ∧ c ≠ 21 + p)) M M' ∧ iV M' (21 + p) 0 = z ∧ iV M' (21 + p) 1 = d ∧ iV M' (21 + p) 2 = a ∧ iV M' (21 + p) 3 = b := by
  subst hpp
  have hw := h.1
  obtain ⟨N, eN, uN, bN⟩ := bs_save (O := O) (f := f) h hf
  have wN := bN.1
  obtain ⟨L, eL⟩ : ∃ L, L = iS (iS (iS (iS N (21 + p) 0 z) (21 + p) 1 d) (21 + p) 2 a) (21 + p) 3 b := ⟨_, rfl⟩
  have uL : Un (fun c => c ≠ 21 + p) N L := by
    rw [eL]
    exact (((Un.rf.iS (by (try dsimp only); omega)).iS (by (try dsimp only); omega)).iS (by (try dsimp only); omega)).iS (by (try dsimp only); omega)
  have hpn : f_Calendarhall_personNumbered O f 1 (p : Int) M = some (21 + 1 * ((p : Int)).toNat, M) := e_personNumbered hw (by omega) (by omega)
  rw [show 21 + 1 * ((p : Int)).toNat = 21 + p by omega] at hpn
  have put : f_Person_put O f (21 + p) z d a b N = some ((), L) := by
    unfold f_Person_put
    rw [p_Person_zone wN hp, p_Person_days (M := iS N (21 + p) 0 z) wN hp, p_Person_from (M := iS (iS N (21 + p) 0 z) (21 + p) 1 d) wN hp, p_Person_to (M := iS (iS (iS N (21 + p) 0 z) (21 + p) 1 d) (21 + p) 2 a) wN hp, eL]
  refine ⟨L, iV M (21 + p) 0, ?_, bN.un uL (by (try dsimp only); omega) (fun k hk => by (try dsimp only); omega), (uN.le (fun a q => by (try dsimp only at q ⊢); omega)).tr (uL.le (fun a q => by (try dsimp only at q ⊢); omega)), ?_, ?_, ?_, ?_⟩
  · unfold f_Calendarhall_setPerson
    rw [a_Cal_is hw, hpn, xcl_e, a_Cal_is hw, e_zoneNumbered hw z0 z1, xcl_e, c_needRange d0 d1 (by omega) (by omega), c_needRange a0 (by omega) (by omega) (by omega), c_needRange (by omega) b1 (by omega) (by omega), a_Person_zone hw hp, a_Cal_is hw, eN, xcl_e, a_Person_is wN hp, put, xcl_e]
  · rw [eL, iV_o (by omega), iV_o (by omega), iV_o (by omega), iV_s (by omega) (by omega)]
  · rw [eL, iV_o (by omega), iV_o (by omega), iV_s (by omega) (by omega)]
  · rw [eL, iV_o (by omega), iV_s (by omega) (by omega)]
  · rw [eL, iV_s (by omega) (by omega)]
end FHP
end
/-! draft 633.freeloop -/
section
/-! ===== the law of free times: minute by minute ===== -/
def FB (B : xM) (m len : Nat) (fd lo : Int) (A : List Int) : Prop := FR B m fd ∧ WH B ∧ AL B m (lo - 600) (lo + len) A ∧ LTs 1049 B ∧ LTv 1049 B A ∧ B.1 = 1060 ∧ mS B 1044 = .inr (5, 4) ∧ mS B 1054 = .inr (2, len) ∧ mS B 1055 = .inr (5, 4) ∧ ∀ p, p < 4 → mR B 1044 p = some (1045 + p) ∧ mS B (1045 + p) = .inr (0, 4) ∧ (∀ j, j < 4 → iV B (1045 + p) j = iV B (21 + p) j) ∧ mR B 1055 p = some (1056 + p) ∧ mS B (1056 + p) = .inr (0, len)
def UB (a : Nat) : Prop := a ≠ 116 ∧ a ≠ 117 ∧ a ≠ 118 ∧ a ≠ 139 ∧ a ≠ 1054 ∧ ¬ (1056 ≤ a ∧ a < 1060)
section FLP
variable {O : Nat → Option va_E} {f m p k n len g mi : Nat} {B M N : xM} {x fd lo need iw : Int} {A : List Int}
theorem UB_116 {a : Nat} (h : a < 116) : UB a := by unfold UB; omega
theorem WH.of (h : WH M) (e : ∀ b j, 12 ≤ b → b < 101 → iV N b j = iV M b j) : WH N := by
  refine ⟨fun z hz => ?_, fun p hp => ?_⟩
  · rw [e _ _ (by omega) (by omega), e _ _ (by omega) (by omega)]
    exact h.1 z hz
  · rw [e _ _ (by omega) (by omega), e _ _ (by omega) (by omega)]
    exact h.2 p hp
theorem FB.un (h : FB B m len fd lo A) (hm : m ≤ 12) (u : Un UB B N) : FB N m len fd lo A := by
  obtain ⟨h1, h2, h3, h4, h5, h6, h7, h8, h9, h10⟩ := h
  have bN : Bs N := h1.1.1.un u (UB_116 (by omega)) (fun j hj => by unfold UB; omega)
  have iv : ∀ b j, b < 116 → iV N b j = iV B b j := fun b j hb => u.i (UB_116 hb)
  refine ⟨h1.un hm u bN (fun a a0 a1 => UB_116 (by omega)), h2.of (fun b j _ hb => iv b j (by omega)), h3.of h1.1 hm (fun b j _ hb => iv b j hb), h4.sm u.1, h5.kp h4 u.kp (fun a a0 a1 => by unfold UB; omega) (fun a a0 a1 => UB_116 (by omega)) (fun y hy => by
    have := h3.b h1.1 hm hy
    omega), by rw [u.1.1]; exact h6, by rw [u.1.s]; exact h7, by rw [u.1.s]; exact h8, by rw [u.1.s]; exact h9, fun p hp => ?_⟩
  obtain ⟨a1, a2, a3, a4, a5⟩ := h10 p hp
  refine ⟨by rw [u.1.r]; exact a1, by rw [u.1.s]; exact a2, fun j hj => ?_, by rw [u.1.r]; exact a4, by rw [u.1.s]; exact a5⟩
  rw [u.i (show UB (1045 + p) by unfold UB; omega), iv _ _ (by omega)]
  exact a3 j hj
/-- the dates that are on are counted -/
theorem fr_360 {K : Nat → Nat → Int → Int → Nat → Int → Int → Int → Nat → Nat → Int → Int → Int → Int → Int → Int → xM → Option (Int × xM)} {l4 : Int} {v14 v15 v16 v17 : Int} (h : FB N m len fd lo A) (hm : m ≤ 12) (hp : p < 4) (hA : A.length ≤ 132) (l0 : 131000 ≤ lo) (l1 : lo + len ≤ 750000) (hmi : mi < len) : ∀ (r t k : Nat), k + r = A.length → r < t → ∃ t', f_Law_areFree_360 O f K t 1 1044 lo (len : Int) 1049 (g : Int) need iw 1054 1055 (p : Int) v14 v15 v16 v17 (mi : Int) ((cnF (fun y => onB2 N (lo + mi) y && tpB N p (rN y).toNat) A k : Nat) : Int) (k : Int) N = f_Law_areFree_360 O f K (t' + 1) 1 1044 lo (len : Int) 1049 (g : Int) need iw 1054 1055 (p : Int) v14 v15 v16 v17 (mi : Int) ((cnF (fun y => onB2 N (lo + mi) y && tpB N p (rN y).toNat) A A.length : Nat) : Int) (A.length : Int) N := by
  obtain ⟨h1, h2, h3, h4, h5, h6, h7, h8, h9, h10⟩ := h
  intro r
  induction r with
  | zero =>
    intro t k hk ht
    obtain ⟨t, rfl⟩ : ∃ n', t = n' + 1 := ⟨t - 1, by omega⟩
    obtain rfl : k = A.length := by omega
    exact ⟨t, rfl⟩
  | succ r ih =>
    intro t k hk ht
    obtain ⟨t, rfl⟩ : ∃ n', t = n' + 1 := ⟨t - 1, by omega⟩
    have kz : ((k : Int)).toNat = k := by omega
    have hk' : k < A.length := by omega
    have b := h3.b h1.1 hm (getD_mem hk')
    have gk := h5.2.2 k hk'
    obtain ⟨t', e'⟩ := ih t (k + 1) (by omega) (by omega)
    have st : cnF (fun y => onB2 N (lo + mi) y && tpB N p (rN y).toNat) A (k + 1) = cnF (fun y => onB2 N (lo + mi) y && tpB N p (rN y).toNat) A k + (if (onB2 N (lo + mi) (A.getD k 0) && tpB N p (rN (A.getD k 0)).toNat) = true then 1 else 0) := rfl
    rw [show ((k + 1 : Nat) : Int) = (k : Int) + 1 by omega, st] at e'
    refine ⟨t', ?_⟩
    have no : (onB2 N (lo + mi) (A.getD k 0) && tpB N p (rN (A.getD k 0)).toNat) = false → f_Law_areFree_424 O f (f_Law_areFree_360 O f K t) 1 1044 lo (len : Int) 1049 (g : Int) need iw 1054 1055 (p : Int) v14 v15 v16 v17 (mi : Int) (k : Int) ((cnF (fun y => onB2 N (lo + mi) y && tpB N p (rN y).toNat) A k : Nat) : Int) N = f_Law_areFree_360 O f K (t' + 1) 1 1044 lo (len : Int) 1049 (g : Int) need iw 1054 1055 (p : Int) v14 v15 v16 v17 (mi : Int) ((cnF (fun y => onB2 N (lo + mi) y && tpB N p (rN y).toNat) A A.length : Nat) : Int) (A.length : Int) N := fun z => by
      rw [z, if_neg (by decide)] at e'
      unfold f_Law_areFree_424 f_Law_areFree_425
      rw [show ((cnF (fun y => onB2 N (lo + mi) y && tpB N p (rN y).toNat) A k : Nat) : Int) + 0 = ((cnF (fun y => onB2 N (lo + mi) y && tpB N p (rN y).toNat) A k + 0 : Nat) : Int) by omega]
      exact e'
    show (gJ O N 1049 13 4).bind _ = _
    rw [h4.gJ, h5.1, le_F (by omega) (by omega) (by omega), h4.gR (j := 2) (by decide), h4.aJ (j := 2) (by decide) (by omega) (by omega), kz, show 1049 + 1 + 2 = 1049 + 3 from rfl, gk.2.2.1]
    by_cases g1 : lo + mi < rM (A.getD k 0)
    · rw [lt_T g1 (by omega) (by omega)]
      refine no ?_
      rw [show onB2 N (lo + mi) (A.getD k 0) = false from decide_eq_false (by omega), Bool.false_and]
    · have en : f_LDates_end O f 1049 (k : Int) N = some (rM (A.getD k 0) + iV N (29 + 6 * (rN (A.getD k 0)).toNat) 3, N) := by
        unfold f_LDates_end
        rw [h4.gR (j := 2) (by decide), h4.aJ (j := 2) (by decide) (by omega) (by omega), h4.gR (j := 3) (by decide), h4.aJ (j := 3) (by decide) (by omega) (by omega), kz, show 1049 + 1 + 2 = 1049 + 3 from rfl, show 1049 + 1 + 3 = 1049 + 4 from rfl, gk.2.2.1, gk.2.2.2]
      rw [lt_F (by omega) (by omega) (by omega), h4.is, en, xcl_e]
      by_cases g2 : rM (A.getD k 0) + iV N (29 + 6 * (rN (A.getD k 0)).toNat) 3 ≤ lo + mi
      · rw [le_T g2 (by omega) (by omega)]
        refine no ?_
        rw [show onB2 N (lo + mi) (A.getD k 0) = false from decide_eq_false (by omega), Bool.false_and]
      · have on1 : onB2 N (lo + mi) (A.getD k 0) = true := decide_eq_true (by omega)
        obtain ⟨y, ey, oy⟩ := takesPart_ok (O := O) (f := f) (kk := rN (A.getD k 0)) (pp := (p : Int)) (k := (rN (A.getD k 0)).toNat) (p := p) h1.1 hm (by omega) b.2.1 rfl (by omega)
        rw [le_F (by omega) (by omega) (by omega), h4.gR (j := 0) (by decide), h4.aJ (j := 0) (by decide) (by omega) (by omega), kz, show 1049 + 1 + 0 = 1049 + 1 from rfl, gk.1, ey, xcl_e]
        rcases oy with ⟨rfl, t1⟩ | ⟨rfl, t1⟩
        · rw [on1, tpB_iff.mpr t1, Bool.and_self, if_pos rfl] at e'
          rw [eq_F (by omega) (by omega) (by omega) (by omega) (by omega)]
          unfold f_Law_areFree_425
          rw [show ((cnF (fun y => onB2 N (lo + mi) y && tpB N p (rN y).toNat) A k : Nat) : Int) + 1 = ((cnF (fun y => onB2 N (lo + mi) y && tpB N p (rN y).toNat) A k + 1 : Nat) : Int) by omega]
          exact e'
        · rw [eq_T rfl]
          refine no ?_
          rw [on1, show tpB N p (rN (A.getD k 0)).toNat = false from decide_eq_false t1]
          rfl
/-- what is written of a minute -/
def cM (z a : Bool) : Int := if z = true then 3 else if a = true then 0 else 1
def bI (b : Bool) : Int := if b = true then 1 else 0
def hB (g p : Nat) (iw : Int) (z a : Bool) : Bool := decide (g / 2 ^ p % 2 = 1) && (z || (decide (iw = 1) && !a))
theorem bI_r (b : Bool) : bI b = 0 ∨ bI b = 1 := by cases b <;> decide
theorem jor_01 {a b : Bool} : jor (bI a) (bI b) = bI (a || b) := by cases a <;> cases b <;> decide
theorem fr_494 {K : Nat → Nat → Int → Int → Nat → Int → Int → Int → Nat → Nat → Int → Int → Int → Int → Int → Int → xM → Option (Int × xM)} {v14 v15 v16 c : Int} {z a o : Bool} (h : FB N m len fd lo A) (hp : p < 4) (hg : g < 16) (hiw : iw = 0 ∨ iw = 1) (l1 : len ≤ 100000) (hmi : mi < len) (c0 : 0 ≤ c) (c1 : c ≤ 1000) (hz : z = true ↔ 0 < c) (ho : iV N 1054 mi = bI o) : f_Law_areFree_494 O f K 1 1044 lo (len : Int) 1049 (g : Int) need iw 1054 1055 (p : Int) v14 v15 v16 (bI a) (mi : Int) c N = K 1 1044 lo (len : Int) 1049 (g : Int) need iw 1054 1055 (p : Int) (v14 + bI z) (v15 + bI (z && a)) (v16 + bI a) (bI a) ((mi : Int) + 1) (iS (iS N (1056 + p) mi (cM z a)) 1054 mi (bI (o || hB g p iw z a))) := by
  obtain ⟨h1, h2, h3, h4, h5, h6, h7, h8, h9, h10⟩ := h
  obtain ⟨r1, r2, r3, r4, r5⟩ := h10 p hp
  have mz : ((mi : Int)).toNat = mi := by omega
  have i1055 : inM N 1055 := ⟨by decide, by omega⟩
  have i1056 : inM N (1056 + p) := ⟨by omega, by omega⟩
  have row : ∀ {X : Nat → Option (Int × xM)}, (aJR O N 1055 (p : Int)).bind X = X (1056 + p) := fun {X} => z_aJR i1055 h9 (by decide) (by omega) (by omega) (by omega) (by rw [show ((p : Int)).toNat = p by omega]; exact r4)
  obtain ⟨N1, eN1⟩ : ∃ N1, N1 = iS N (1056 + p) mi (cM z a) := ⟨_, rfl⟩
  have w1 : ∀ {X : xM → Option (Int × xM)}, (wJ N (1056 + p) (mi : Int) (cM z a)).bind X = X N1 := fun {X} => by
    rw [eN1]
    have := z_wJ (M := N) (k := 1056 + p) (i := (mi : Int)) (x := cM z a) (A := X) i1056 r5 (by omega) (by omega) (by omega)
    rw [mz] at this
    exact this
  have s1 : mS N1 1054 = .inr (2, len) := by rw [eN1]; exact h8
  have i1054 : inM N1 1054 := by rw [eN1]; exact ⟨by decide, by show 1054 < N.1; omega⟩
  have o1 : iV N1 1054 mi = bI o := by
    rw [eN1, iV_o (Or.inl (by omega))]
    exact ho
  have rd : ∀ {X : Int → Option (Int × xM)}, (aJB O N1 1054 (mi : Int)).bind X = X (bI o) := fun {X} => by
    have := z_aJB (O := O) (M := N1) (k := 1054) (i := (mi : Int)) (A := X) i1054 s1 (Or.inl rfl) (by omega) (by omega) (by omega)
    rw [mz, o1] at this
    exact this
  have wr : ∀ {X : xM → Option (Int × xM)} (y : Bool), (wJB N1 1054 (mi : Int) (bI y)).bind X = X (iS N1 1054 mi (bI y)) := fun {X} y => by
    have := z_wJB (M := N1) (k := 1054) (i := (mi : Int)) (x := bI y) (K := X) i1054 s1 (by omega) (by omega) (by omega) (bI_r y)
    rw [mz] at this
    exact this
  rw [← eN1]
  -- the last step
  have last : ∀ (b bo w : Int), f_Law_areFree_570 O f K 1 1044 lo (len : Int) 1049 (g : Int) need iw 1054 1055 (p : Int) b bo w (bI a) (mi : Int) c (1056 + p) (mi : Int) (cM z a) N = K 1 1044 lo (len : Int) 1049 (g : Int) need iw 1054 1055 (p : Int) b bo w (bI a) ((mi : Int) + 1) (iS N1 1054 mi (bI (o || hB g p iw z a))) := fun b bo w => by
    unfold f_Law_areFree_570
    rw [w1, rd, bit_g (by omega) (by omega)]
    have c608 : ∀ y : Bool, f_Law_areFree_608 O f K 1 1044 lo (len : Int) 1049 (g : Int) need iw 1054 1055 (p : Int) b bo w (bI a) (mi : Int) 1054 (mi : Int) (bI o) (bI y) N1 = K 1 1044 lo (len : Int) 1049 (g : Int) need iw 1054 1055 (p : Int) b bo w (bI a) ((mi : Int) + 1) (iS N1 1054 mi (bI (o || y))) := fun y => by
      unfold f_Law_areFree_608
      rw [jor_01, wr]
    have c603 : f_Law_areFree_603 O f K 1 1044 lo (len : Int) 1049 (g : Int) need iw 1054 1055 (p : Int) b bo w (bI a) (mi : Int) 1054 (mi : Int) (bI o) N1 = K 1 1044 lo (len : Int) 1049 (g : Int) need iw 1054 1055 (p : Int) b bo w (bI a) ((mi : Int) + 1) (iS N1 1054 mi (bI (o || true))) := c608 true
    have c607 : f_Law_areFree_607 O f K 1 1044 lo (len : Int) 1049 (g : Int) need iw 1054 1055 (p : Int) b bo w (bI a) (mi : Int) 1054 (mi : Int) (bI o) N1 = K 1 1044 lo (len : Int) 1049 (g : Int) need iw 1054 1055 (p : Int) b bo w (bI a) ((mi : Int) + 1) (iS N1 1054 mi (bI (o || false))) := c608 false
    unfold hB
    by_cases g1 : g / 2 ^ p % 2 = 1
    · rw [eq_T (by omega), decide_eq_true g1, Bool.true_and]
      by_cases g2 : 0 < c
      · rw [lt_T g2 (by omega) (by omega), c603, hz.mpr g2, Bool.true_or]
      · have zf : z = false := by
          cases z with
          | false => rfl
          | true => exact (g2 (hz.mp rfl)).elim
        rw [lt_F (by omega) (by omega) (by omega), zf, Bool.false_or]
        rcases hiw with rfl | rfl
        · rw [eq_T rfl, c607]
          rfl
        · rw [eq_F (by omega) (by omega) (by omega) (by omega) (by omega)]
          cases a with
          | false =>
            rw [show bI false = 0 from rfl, eq_T rfl]
            exact c603
          | true =>
            rw [show bI true = 1 from rfl, eq_F (by omega) (by omega) (by omega) (by omega) (by omega)]
            exact c607
    · rw [eq_F (by omega) (by omega) (by omega) (by omega) (by omega), c607, decide_eq_false g1, Bool.false_and]
  unfold f_Law_areFree_494 f_Law_areFree_506 f_Law_areFree_521 f_Law_areFree_540 f_Law_areFree_541
  by_cases g2 : 0 < c
  · have zt : z = true := hz.mpr g2
    subst zt
    cases a with
    | false => rw [le_F (by omega) (by omega) (by omega), show bI false = 0 from rfl, eq_T rfl, le_F (by omega) (by omega) (by omega), eq_T rfl, row, le_F (by omega) (by omega) (by omega)]; exact last _ _ _
    | true => rw [le_F (by omega) (by omega) (by omega), show bI true = 1 from rfl, eq_F (by omega) (by omega) (by omega) (by omega) (by omega), le_F (by omega) (by omega) (by omega), eq_F (by omega) (by omega) (by omega) (by omega) (by omega), row, le_F (by omega) (by omega) (by omega)]; exact last _ _ _
  · have zf : z = false := by
      cases z with
      | false => rfl
      | true => exact (g2 (hz.mp rfl)).elim
    subst zf
    cases a with
    | false => rw [le_T (by omega) (by omega) (by omega), show bI false = 0 from rfl, eq_T rfl, le_T (by omega) (by omega) (by omega), row, le_T (by omega) (by omega) (by omega), eq_T rfl]; exact last _ _ _
    | true => rw [le_T (by omega) (by omega) (by omega), show bI true = 1 from rfl, eq_F (by omega) (by omega) (by omega) (by omega) (by omega), le_T (by omega) (by omega) (by omega), row, le_T (by omega) (by omega) (by omega), eq_F (by omega) (by omega) (by omega) (by omega) (by omega)]; exact last _ _ _
end FLP
end
/-! draft 634.freeloop2 -/
section
/-! ===== the law of free times: all minutes of all people ===== -/
noncomputable def zgB (B : xM) (m : Nat) (lo : Int) (p i : Nat) : Bool := bB (bsy B m (fun k => tp B k p) (lo + i))
noncomputable def agB (B : xM) (lo : Int) (p i : Nat) : Bool := bB (wk B p (lo + i))
noncomputable def bdB (B : xM) (m g : Nat) (lo iw : Int) : Nat → Nat → Bool
  | 0, _ => false
  | p + 1, i => bdB B m g lo iw p i || hB g p iw (zgB B m lo p i) (agB B lo p i)
/-- what stands in the law's rows -/
def RB (B N : xM) (m len g : Nat) (lo iw : Int) (p mi : Nat) : Prop := Un UB B N ∧ (∀ q, q < p → ∀ i, i < len → iV N (1056 + q) i = cM (zgB B m lo q i) (agB B lo q i)) ∧ (∀ i, i < mi → iV N (1056 + p) i = cM (zgB B m lo p i) (agB B lo p i)) ∧ ∀ i, i < len → iV N 1054 i = bI (if i < mi then bdB B m g lo iw (p + 1) i else bdB B m g lo iw p i)
section FL2
variable {O : Nat → Option va_E} {f m p k n len g mi : Nat} {B M N : xM} {x fd lo need iw : Int} {A : List Int}
theorem cM_r (z a : Bool) : 0 ≤ cM z a ∧ cM z a ≤ 3 := by cases z <;> cases a <;> decide
theorem bsyB (h : FB B m len fd lo A) (hm : m ≤ 12) (u : Un UB B N) {v : Int} : bsy N m (fun k => tp N k p) v ↔ bsy B m (fun k => tp B k p) v := by
  have iv : ∀ b j, b < 116 → iV N b j = iV B b j := fun b j hb => u.i (UB_116 hb)
  exact (bsy_S (fun k hk => by
    unfold tp
    rw [iv _ _ (by omega), iv _ _ (by omega)])).trans (bsy_of h.1.1 hm (fun b j _ hb => iv b j hb))
theorem wkB (h : FB B m len fd lo A) (hp : p < 4) (u : Un UB B N) {v : Int} : wk N p v ↔ wk B p v := wk_of (h.1.2.2 p hp).1.2 (by omega) (fun b j _ hb => u.i (UB_116 (by omega)))
/-- is it work, told by the law's hours -/
theorem isWork_ok {l : Int} (h : FB N m len fd lo A) (hp : p < 4) (l0 : 0 ≤ l) (l1 : l ≤ 10000000) : ∃ y, f_Law_isWork O f (1045 + p) l N = some (y, N) ∧ ((y = 1 ∧ wkL (iV N (21 + p) 1) (iV N (21 + p) 2) (iV N (21 + p) 3) l) ∨ (y = 0 ∧ ¬ wkL (iV N (21 + p) 1) (iV N (21 + p) 2) (iV N (21 + p) 3) l)) := by
  obtain ⟨h1, h2, h3, h4, h5, h6, h7, h8, h9, h10⟩ := h
  obtain ⟨r1, r2, r3, r4, r5⟩ := h10 p hp
  obtain ⟨-, ⟨d0, d1⟩, f0, f1, f2⟩ := h1.2.2 p hp
  have i1 : inM N (1045 + p) := ⟨by omega, by omega⟩
  have rd : ∀ {X : Int → Option (Int × xM)} (j : Nat), j < 4 → (aJ O N (1045 + p) (j : Int)).bind X = X (iV N (21 + p) j) := fun {X} j hj => by
    have := z_aJ (O := O) (M := N) (k := 1045 + p) (i := (j : Int)) (A := X) i1 r2 (by omega) (by omega) (by omega)
    rw [show ((j : Int)).toNat = j by omega, r3 j hj] at this
    exact this
  have bl := bitz_lt (x := iV N (21 + p) 1) (k := (l / 1440 + 5) % 7)
  have e1 : jdiv l 1440 = l / 1440 := jdiv_e l0 (by omega) (by omega) (by omega)
  have e2 : l / 1440 + 5 - jdiv (l / 1440 + 5) 7 * 7 = (l / 1440 + 5) % 7 := jrem_e (by omega) (by omega) (by omega) (by omega)
  have e3 : l - l / 1440 * 1440 = l % 1440 := by omega
  unfold f_Law_isWork wkL
  have r1' := rd (X := fun x1 => if yw (jand (jshr x1 (jand (((jdiv l 1440) + 5) - (jdiv ((jdiv l 1440) + 5) 7) * 7) 31)) 1) = yw 1 then ((aJ O N (1045 + p) 2).bind fun x2 => if yw (l - (jdiv l 1440) * 1440) < yw x2 then (some (0, N)) else (aJ O N (1045 + p) 3).bind fun x3 => if yw x3 ≤ yw (l - (jdiv l 1440) * 1440) then (some (0, N)) else some (1, N)) else some (0, N)) 1 (by decide)
  have r1'' : (aJ O N (1045 + p) 1).bind _ = _ := r1'
  rw [r1'', e1, e2, e3, bit_e d0 (by omega) (by omega) (by omega)]
  by_cases g1 : bitz (iV N (21 + p) 1) ((l / 1440 + 5) % 7) = 1
  · have r2' := rd (X := fun x2 => if yw (l % 1440) < yw x2 then (some (0, N)) else (aJ O N (1045 + p) 3).bind fun x3 => if yw x3 ≤ yw (l % 1440) then (some (0, N)) else some (1, N)) 2 (by decide)
    have r2'' : (aJ O N (1045 + p) 2).bind _ = _ := r2'
    rw [eq_T g1, r2'']
    by_cases g2 : l % 1440 < iV N (21 + p) 2
    · rw [lt_T g2 (by omega) (by omega)]
      exact ⟨0, rfl, Or.inr ⟨rfl, fun z => by omega⟩⟩
    · have r3' := rd (X := fun x3 => if yw x3 ≤ yw (l % 1440) then (some (0, N)) else some ((1 : Int), N)) 3 (by decide)
      have r3'' : (aJ O N (1045 + p) 3).bind _ = _ := r3'
      rw [lt_F (by omega) (by omega) (by omega), r3'']
      by_cases g3 : iV N (21 + p) 3 ≤ l % 1440
      · rw [le_T g3 (by omega) (by omega)]
        exact ⟨0, rfl, Or.inr ⟨rfl, fun z => by omega⟩⟩
      · rw [le_F (by omega) (by omega) (by omega)]
        exact ⟨1, rfl, Or.inl ⟨rfl, by omega, by omega, g1⟩⟩
  · rw [eq_F g1 (by omega) (by omega) (by omega) (by omega)]
    exact ⟨0, rfl, Or.inr ⟨rfl, fun z => g1 z.2.2⟩⟩
/-- the dates count as busy -/
theorem cnt_busy (h : FB N m len fd lo A) (hm : m ≤ 12) (hmi : mi < len) : 0 < cnF (fun y => onB2 N (lo + mi) y && tpB N p (rN y).toNat) A A.length ↔ bsy N m (fun k => tp N k p) (lo + mi) := by
  obtain ⟨h1, h2, h3, h4, h5, h6, h7, h8, h9, h10⟩ := h
  rw [cnF_all, List.length_pos_iff_exists_mem]
  constructor
  · rintro ⟨y, hy⟩
    obtain ⟨y1, y2⟩ := List.mem_filter.mp hy
    have y2' : (onB2 N (lo + mi) y && tpB N p (rN y).toNat) = true := y2
    rw [Bool.and_eq_true] at y2'
    obtain ⟨y3, y4⟩ := y2'
    have y3' : rM y ≤ lo + mi ∧ lo + mi < rM y + iV N (29 + 6 * (rN y).toNat) 3 := of_decide_eq_true y3
    have b := h3.b h1.1 hm y1
    have d := h3.d01 h1.1 hm y1
    have bg0 := b.2.2.2.2.2.2.2.2.1
    have hz := h1.1.2.1
    rw [bg0] at y3'
    refine ⟨(rN y).toNat, b.2.1, tpB_iff.mp y4, rD y, d, ?_, y3'.1, y3'.2⟩
    have s := h1.1.2.2.1 _ b.2.1
    obtain ⟨k', k1, dd, k2, k3⟩ := (h3.2 y).mp y1
    have sk := h1.1.2.2.1 k' k1
    have d1 := (nx01 (O := fun _ => none) (f := 0) (k := k') (by omega) sk.2.1).1 dd k2
    have nn := rwB_N (M := N) (k := k') (nb := k') (by omega) (by omega) (by omega) k3
    rw [show (rN y).toNat = k' by omega, nn.2.1]
    exact k3.1
  · rintro ⟨k', k1, k2, d, k3, k4, k5, k6⟩
    have sk := h1.1.2.2.1 k' k1
    have sl := sk.1.2.2.2.1
    have d1 := (nx01 (O := fun _ => none) (f := 0) (k := k') (by omega) sk.2.1).1 d k3
    have q : rwB N k' k' 0 (lo - 600) (lo + len) d (rw' (bg N k' d - 0) k' d) := ⟨k4, by omega, by omega, rfl⟩
    have nn := rwB_N (M := N) (k := k') (nb := k') (by omega) (by omega) (by omega) q
    refine ⟨_, List.mem_filter.mpr ⟨(h3.2 _).mpr ⟨k', k1, d, k3, q⟩, ?_⟩⟩
    show (onB2 N (lo + mi) _ && tpB N p _) = true
    have kn : (rN (rw' (bg N k' d - 0) k' d)).toNat = k' := by omega
    rw [Bool.and_eq_true]
    refine ⟨decide_eq_true ?_, tpB_iff.mpr (by rw [kn]; exact k2)⟩
    rw [kn, nn.2.2]
    omega
/-- one minute -/
theorem fr_min {K : Nat → Nat → Int → Int → Nat → Int → Int → Int → Nat → Nat → Int → Int → Int → Int → Int → Int → xM → Option (Int × xM)} {v14 v15 v16 v17 : Int} (h : FB B m len fd lo A) (hm : m ≤ 12) (hp : p < 4) (hg : g < 16) (hiw : iw = 0 ∨ iw = 1) (hA : A.length ≤ 132) (l0 : 131001 ≤ lo) (l60 : lo % 60 = 0) (l1 : lo + len ≤ 750000) (l100 : len ≤ 4400) (hmi : mi < len) (rb : RB B N m len g lo iw p mi) (hv : mi % 60 = 0 ∨ v17 = bI (agB B lo p (mi - 1))) (hf : 1000 ≤ f) : ∃ N', f_Law_areFree_360 O f K f 1 1044 lo (len : Int) 1049 (g : Int) need iw 1054 1055 (p : Int) v14 v15 v16 v17 (mi : Int) 0 0 N = K 1 1044 lo (len : Int) 1049 (g : Int) need iw 1054 1055 (p : Int) (v14 + bI (zgB B m lo p mi)) (v15 + bI (zgB B m lo p mi && agB B lo p mi)) (v16 + bI (agB B lo p mi)) (bI (agB B lo p mi)) ((mi : Int) + 1) N' ∧ RB B N' m len g lo iw p (mi + 1) := by
  obtain ⟨u, rb1, rb2, rb3⟩ := rb
  have hN := h.un hm u
  have hN' := hN
  obtain ⟨h1, h2, h3, h4, h5, h6, h7, h8, h9, h10⟩ := hN'
  obtain ⟨r1, r2, r3, r4, r5⟩ := h10 p hp
  have w := h1.1.1.1
  obtain ⟨t', e'⟩ := fr_360 (O := O) (f := f) (K := K) (g := g) (need := need) (iw := iw) (v14 := v14) (v15 := v15) (v16 := v16) (v17 := v17) (l4 := 0) hN hm hp hA (by omega) l1 hmi A.length f 0 (by omega) (by omega)
  have e0 : f_Law_areFree_360 O f K f 1 1044 lo (len : Int) 1049 (g : Int) need iw 1054 1055 (p : Int) v14 v15 v16 v17 (mi : Int) 0 0 N = _ := e'
  obtain ⟨c, ec⟩ : ∃ c, c = cnF (fun y => onB2 N (lo + mi) y && tpB N p (rN y).toNat) A A.length := ⟨_, rfl⟩
  have cb := cnt_busy (p := p) hN hm hmi
  have cl : c ≤ A.length := by rw [ec]; exact cnF_n _
  rw [← ec] at e0 cb
  have z1 : zgB B m lo p mi = true ↔ 0 < (c : Int) := by
    unfold zgB
    rw [bB_iff, ← bsyB h hm u, ← cb]
    omega
  have old : iV N 1054 mi = bI (bdB B m g lo iw p mi) := by
    rw [rb3 mi hmi, if_neg (by omega)]
  refine ⟨iS (iS N (1056 + p) mi (cM (zgB B m lo p mi) (agB B lo p mi))) 1054 mi (bI (bdB B m g lo iw p mi || hB g p iw (zgB B m lo p mi) (agB B lo p mi))), ?_, ?_, ?_, ?_, ?_⟩
  · have w1044 : inM N 1044 := ⟨by decide, by omega⟩
    have hz := (h1.2.2 p hp).1
    have zv := (h1.2.1 (iV N (21 + p) 0).toNat (by omega)).1
    have lr := loc_r (M := N) (k := (iV N (21 + p) 0).toNat) (c := lo + mi) zv
    have row : ∀ {X : Nat → Option (Int × xM)}, (aJR O N 1044 (p : Int)).bind X = X (1045 + p) := fun {X} => z_aJR w1044 h7 (by decide) (by omega) (by omega) (by omega) (by rw [show ((p : Int)).toNat = p by omega]; exact r1)
    have zon : ∀ {X : Int → Option (Int × xM)}, (aJ O N (1045 + p) 0).bind X = X (iV N (21 + p) 0) := fun {X} => by
      have := z_aJ (O := O) (M := N) (k := 1045 + p) (i := 0) (A := X) ⟨by omega, by omega⟩ r2 (by omega) (by omega) (by omega)
      rw [this]
      exact congrArg X (r3 0 (by decide))
    have tl := e_toLocal (O := O) (f := f) (z := iV N (21 + p) 0) (c := lo + mi) w hz.1 hz.2 zv (by omega) (by omega)
    obtain ⟨y, ey, oy⟩ := isWork_ok (O := O) (f := f) (l := loc N (iV N (21 + p) 0).toNat (lo + mi)) hN hp (by omega) (by omega)
    have ya : y = bI (agB B lo p mi) := by
      have wq : wk B p (lo + mi) ↔ wkL (iV N (21 + p) 1) (iV N (21 + p) 2) (iV N (21 + p) 3) (loc N (iV N (21 + p) 0).toNat (lo + mi)) := (wkB h hp u).symm
      rcases oy with ⟨rfl, q⟩ | ⟨rfl, q⟩
      · rw [show agB B lo p mi = true from bB_iff.mpr (wq.mpr q)]
        rfl
      · rw [show agB B lo p mi = false from bB_f.mpr (fun z => q (wq.mp z))]
        rfl
    have f494 := fr_494 (O := O) (f := f) (K := K) (need := need) (v14 := v14) (v15 := v15) (v16 := v16) (c := (c : Int)) (z := zgB B m lo p mi) (a := agB B lo p mi) (o := bdB B m g lo iw p mi) hN hp hg hiw (by omega) hmi (by omega) (by omega) z1 old
    have f460 : f_Law_areFree_460 O f K 1 1044 lo (len : Int) 1049 (g : Int) need iw 1054 1055 (p : Int) v14 v15 v16 v17 (mi : Int) (c : Int) N = f_Law_areFree_494 O f K 1 1044 lo (len : Int) 1049 (g : Int) need iw 1054 1055 (p : Int) v14 v15 v16 (bI (agB B lo p mi)) (mi : Int) (c : Int) N := by
      unfold f_Law_areFree_460
      rw [jrem_e (by omega) (by omega) (by omega) (by omega)]
      by_cases g6 : mi % 60 = 0
      · rw [eq_T (by omega), row, row, zon, a_Cal_is w, tl, xcl_e, ey, xcl_e, ya]
      · have v := hv.resolve_left g6
        have sm := wk_hour (x := lo + (mi : Int)) h.1 h.2.1 hp (by omega) (by omega) (by omega)
        have ab : agB B lo p mi = agB B lo p (mi - 1) := by
          rw [show lo + (mi : Int) - 1 = lo + ((mi - 1 : Nat) : Int) by omega] at sm
          by_cases q : wk B p (lo + mi)
          · rw [show agB B lo p mi = true from bB_iff.mpr q, show agB B lo p (mi - 1) = true from bB_iff.mpr (sm.mp q)]
          · rw [show agB B lo p mi = false from bB_f.mpr q, show agB B lo p (mi - 1) = false from bB_f.mpr (fun z => q (sm.mpr z))]
        rw [eq_F (by omega) (by omega) (by omega) (by omega) (by omega), v, ab]
    rw [e0]
    show (gJ O N 1049 13 4).bind _ = _
    rw [h4.gJ, h5.1, le_T (by omega) (by omega) (by omega), jrem_e (by omega) (by omega) (by omega) (by omega)]
    by_cases g9 : mi % 97 = 0
    · have da := datesAt_ok (O := O) (f := f) (x := lo + (mi : Int)) h1.1 hm (show p < 8 by omega) rfl h3 (by omega) (by omega) (by omega) (by omega) (by omega) (by omega)
      rw [← cnF_all, ← ec] at da
      rw [eq_T (by omega), a_Cal_is w, da, xcl_e, eq_T rfl, f460]
      exact f494
    · rw [eq_F (by omega) (by omega) (by omega) (by omega) (by omega), f460]
      exact f494
  · exact (u.iS (by unfold UB; omega)).iS (by unfold UB; omega)
  · intro q hq i hi
    rw [iV_o (Or.inl (by omega)), iV_o (Or.inl (by omega))]
    exact rb1 q hq i hi
  · intro i hi
    rw [iV_o (Or.inl (by omega))]
    by_cases z : i = mi
    · have cr := cM_r (zgB B m lo p mi) (agB B lo p mi)
      rw [z, iV_s (by omega) (by omega)]
    · rw [iV_o (Or.inr z)]
      exact rb2 i (by omega)
  · intro i hi
    by_cases z : i = mi
    · have br := bI_r (bdB B m g lo iw p mi || hB g p iw (zgB B m lo p mi) (agB B lo p mi))
      rw [z, iV_s (by omega) (by omega), if_pos (by omega)]
      rfl
    · rw [iV_o (Or.inr z), iV_o (Or.inl (by omega)), rb3 i hi]
      by_cases z2 : i < mi
      · rw [if_pos z2, if_pos (by omega)]
      · rw [if_neg z2, if_neg (by omega)]
end FL2
end
