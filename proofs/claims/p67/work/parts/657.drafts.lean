/-! draft 657.right -/
section
/-! ===== a rule is right: all kinds ===== -/
/-- told is the next day from d on -/
def tdR (r : Nat → Int) (d x : Int) : Prop := (x = -1 ∧ ∀ e, d ≤ e → ¬ Dg r e) ∨ (d ≤ x ∧ Dg r x ∧ ∀ e, d ≤ e → e < x → ¬ Dg r e)
section IRG
variable {O : Nat → Option va_E} {f k : Nat} {M : xM}
theorem rr_84 {K : Nat → Int → Int → Int → xM → Option (Int × xM)} {v1 v2 v3 v4 : Int} (h : Wd M) (hk : k < 12) (hr : RVg (iV M (30 + 6 * k))) (d0 : 10 ≤ v3) (d1 : v3 ≤ 146000) (t : tdR (iV M (30 + 6 * k)) v3 v1) (hv : (v4 = 1 ∧ Dg (iV M (30 + 6 * k)) v3) ∨ (v4 = 0 ∧ ¬ Dg (iV M (30 + 6 * k)) v3)) (hf : 10000 ≤ f) : ∃ x, f_Rule_isRight_84 O f K (30 + 6 * k) v1 v2 v3 v4 M = K (30 + 6 * k) x v2 (v3 + 1) M ∧ tdR (iV M (30 + 6 * k)) (v3 + 1) x := by
  have l1 := hr.2.2.2.2.2.2.2.2.1
  have v1b : -1 ≤ v1 ∧ v1 ≤ 146000 := by
    rcases t with ⟨z, -⟩ | ⟨z1, z2, -⟩
    · omega
    · have := z2.2.1
      omega
  unfold f_Rule_isRight_84
  rcases hv with ⟨rfl, q⟩ | ⟨rfl, q⟩
  · have e : v1 = v3 := by
      rcases t with ⟨z1, z2⟩ | ⟨z1, z2, z3⟩
      · exact (z2 v3 (Int.le_refl _) q).elim
      · by_cases c : v3 < v1
        · exact (z3 v3 (Int.le_refl _) c q).elim
        · omega
    obtain ⟨x, ex, ox⟩ := nextG_ok (O := O) (f := f) h hk hr (d := v3 + 1) (by omega) (by omega) hf
    rw [eq_T e]
    unfold f_Rule_isRight_96
    rw [eq_T rfl, eq_F (by omega) (by omega) (by omega) (by omega) (by omega), a_Rule_is h hk, ex, xcl_e]
    exact ⟨x, rfl, ox⟩
  · have e : v1 ≠ v3 := fun z => by
      rcases t with ⟨z1, z2⟩ | ⟨z1, z2, z3⟩
      · omega
      · rw [z] at z2
        exact q z2
    rw [eq_F e (by omega) (by omega) (by omega) (by omega)]
    unfold f_Rule_isRight_96
    rw [eq_T rfl, eq_T rfl]
    refine ⟨v1, rfl, ?_⟩
    rcases t with ⟨z1, z2⟩ | ⟨z1, z2, z3⟩
    · exact Or.inl ⟨z1, fun e he => z2 e (by omega)⟩
    · exact Or.inr ⟨by omega, z2, fun e q0 q1 => z3 e (by omega) q1⟩
theorem isRightG_ok (h : Wd M) (hk : k < 12) (hr : RVg (iV M (30 + 6 * k))) (so : SO (iV M (30 + 6 * k))) (hf : 10000 ≤ f) : f_Rule_isRight O f (30 + 6 * k) M = some (1, M) := by
  have f0 : 10 ≤ iV M (30 + 6 * k) 0 ∧ iV M (30 + 6 * k) 0 ≤ 146000 := hr.1
  have r5 := iV_r M (30 + 6 * k) 5
  have r6 := iV_r M (30 + 6 * k) 6
  have key : ∀ (n t : Nat) (v1 v2 v3 : Int), iV M (30 + 6 * k) 0 + 800 - v3 ≤ n → n < t → iV M (30 + 6 * k) 0 ≤ v3 → v3 ≤ iV M (30 + 6 * k) 0 + 800 → v2 = ((nD (hol (iV M (30 + 6 * k))) (iV M (30 + 6 * k) 0) (v3 - 1) : Nat) : Int) → tdR (iV M (30 + 6 * k)) v3 v1 → f_Rule_isRight_16 O f t (30 + 6 * k) v1 v2 v3 M = some (1, M) := by
    intro n
    induction n with
    | zero =>
      intro t v1 v2 v3 hn ht d0 d1 e2 td
      obtain ⟨t, rfl⟩ : ∃ n', t = n' + 1 := ⟨t - 1, by omega⟩
      show (if yw 146000 < yw v3 then some (1, M) else _) = _
      by_cases c : 146000 < v3
      · rw [lt_T c (by omega) (by omega)]
      · rw [lt_F (by omega) (by omega) (by omega), a_Rule_first h hk, le_T (by omega) (by omega) (by omega)]
    | succ n ih =>
      intro t v1 v2 v3 hn ht d0 d1 e2 td
      obtain ⟨t, rfl⟩ : ∃ n', t = n' + 1 := ⟨t - 1, by omega⟩
      show (if yw 146000 < yw v3 then some (1, M) else _) = _
      by_cases c : 146000 < v3
      · rw [lt_T c (by omega) (by omega)]
      rw [lt_F (by omega) (by omega) (by omega), a_Rule_first h hk]
      by_cases c2 : iV M (30 + 6 * k) 0 + 800 ≤ v3
      · rw [le_T c2 (by omega) (by omega)]
      obtain ⟨b, eb, ob⟩ := holds_ok (O := O) (f := f) h hk hr (d := v3) d0 (by omega) (by omega)
      rw [le_F (by omega) (by omega) (by omega), a_Rule_is h hk, eb, xcl_e]
      have sd := so v3 d0 (by omega)
      have ln := nD_le (P := hol (iV M (30 + 6 * k))) (a := iV M (30 + 6 * k) 0) (b := v3) (by omega)
      have ll := nD_last (P := hol (iV M (30 + 6 * k))) (a := iV M (30 + 6 * k) 0) (b := v3) d0
      -- the branch by the end
      have fin : ∀ w : Int, w = ((nD (hol (iV M (30 + 6 * k))) (iV M (30 + 6 * k) 0) v3 : Nat) : Int) → f_Rule_isRight_49 O f (f_Rule_isRight_16 O f t) (30 + 6 * k) v1 w v3 b M = some (1, M) := by
        intro w ew
        have go : ∀ v4 : Int, ((v4 = 1 ∧ Dg (iV M (30 + 6 * k)) v3) ∨ (v4 = 0 ∧ ¬ Dg (iV M (30 + 6 * k)) v3)) → f_Rule_isRight_84 O f (f_Rule_isRight_16 O f t) (30 + 6 * k) v1 w v3 v4 M = some (1, M) := fun v4 hv => by
          obtain ⟨x, ex, tx⟩ := rr_84 (O := O) (K := f_Rule_isRight_16 O f t) (v2 := w) h hk hr (by omega) (by omega) td hv hf
          rw [ex]
          exact ih t x w (v3 + 1) (by omega) (by omega) (by omega) (by omega) (by rw [ew, show v3 + 1 - 1 = v3 by omega]) tx
        have no : ¬ Dg (iV M (30 + 6 * k)) v3 → f_Rule_isRight_81 O f (f_Rule_isRight_16 O f t) (30 + 6 * k) v1 w v3 M = some (1, M) := fun q => by
          unfold f_Rule_isRight_81
          exact go 0 (Or.inr ⟨rfl, q⟩)
        unfold f_Rule_isRight_49
        rw [a_Rule_how h hk]
        have s65 : (iV M (30 + 6 * k) 5 = 1 → w ≤ iV M (30 + 6 * k) 6) → f_Rule_isRight_65 O f (f_Rule_isRight_16 O f t) (30 + 6 * k) v1 w v3 b M = some (1, M) := fun hw => by
          unfold f_Rule_isRight_65
          rw [a_Rule_how h hk]
          by_cases g2 : iV M (30 + 6 * k) 5 = 2
          · rw [eq_T g2, a_Rule_number h hk]
            by_cases g3 : v3 ≤ iV M (30 + 6 * k) 6
            · rw [le_T g3 (by omega) (by omega)]
              refine go b ?_
              rcases ob with ⟨y1, y2⟩ | ⟨y1, y2⟩
              · exact Or.inl ⟨y1, sd.mpr ⟨y2, fun z => by omega, fun _ => g3⟩⟩
              · exact Or.inr ⟨y1, fun z => y2 (sd.mp z).1⟩
            · rw [le_F (by omega) (by omega) (by omega)]
              exact no (fun z => by have := (sd.mp z).2.2 g2; omega)
          · rw [eq_F g2 (by omega) (by omega) (by omega) (by omega)]
            refine go b ?_
            rcases ob with ⟨y1, y2⟩ | ⟨y1, y2⟩
            · exact Or.inl ⟨y1, sd.mpr ⟨y2, fun z => by have := hw z; omega, fun z => (g2 z).elim⟩⟩
            · exact Or.inr ⟨y1, fun z => y2 (sd.mp z).1⟩
        by_cases g1 : iV M (30 + 6 * k) 5 = 1
        · rw [eq_T g1, a_Rule_number h hk]
          by_cases g3 : iV M (30 + 6 * k) 6 < w
          · rw [lt_T g3 (by omega) (by omega)]
            exact no (fun z => by have := (sd.mp z).2.1 g1; omega)
          · rw [lt_F (by omega) (by omega) (by omega)]
            exact s65 (fun _ => by omega)
        · rw [eq_F g1 (by omega) (by omega) (by omega) (by omega)]
          exact s65 (fun z => (g1 z).elim)
      rcases ob with ⟨y1, y2⟩ | ⟨y1, y2⟩
      · rw [eq_F (by omega) (by omega) (by omega) (by omega) (by omega)]
        refine fin (v2 + 1) ?_
        rw [ll.1 y2, e2]
        omega
      · rw [eq_T y1]
        refine fin v2 ?_
        rw [ll.2 y2, e2]
  obtain ⟨y, ey, oy⟩ := nextG_ok (O := O) (f := f) h hk hr (d := iV M (30 + 6 * k) 0) (by omega) (by omega) hf
  unfold f_Rule_isRight
  rw [a_Rule_first h hk, a_Rule_is h hk, ey, xcl_e, a_Rule_first h hk]
  exact key 800 f y 0 _ (by omega) (by omega) (by omega) (by omega) (by rw [nD_e (by omega)]; rfl) oy
end IRG
end
/-! draft 658.lholds -/
section
/-! ===== the law's rule: its days ===== -/
def LRp (m : Nat) (M : xM) : Prop := inM M m ∧ mS M m = .inl 16
/-- what the law draws of a rule -/
def LVr (r : Nat → Int) : Prop := (10 ≤ r 0 ∧ r 0 ≤ 3009) ∧ (0 ≤ r 1 ∧ r 1 ≤ 5) ∧ (r 1 ≠ 0 → 1 ≤ r 2 ∧ r 2 ≤ 20) ∧ (r 1 = 0 → r 2 = 0) ∧ (0 ≤ r 3 ∧ r 3 ≤ 127) ∧ (r 1 = 2 ∨ r 1 = 4 → 1 ≤ r 3) ∧ (r 1 ≠ 2 → r 1 ≠ 4 → r 3 = 0) ∧ (-31 ≤ r 4 ∧ r 4 ≤ 31) ∧ (r 1 = 3 → r 4 ≠ 0) ∧ (r 1 = 4 → r 4 ≠ 0 ∧ -5 ≤ r 4 ∧ r 4 ≤ 5) ∧ (r 1 ≠ 3 → r 1 ≠ 4 → r 4 = 0) ∧ ((r 5 = 0 ∧ r 6 = 0) ∨ (r 5 = 1 ∧ 1 ≤ r 6 ∧ r 6 ≤ 12) ∨ (r 5 = 2 ∧ r 0 ≤ r 6 ∧ r 6 ≤ r 0 + 899))
section LHO
variable {O : Nat → Option va_E} {f n m : Nat} {M N : xM} {d x : Int} {γ : Type}
theorem LRp.sm (h : LRp m M) (s : Sm M N) : LRp m N := ⟨s.inM h.1, by rw [s.s]; exact h.2⟩
theorem LRp.is (h : LRp m M) {A : Unit → Option γ} : (isO O M m 16).bind A = A () := z_is h.1 h.2
theorem LRp.gJ (h : LRp m M) {j : Nat} (hj : j < 7) {A : Int → Option γ} : (gJ O M m 16 j).bind A = A (iV M m j) := by
  have q : ∀ j, j < 7 → j < xNf 16 ∧ xkI (xTy 16 j) = true := by decide
  exact z_gJ h.1 h.2 (q j hj).1 (q j hj).2
theorem LRp.pJ (h : LRp m M) {j : Nat} (hj : j < 7) {A : xM → Option γ} : (pJ M m 16 j x).bind A = A (iS M m j x) := by
  have q : ∀ j, j < 7 → j < xNf 16 ∧ xkI (xTy 16 j) = true ∧ ∀ v, xfit (xTy 16 j) (.int v) = true := by
    intro j hj
    have : j = 0 ∨ j = 1 ∨ j = 2 ∨ j = 3 ∨ j = 4 ∨ j = 5 ∨ j = 6 := by omega
    rcases this with rfl | rfl | rfl | rfl | rfl | rfl | rfl <;> exact ⟨by decide, by decide, fun _ => rfl⟩
  exact z_pJ h.1 h.2 (q j hj).1 (q j hj).2.1 ((q j hj).2.2 _)
theorem e_LDfirst (h : LD n M) (h0 : 0 ≤ d) (h1 : d < 6000) : f_LDays_first O f n d M = some (cBegin (cMonth d), M) := by
  unfold f_LDays_first
  rw [h.1.gR (j := 2) (by decide), h.at (j := 2) (by decide) h0 h1]
  show some (d - (d - cBegin (cMonth d) + 1) + 1, M) = _
  rw [show d - (d - cBegin (cMonth d) + 1) + 1 = cBegin (cMonth d) by omega]
theorem c_LDfirst (h : LD n M) (h0 : 0 ≤ d) (h1 : d < 6000) {δ : Type} {A : _ → xM → Option δ} : xcl (f_LDays_first O f n d M) A = A (cBegin (cMonth d)) (M) := xc_of (e_LDfirst h h0 h1) A
theorem e_LDlast (h : LD n M) (h0 : 0 ≤ d) (h1 : d < 6000) : f_LDays_last O f n d M = some (cBegin (cMonth d) + cLen (cMonth d) - 1, M) := by
  have c := c_in h0 (by omega)
  unfold f_LDays_last
  rw [h.1.is, e_LDfirst h h0 h1, xcl_e, h.1.gR (j := 0) (by decide), h.at (j := 0) (by decide) h0 h1, h.1.gR (j := 1) (by decide), h.at (j := 1) (by decide) h0 h1, h.1.is]
  show (xcl (f_LDays_length O f n (2000 + cMonth d / 12) (cMonth d % 12 + 1) M) _) = _
  rw [xc_of (e_LDlength (by omega) (by omega) (by omega) (by omega)), show 12 * (2000 + cMonth d / 12 - 2000) + (cMonth d % 12 + 1) - 1 = cMonth d by omega]
theorem c_LDlast (h : LD n M) (h0 : 0 ≤ d) (h1 : d < 6000) {δ : Type} {A : _ → xM → Option δ} : xcl (f_LDays_last O f n d M) A = A (cBegin (cMonth d) + cLen (cMonth d) - 1) (M) := xc_of (e_LDlast h h0 h1) A
/-- the set's bit of a day -/
theorem ls_bit {S : Int} (h : LD n M) (h0 : 0 ≤ d) (h1 : d < 6000) (s0 : 0 ≤ S) (s1 : S ≤ 127) {A : Int → Option γ} : ((gR O M n 14 3).bind fun x => (aJ O M x d).bind fun y => A (jand (jshr S (jand y 31)) 1)) = A (bitz S ((d + 5) % 7)) := by
  rw [h.1.gR (j := 3) (by decide), h.at (j := 3) (by decide) h0 h1]
  show A (jand (jshr S (jand ((d + 5) % 7) 31)) 1) = _
  rw [bit_e s0 (by omega) (by omega) (by omega)]
theorem kS_s {S a : Int} {j : Nat} : kS S a (j + 1) = kS S a j + (if setB S (a + j) = true then 1 else 0) := rfl
theorem lh_372 {v5 : Int} {c : Prop} (h : LD n M) (hr : LRp m M) (h0 : 0 ≤ d) (h1 : d < 6000) (s0 : 0 ≤ iV M m 3) (s1 : iV M m 3 ≤ 127) (p0 : -31 ≤ iV M m 4) (p1 : iV M m 4 ≤ 31) (v0 : 0 ≤ v5) (v1 : v5 ≤ 100) (hc : c ↔ bitz (iV M m 3) ((d + 5) % 7) = 1 ∧ v5 = ((iV M m 4).natAbs : Int)) : ∃ b, f_LRule_holds_372 O f m n d v5 M = some (b, M) ∧ ((b = 1 ∧ c) ∨ (b = 0 ∧ ¬ c)) := by
  have bl := bitz_lt (x := iV M m 3) (k := (d + 5) % 7)
  unfold f_LRule_holds_372
  rw [hr.gJ (j := 3) (by decide), ls_bit (A := fun z => if yw z = yw 1 then _ else _) h h0 h1 s0 s1]
  by_cases g : bitz (iV M m 3) ((d + 5) % 7) = 1
  · rw [eq_T g, hr.gJ (j := 4) (by decide), xc_of (e_abs (by omega) (by omega))]
    by_cases g2 : v5 = ((iV M m 4).natAbs : Int)
    · rw [eq_T g2]
      exact ⟨1, rfl, Or.inl ⟨rfl, hc.mpr ⟨g, g2⟩⟩⟩
    · rw [eq_F g2 (by omega) (by omega) (by omega) (by omega)]
      exact ⟨0, rfl, Or.inr ⟨rfl, fun z => g2 (hc.mp z).2⟩⟩
  · rw [eq_F g (by omega) (by omega) (by omega) (by omega)]
    exact ⟨0, rfl, Or.inr ⟨rfl, fun z => g (hc.mp z).1⟩⟩
theorem lh_300 {e : Int} (h : LD n M) (hr : LRp m M) (h0 : 0 ≤ e) (h1 : d < 6000) (s0 : 0 ≤ iV M m 3) (s1 : iV M m 3 ≤ 127) (hl : d ≤ e + 40) : ∀ (r t j : Nat), e + j + r = d + 1 → r < t → f_LRule_holds_300 O f t m n d (((kS (iV M m 3) e j : Nat)) : Int) (e + j) M = f_LRule_holds_372 O f m n d (((kS (iV M m 3) e (d - e + 1).toNat : Nat)) : Int) M := by
  intro r
  induction r with
  | zero =>
    intro t j hj ht
    obtain ⟨t, rfl⟩ : ∃ n', t = n' + 1 := ⟨t - 1, by omega⟩
    show (if yw d < yw (e + (j : Int)) then _ else _) = _
    rw [lt_T (by omega) (by omega) (by omega), show (d - e + 1).toNat = j by omega]
  | succ r ih =>
    intro t j hj ht
    obtain ⟨t, rfl⟩ : ∃ n', t = n' + 1 := ⟨t - 1, by omega⟩
    have bl := bitz_lt (x := iV M m 3) (k := (e + (j : Int) + 5) % 7)
    show (if yw d < yw (e + (j : Int)) then _ else _) = _
    rw [lt_F (by omega) (by omega) (by omega), hr.gJ (j := 3) (by decide), ls_bit (A := fun z => xlet (_ + z) fun x4 => f_LRule_holds_300 O f t m n d x4 (e + (j : Int) + 1) M) h (by omega) (by omega) s0 s1, xlet_e, ← ih t (j + 1) (by omega) (by omega), kS_s]
    unfold setB
    by_cases g : bitz (iV M m 3) ((e + (j : Int) + 5) % 7) = 1
    · rw [if_pos (decide_eq_true g), g, show e + (((j + 1 : Nat)) : Int) = e + j + 1 by omega]
      rfl
    · rw [if_neg (fun z => g (of_decide_eq_true z)), show bitz (iV M m 3) ((e + (j : Int) + 5) % 7) = 0 by omega, show e + (((j + 1 : Nat)) : Int) = e + j + 1 by omega, Int.add_zero, Nat.add_zero]
theorem lh_337 (h : LD n M) (hr : LRp m M) (h0 : 0 ≤ d) (h1 : d < 5900) (s0 : 0 ≤ iV M m 3) (s1 : iV M m 3 ≤ 127) : ∀ (r t j : Nat), (j : Int) + r = bhd d + 1 → r < t → f_LRule_holds_337 O f t m n d (((kS (iV M m 3) d j : Nat)) : Int) (d + j) M = f_LRule_holds_372 O f m n d (((kS (iV M m 3) d (bhd d + 1).toNat : Nat)) : Int) M := by
  have ad := ahd_r (d := d) h0 (by omega)
  have eb : cBegin (cMonth d) + cLen (cMonth d) - 1 = d + bhd d := by
    unfold bhd ahd
    omega
  intro r
  induction r with
  | zero =>
    intro t j hj ht
    obtain ⟨t, rfl⟩ : ∃ n', t = n' + 1 := ⟨t - 1, by omega⟩
    show ((isO O M n 14).bind fun _ => _) = _
    rw [h.1.is, e_LDlast h h0 (by omega), xcl_e, eb, lt_T (by omega) (by omega) (by omega), show (bhd d + 1).toNat = j by omega]
  | succ r ih =>
    intro t j hj ht
    obtain ⟨t, rfl⟩ : ∃ n', t = n' + 1 := ⟨t - 1, by omega⟩
    have bl := bitz_lt (x := iV M m 3) (k := (d + (j : Int) + 5) % 7)
    show ((isO O M n 14).bind fun _ => _) = _
    rw [h.1.is, e_LDlast h h0 (by omega), xcl_e, eb, lt_F (by omega) (by omega) (by omega), hr.gJ (j := 3) (by decide), ls_bit (A := fun z => xlet (_ + z) fun x4 => f_LRule_holds_337 O f t m n d x4 (d + (j : Int) + 1) M) h (by omega) (by omega) s0 s1, xlet_e, ← ih t (j + 1) (by omega) (by omega), kS_s]
    unfold setB
    by_cases g : bitz (iV M m 3) ((d + (j : Int) + 5) % 7) = 1
    · rw [if_pos (decide_eq_true g), g, show d + (((j + 1 : Nat)) : Int) = d + j + 1 by omega]
      rfl
    · rw [if_neg (fun z => g (of_decide_eq_true z)), show bitz (iV M m 3) ((d + (j : Int) + 5) % 7) = 0 by omega, show d + (((j + 1 : Nat)) : Int) = d + j + 1 by omega, Int.add_zero, Nat.add_zero]
end LHO
end
/-! draft 659.lholds -/
section
/-! ===== the law's rule holds on a day ===== -/
section LHP
variable {O : Nat → Option va_E} {f n m : Nat} {M N : xM} {d x : Int} {γ : Type}
theorem lh_57 (h : LD n M) (hr : LRp m M) (hv : LVr (iV M m)) (k2 : 2 ≤ iV M m 1) (h0 : iV M m 0 ≤ d) (h1 : d < 5900) (hf : 100 ≤ f) : ∀ (r t : Nat) (a : Int), a + r = d → r < t → iV M m 0 ≤ a → ∃ b, f_LRule_holds_57 O f t m n d ((a + 5) / 7 - (iV M m 0 + 5) / 7) a M = some (b, M) ∧ ((b = 1 ∧ hol (iV M m) d) ∨ (b = 0 ∧ ¬ hol (iV M m) d)) := by
  obtain ⟨⟨f0, f1⟩, ⟨-, k5⟩, st, -, ⟨s0, s1⟩, -, -, ⟨p0, p1⟩, pm, ps, -⟩ := hv
  have st' := st (by omega)
  -- an answer
  have ans : ∀ {c : Prop} {x y : Int}, (c ↔ x = y) → -2147483648 ≤ x → x ≤ 2147483647 → -2147483648 ≤ y → y ≤ 2147483647 → ∃ b, (if yw x = yw y then (some (1, M) : Option (Int × xM)) else some (0, M)) = some (b, M) ∧ ((b = 1 ∧ c) ∨ (b = 0 ∧ ¬ c)) := fun {c x y} hc x0 x1 y0 y1 => by
    by_cases g : x = y
    · rw [eq_T g]
      exact ⟨1, rfl, Or.inl ⟨rfl, hc.mpr g⟩⟩
    · rw [eq_F g x0 x1 y0 y1]
      exact ⟨0, rfl, Or.inr ⟨rfl, fun z => g (hc.mp z)⟩⟩
  intro r
  induction r with
  | succ r ih =>
    intro t a ha ht a0
    obtain ⟨t, rfl⟩ : ∃ n', t = n' + 1 := ⟨t - 1, by omega⟩
    obtain ⟨b, eb, ob⟩ := ih t (a + 1) (by omega) (by omega) (by omega)
    refine ⟨b, ?_, ob⟩
    rw [← eb]
    show (if yw d ≤ yw a then _ else _) = _
    rw [le_F (by omega) (by omega) (by omega), h.1.gR (j := 3) (by decide), h.at (j := 3) (by decide) (by omega) (by omega)]
    show (if yw ((a + 5) % 7) = yw 6 then _ else _) = _
    unfold f_LRule_holds_81
    by_cases g : (a + 5) % 7 = 6
    · rw [eq_T g, show (a + 1 + 5) / 7 - (iV M m 0 + 5) / 7 = (a + 5) / 7 - (iV M m 0 + 5) / 7 + 1 by omega]
    · rw [eq_F g (by omega) (by omega) (by omega) (by omega), show (a + 1 + 5) / 7 - (iV M m 0 + 5) / 7 = (a + 5) / 7 - (iV M m 0 + 5) / 7 + 0 by omega]
  | zero =>
    intro t a ha ht a0
    obtain ⟨t, rfl⟩ : ∃ n', t = n' + 1 := ⟨t - 1, by omega⟩
    obtain rfl : a = d := by omega
    have bl := bitz_lt (x := iV M m 3) (k := (a + 5) % 7)
    show ∃ b, (if yw a ≤ yw a then _ else _) = _ ∧ _
    rw [le_T (Int.le_refl _) (by omega) (by omega), hr.gJ (j := 1) (by decide)]
    by_cases c2 : iV M m 1 = 2
    · have e0 := Int.emod_nonneg ((a + 5) / 7 - (iV M m 0 + 5) / 7) (show iV M m 2 ≠ 0 by omega)
      have e1 := Int.emod_lt_of_pos ((a + 5) / 7 - (iV M m 0 + 5) / 7) (show 0 < iV M m 2 by omega)
      rw [eq_T c2, hr.gJ (j := 2) (by decide), eq_F (by omega) (by omega) (by omega) (by omega) (by omega), xlet_e, jrem_e (by omega) (by omega) (by omega) (by omega)]
      have hh := hol2 (r := iV M m) (d := a) c2
      by_cases g : ((a + 5) / 7 - (iV M m 0 + 5) / 7) % iV M m 2 = 0
      · rw [eq_T g, hr.gJ (j := 3) (by decide), ls_bit (A := fun z => if yw z = yw 1 then _ else _) h (by omega) (by omega) s0 s1]
        exact ans ⟨fun z => (hh.mp z).1, fun z => hh.mpr ⟨z, g⟩⟩ (by omega) (by omega) (by omega) (by omega)
      · rw [eq_F g (by omega) (by omega) (by omega) (by omega)]
        exact ⟨0, rfl, Or.inr ⟨rfl, fun z => g (hh.mp z).2⟩⟩
    · have k3 : 3 ≤ iV M m 1 := by omega
      have hh := hol3 (r := iV M m) (d := a) k3
      have ad := ahd_r (d := a) (by omega) (by omega)
      have af := ahd_r (d := iV M m 0) (by omega) (by omega)
      have mm := c_month_mono (d := iV M m 0) (e := a) (by omega) (by omega) (by omega)
      have em : 12 * (2000 + cMonth a / 12 - (2000 + cMonth (iV M m 0) / 12)) + (cMonth a % 12 + 1) - (cMonth (iV M m 0) % 12 + 1) = cMonth a - cMonth (iV M m 0) := by omega
      rw [eq_F c2 (by omega) (by omega) (by omega) (by omega), h.1.gR (j := 0) (by decide), h.at (j := 0) (by decide) (by omega) (by omega), h.1.gR (j := 0) (by decide), hr.gJ (j := 0) (by decide), h.at (j := 0) (by decide) (by omega) (by omega), h.1.gR (j := 1) (by decide), h.at (j := 1) (by decide) (by omega) (by omega), h.1.gR (j := 1) (by decide), hr.gJ (j := 0) (by decide), h.at (j := 1) (by decide) (by omega) (by omega), xlet_e, hr.gJ (j := 1) (by decide)]
      have el : 12 * (ldV 0 a - ldV 0 (iV M m 0)) + ldV 1 a - ldV 1 (iV M m 0) = cMonth a - cMonth (iV M m 0) := em
      rw [el]
      by_cases c5 : iV M m 1 = 5
      · have es : sdR (iV M m) = 12 * iV M m 2 := if_pos c5
        have hm : mcR (iV M m) a ↔ ahd a = ahd (iV M m 0) := by
          unfold mcR
          rw [if_pos c5]
        rw [es, hm] at hh
        have e0 := Int.emod_nonneg (cMonth a - cMonth (iV M m 0)) (show 12 * iV M m 2 ≠ 0 by omega)
        have e1 := Int.emod_lt_of_pos (cMonth a - cMonth (iV M m 0)) (show 0 < 12 * iV M m 2 by omega)
        rw [eq_T c5, hr.gJ (j := 2) (by decide), eq_F (by omega) (by omega) (by omega) (by omega) (by omega), xlet_e, jrem_e (by omega) (by omega) (by omega) (by omega)]
        by_cases g : (cMonth a - cMonth (iV M m 0)) % (12 * iV M m 2) = 0
        · rw [eq_T g, h.1.gR (j := 2) (by decide), h.at (j := 2) (by decide) (by omega) (by omega), h.1.gR (j := 2) (by decide), hr.gJ (j := 0) (by decide), h.at (j := 2) (by decide) (by omega) (by omega)]
          have q1 : ldV 2 a = ahd a + 1 := rfl
          have q2 : ldV 2 (iV M m 0) = ahd (iV M m 0) + 1 := rfl
          rw [q1, q2]
          exact ans ⟨fun z => by have := (hh.mp z).2; omega, fun z => hh.mpr ⟨g, by omega⟩⟩ (by omega) (by omega) (by omega) (by omega)
        · rw [eq_F g (by omega) (by omega) (by omega) (by omega)]
          exact ⟨0, rfl, Or.inr ⟨rfl, fun z => g (hh.mp z).1⟩⟩
      · have es : sdR (iV M m) = iV M m 2 := if_neg c5
        rw [es] at hh
        have e0 := Int.emod_nonneg (cMonth a - cMonth (iV M m 0)) (show iV M m 2 ≠ 0 by omega)
        have e1 := Int.emod_lt_of_pos (cMonth a - cMonth (iV M m 0)) (show 0 < iV M m 2 by omega)
        rw [eq_F c5 (by omega) (by omega) (by omega) (by omega), hr.gJ (j := 2) (by decide), eq_F (by omega) (by omega) (by omega) (by omega) (by omega), xlet_e, jrem_e (by omega) (by omega) (by omega) (by omega)]
        by_cases g : (cMonth a - cMonth (iV M m 0)) % iV M m 2 = 0
        · have h2 : hol (iV M m) a ↔ mcR (iV M m) a := hh.trans ⟨fun z => z.2, fun z => ⟨g, z⟩⟩
          rw [eq_T g, hr.gJ (j := 1) (by decide)]
          by_cases c3 : iV M m 1 = 3
          · rw [eq_T c3, hr.gJ (j := 4) (by decide)]
            by_cases gp : iV M m 4 ≤ 0
            · have hm : mcR (iV M m) a ↔ bhd a + 1 = -iV M m 4 := by
                unfold mcR
                rw [if_neg c5, if_pos c3, if_neg (by omega)]
              have eb : cBegin (cMonth a) + cLen (cMonth a) - 1 - a = bhd a := by
                unfold bhd ahd
                omega
              rw [le_T gp (by omega) (by omega), h.1.is, e_LDlast h (by omega) (by omega), xcl_e, hr.gJ (j := 4) (by decide), eb]
              exact ans ⟨fun z => by have := hm.mp (h2.mp z); omega, fun z => h2.mpr (hm.mpr (by omega))⟩ (by omega) (by omega) (by omega) (by omega)
            · have hm : mcR (iV M m) a ↔ ahd a + 1 = iV M m 4 := by
                unfold mcR
                rw [if_neg c5, if_pos c3, if_pos (by omega)]
              have q1 : ldV 2 a = ahd a + 1 := rfl
              rw [le_F (by omega) (by omega) (by omega), h.1.gR (j := 2) (by decide), h.at (j := 2) (by decide) (by omega) (by omega), hr.gJ (j := 4) (by decide), q1]
              exact ans ⟨fun z => hm.mp (h2.mp z), fun z => h2.mpr (hm.mpr z)⟩ (by omega) (by omega) (by omega) (by omega)
          · rw [eq_F c3 (by omega) (by omega) (by omega) (by omega), hr.gJ (j := 4) (by decide)]
            have ps' := ps (by omega)
            by_cases gp : iV M m 4 ≤ 0
            · have hm : mcR (iV M m) a ↔ bitz (iV M m 3) ((a + 5) % 7) = 1 ∧ ((kS (iV M m 3) a (bhd a + 1).toNat : Nat) : Int) = ((iV M m 4).natAbs : Int) := by
                unfold mcR
                rw [if_neg c5, if_neg c3, if_neg (show ¬ 0 < iV M m 4 by omega), show (((iV M m 4).natAbs : Nat) : Int) = -iV M m 4 by omega]
              have kl := kS_le (S := iV M m 3) (a := a) (n := (bhd a + 1).toNat)
              have e3 := lh_337 (O := O) (f := f) h hr (d := a) (by omega) h1 s0 s1 (bhd a + 1).toNat f 0 (by omega) (by omega)
              rw [show (((kS (iV M m 3) a 0 : Nat)) : Int) = 0 from rfl, show a + ((0 : Nat) : Int) = a by omega] at e3
              rw [le_T gp (by omega) (by omega), e3]
              exact lh_372 h hr (by omega) (by omega) s0 s1 p0 p1 (by omega) (by omega) (h2.trans hm)
            · have hm : mcR (iV M m) a ↔ bitz (iV M m 3) ((a + 5) % 7) = 1 ∧ ((kS (iV M m 3) (a - ahd a) (ahd a + 1).toNat : Nat) : Int) = ((iV M m 4).natAbs : Int) := by
                unfold mcR
                rw [if_neg c5, if_neg c3, if_pos (show 0 < iV M m 4 by omega), show (((iV M m 4).natAbs : Nat) : Int) = iV M m 4 by omega]
              have kl := kS_le (S := iV M m 3) (a := a - ahd a) (n := (ahd a + 1).toNat)
              have ca : cBegin (cMonth a) = a - ahd a := by
                unfold ahd
                omega
              have e3 := lh_300 (O := O) (f := f) h hr (d := a) (e := a - ahd a) (by omega) (by omega) s0 s1 (by omega) (ahd a + 1).toNat f 0 (by omega) (by omega)
              rw [show (((kS (iV M m 3) (a - ahd a) 0 : Nat)) : Int) = 0 from rfl, show a - ahd a + ((0 : Nat) : Int) = a - ahd a by omega, show a - (a - ahd a) + 1 = ahd a + 1 by omega] at e3
              rw [le_F (by omega) (by omega) (by omega), h.1.is, e_LDfirst h (by omega) (by omega), xcl_e, ca, e3]
              exact lh_372 h hr (by omega) (by omega) s0 s1 p0 p1 (by omega) (by omega) (h2.trans hm)
        · rw [eq_F g (by omega) (by omega) (by omega) (by omega)]
          exact ⟨0, rfl, Or.inr ⟨rfl, fun z => g (hh.mp z).1⟩⟩
theorem lholds_ok (h : LD n M) (hr : LRp m M) (hv : LVr (iV M m)) (h0 : iV M m 0 ≤ d) (h1 : d < iV M m 0 + 1000) (hf : 10000 ≤ f) : ∃ b, f_LRule_holds O f m n d M = some (b, M) ∧ ((b = 1 ∧ hol (iV M m) d) ∨ (b = 0 ∧ ¬ hol (iV M m) d)) := by
  have hv' := hv
  obtain ⟨⟨f0, f1⟩, ⟨k0, k5⟩, st, -⟩ := hv'
  -- an answer
  have ans : ∀ {c : Prop} {x y : Int}, (c ↔ x = y) → -2147483648 ≤ x → x ≤ 2147483647 → -2147483648 ≤ y → y ≤ 2147483647 → ∃ b, (if yw x = yw y then (some (1, M) : Option (Int × xM)) else some (0, M)) = some (b, M) ∧ ((b = 1 ∧ c) ∨ (b = 0 ∧ ¬ c)) := fun {c x y} hc x0 x1 y0 y1 => by
    by_cases g : x = y
    · rw [eq_T g]
      exact ⟨1, rfl, Or.inl ⟨rfl, hc.mpr g⟩⟩
    · rw [eq_F g x0 x1 y0 y1]
      exact ⟨0, rfl, Or.inr ⟨rfl, fun z => g (hc.mp z)⟩⟩
  unfold f_LRule_holds
  rw [hr.gJ (j := 1) (by decide)]
  by_cases c0 : iV M m 1 = 0
  · rw [eq_T c0, hr.gJ (j := 0) (by decide)]
    refine ans ?_ (by omega) (by omega) (by omega) (by omega)
    unfold hol
    rw [if_pos c0]
  have st' := st c0
  rw [eq_F c0 (by omega) (by omega) (by omega) (by omega), hr.gJ (j := 1) (by decide)]
  by_cases c1 : iV M m 1 = 1
  · have e0 := Int.emod_nonneg (d - iV M m 0) (show iV M m 2 ≠ 0 by omega)
    have e1 := Int.emod_lt_of_pos (d - iV M m 0) (show 0 < iV M m 2 by omega)
    rw [eq_T c1, hr.gJ (j := 0) (by decide), hr.gJ (j := 2) (by decide), eq_F (by omega) (by omega) (by omega) (by omega) (by omega), xlet_e, jrem_e (by omega) (by omega) (by omega) (by omega)]
    refine ans ?_ (by omega) (by omega) (by omega) (by omega)
    unfold hol
    rw [if_neg c0, if_pos c1]
  rw [eq_F c1 (by omega) (by omega) (by omega) (by omega), hr.gJ (j := 0) (by decide)]
  have kk := lh_57 (O := O) (f := f) h hr hv (by omega) h0 (by omega) (by omega) (d - iV M m 0).toNat f (iV M m 0) (by omega) (by omega) (Int.le_refl _)
  rw [show (iV M m 0 + 5) / 7 - (iV M m 0 + 5) / 7 = 0 by omega] at kk
  exact kk
end LHP
end
/-! draft 660.ldraw -/
section
/-! ===== the law's rule is drawn ===== -/
/-- the end as the law draws it -/
def LVe (r : Nat → Int) : Prop := (r 5 = 0 ∧ r 6 = 0) ∨ (r 5 = 1 ∧ 1 ≤ r 6 ∧ r 6 ≤ 12) ∨ (r 5 = 2 ∧ r 0 ≤ r 6 ∧ r 6 ≤ r 0 + 899)
section LDW
variable {O : Nat → Option va_E} {f m : Nat} {M N : xM} {x fd : Int}
theorem ld_158 (w : Wd M) (hr : LRp m M) (hm : 1 < m) (f0 : 10 ≤ iV M m 0) (f1 : iV M m 0 ≤ 3009) (x0 : -31 ≤ x) (x1 : x ≤ 31) : ∃ M', f_LRule_draw_158 O f m 0 m x M = some ((), M') ∧ Wd M' ∧ Un (fun a => a ≠ 0 ∧ a ≠ m) M M' ∧ (∀ j, j < 4 → iV M' m j = iV M m j) ∧ iV M' m 4 = x ∧ LVe (iV M' m) := by
  obtain ⟨A, eA⟩ : ∃ A, A = iS M m 4 x := ⟨_, rfl⟩
  have wA : Wd A := by rw [eA]; exact w
  have rA : LRp m A := by rw [eA]; exact hr
  have uA : Un (fun a => a ≠ 0 ∧ a ≠ m) M A := by rw [eA]; exact Un.rf.iS (by (try dsimp only); omega)
  have A4 : iV A m 4 = x := by rw [eA, iV_s (by omega) (by omega)]
  have Ao : ∀ j, j ≠ 4 → iV A m j = iV M m j := fun j hj => by rw [eA, iV_o (by omega)]
  obtain ⟨h, B, eB, h0, h1, wB, uB, iB⟩ := dn_ok (O := O) (f := f) (m := 3) wA (by omega) (by omega)
  have rB : LRp m B := rA.sm uB.1
  obtain ⟨C, eC⟩ : ∃ C, C = iS B m 5 h := ⟨_, rfl⟩
  have wC : Wd C := by rw [eC]; exact wB
  have rC : LRp m C := by rw [eC]; exact rB
  have uC : Un (fun a => a ≠ 0 ∧ a ≠ m) M C := by
    rw [eC]
    exact (uA.tr (uB.le (fun a q => by (try dsimp only at q ⊢); omega))).iS (by (try dsimp only); omega)
  have C5 : iV C m 5 = h := by rw [eC, iV_s (by omega) (by omega)]
  have Co : ∀ j, j ≠ 5 → iV C m j = iV A m j := fun j hj => by rw [eC, iV_o (by omega), iB]
  -- the number
  have fin : ∀ (D : xM) (y : Int), Un (fun a => a ≠ 0) C D → (∀ a j, iV D a j = iV C a j) → -1000000 ≤ y → y ≤ 1000000 → ((h = 0 ∧ y = 0) ∨ (h = 1 ∧ 1 ≤ y ∧ y ≤ 12) ∨ (h = 2 ∧ iV M m 0 ≤ y ∧ y ≤ iV M m 0 + 899)) → ∃ M', f_LRule_draw_213 O f m y D = some ((), M') ∧ Wd M' ∧ Un (fun a => a ≠ 0 ∧ a ≠ m) M M' ∧ (∀ j, j < 4 → iV M' m j = iV M m j) ∧ iV M' m 4 = x ∧ LVe (iV M' m) := by
    intro D y uD iD y0 y1 hy
    have rD : LRp m D := rC.sm uD.1
    have e : ∀ j, j ≠ 4 → j ≠ 5 → j ≠ 6 → iV (iS D m 6 y) m j = iV M m j := fun j j4 j5 j6 => by rw [iV_o (by omega), iD, Co j j5, Ao j j4]
    refine ⟨iS D m 6 y, ?_, uD.wd wC, (uC.tr (uD.le (fun a q => by (try dsimp only at q ⊢); omega))).iS (by (try dsimp only); omega), fun j hj => e j (by omega) (by omega) (by omega), ?_, ?_⟩
    · unfold f_LRule_draw_213
      rw [rD.pJ (by decide)]
    · rw [iV_o (by omega), iD, Co 4 (by decide), A4]
    · unfold LVe
      rw [iV_s (by omega) (by omega), e 0 (by decide) (by decide) (by decide), iV_o (by omega), iD, C5]
      exact hy
  unfold f_LRule_draw_158
  rw [hr.pJ (by decide), ← eA, wA.is (k := 0) (ci := 15) (by decide) (by decide), eB, xcl_e, rB.pJ (by decide), ← eC, rC.gJ (j := 5) (by decide), C5]
  by_cases c0 : h = 0
  · rw [eq_T c0]
    exact fin C 0 Un.rf (fun _ _ => rfl) (by omega) (by omega) (Or.inl ⟨c0, rfl⟩)
  rw [eq_F c0 (by omega) (by omega) (by omega) (by omega), rC.gJ (j := 5) (by decide), C5]
  by_cases c1 : h = 1
  · obtain ⟨y, D, eD, y0, y1, wD, uD, iD⟩ := dn_ok (O := O) (f := f) (m := 12) wC (by omega) (by omega)
    rw [eq_T c1, wC.is (k := 0) (ci := 15) (by decide) (by decide), eD, xcl_e]
    exact fin D (1 + y) uD iD (by omega) (by omega) (Or.inr (Or.inl ⟨c1, by omega, by omega⟩))
  · obtain ⟨y, D, eD, y0, y1, wD, uD, iD⟩ := dn_ok (O := O) (f := f) (m := 900) wC (by omega) (by omega)
    have C0 : iV C m 0 = iV M m 0 := by rw [Co 0 (by decide), Ao 0 (by decide)]
    rw [eq_F c1 (by omega) (by omega) (by omega) (by omega), rC.gJ (j := 0) (by decide), C0, wC.is (k := 0) (ci := 15) (by decide) (by decide), eD, xcl_e]
    exact fin D (iV M m 0 + y) uD iD (by omega) (by omega) (Or.inr (Or.inr ⟨by omega, by omega, by omega⟩))
/-- the set, and what follows -/
theorem ld_79 (w : Wd M) (hr : LRp m M) (hm : 1 < m) (f0 : 10 ≤ iV M m 0 ∧ iV M m 0 ≤ 3009) (k0 : 0 ≤ iV M m 1 ∧ iV M m 1 ≤ 5) (st : iV M m 1 ≠ 0 → 1 ≤ iV M m 2 ∧ iV M m 2 ≤ 20) (s0 : iV M m 1 = 0 → iV M m 2 = 0) (x0 : 0 ≤ x) (x1 : x ≤ 127) (x2 : iV M m 1 = 2 ∨ iV M m 1 = 4 → 1 ≤ x) (x3 : iV M m 1 ≠ 2 → iV M m 1 ≠ 4 → x = 0) : ∃ M', f_LRule_draw_79 O f m 0 m x M = some ((), M') ∧ Wd M' ∧ Un (fun a => a ≠ 0 ∧ a ≠ m) M M' ∧ LVr (iV M' m) ∧ iV M' m 0 = iV M m 0 := by
  obtain ⟨A, eA⟩ : ∃ A, A = iS M m 3 x := ⟨_, rfl⟩
  have wA : Wd A := by rw [eA]; exact w
  have rA : LRp m A := by rw [eA]; exact hr
  have uA : Un (fun a => a ≠ 0 ∧ a ≠ m) M A := by rw [eA]; exact Un.rf.iS (by (try dsimp only); omega)
  have A3 : iV A m 3 = x := by rw [eA, iV_s (by omega) (by omega)]
  have Ao : ∀ j, j ≠ 3 → iV A m j = iV M m j := fun j hj => by rw [eA, iV_o (by omega)]
  have fin : ∀ (D : xM) (y : Int), Wd D → Un (fun a => a ≠ 0) A D → (∀ a j, iV D a j = iV A a j) → -31 ≤ y → y ≤ 31 → (iV M m 1 = 3 → y ≠ 0) → (iV M m 1 = 4 → y ≠ 0 ∧ -5 ≤ y ∧ y ≤ 5) → (iV M m 1 ≠ 3 → iV M m 1 ≠ 4 → y = 0) → ∃ M', f_LRule_draw_158 O f m 0 m y D = some ((), M') ∧ Wd M' ∧ Un (fun a => a ≠ 0 ∧ a ≠ m) M M' ∧ LVr (iV M' m) ∧ iV M' m 0 = iV M m 0 := by
    intro D y wD uD iD y0 y1 y2 y3 y4
    have eD : ∀ j, j ≠ 3 → iV D m j = iV M m j := fun j hj => by rw [iD, Ao j hj]
    obtain ⟨E, e1, e2, e3, e4, e5, e6⟩ := ld_158 (O := O) (f := f) (x := y) wD (rA.sm uD.1) hm (by rw [eD 0 (by decide)]; omega) (by rw [eD 0 (by decide)]; omega) y0 y1
    refine ⟨E, e1, e2, (uA.tr (uD.le (fun a q => by (try dsimp only at q ⊢); omega))).tr e3, ?_, by rw [e4 0 (by decide), eD 0 (by decide)]⟩
    unfold LVr
    unfold LVe at e6
    rw [e4 0 (by decide), eD 0 (by decide)] at e6 ⊢
    rw [e4 1 (by decide), eD 1 (by decide), e4 2 (by decide), eD 2 (by decide), e4 3 (by decide), iD, A3, e5]
    exact ⟨f0, k0, st, s0, ⟨x0, x1⟩, x2, x3, ⟨y0, y1⟩, y2, y3, y4, e6⟩
  -- a sign is drawn
  have sg : ∀ (L : Int) (R : Option (Unit × xM)), 0 < L → L ≤ 31 → (iV M m 1 = 3 ∨ iV M m 1 = 4) → (iV M m 1 = 4 → L ≤ 5) → R = ((isO O A 0 15).bind fun _ => xcl (f_LDraw_is O f 0 3 A) fun x2 M2 => if yw x2 = yw 0 then ((isO O M2 0 15).bind fun _ => xcl (f_LDraw_n O f 0 L M2) fun x3 M3 => f_LRule_draw_158 O f m 0 m (1 + x3) M3) else (isO O M2 0 15).bind fun _ => xcl (f_LDraw_n O f 0 L M2) fun x4 M4 => f_LRule_draw_158 O f m 0 m ((-1) - x4) M4) → ∃ M', R = some ((), M') ∧ Wd M' ∧ Un (fun a => a ≠ 0 ∧ a ≠ m) M M' ∧ LVr (iV M' m) ∧ iV M' m 0 = iV M m 0 := by
    intro L R l0 l1 k34 l4 eR
    obtain ⟨b, B, eB, hb, wB, uB, iB⟩ := di_ok (O := O) (f := f) (m := 3) wA (by omega) (by omega)
    obtain ⟨y, D, eD, y0, y1, wD, uD, iD⟩ := dn_ok (O := O) (f := f) (m := L) wB l0 (by omega)
    rw [wA.is (k := 0) (ci := 15) (by decide) (by decide), eB, xcl_e] at eR
    rw [eR]
    have uu : Un (fun a => a ≠ 0) A D := uB.tr uD
    have ii : ∀ a j, iV D a j = iV A a j := fun a j => by rw [iD, iB]
    rcases hb with rfl | rfl
    · rw [eq_T rfl, wB.is (k := 0) (ci := 15) (by decide) (by decide), eD, xcl_e]
      exact fin D (1 + y) wD uu ii (by omega) (by omega) (fun _ => by omega) (fun z => by have := l4 z; omega) (fun p q => by omega)
    · rw [eq_F (by omega) (by omega) (by omega) (by omega) (by omega), wB.is (k := 0) (ci := 15) (by decide) (by decide), eD, xcl_e]
      exact fin D (-1 - y) wD uu ii (by omega) (by omega) (fun _ => by omega) (fun z => by have := l4 z; omega) (fun p q => by omega)
  unfold f_LRule_draw_79
  rw [hr.pJ (by decide), ← eA, rA.gJ (j := 1) (by decide), Ao 1 (by decide)]
  by_cases c3 : iV M m 1 = 3
  · rw [eq_T c3]
    exact sg 31 _ (by omega) (by omega) (Or.inl c3) (fun z => by omega) rfl
  rw [eq_F c3 (by omega) (by omega) (by omega) (by omega), rA.gJ (j := 1) (by decide), Ao 1 (by decide)]
  by_cases c4 : iV M m 1 = 4
  · rw [eq_T c4]
    exact sg 5 _ (by omega) (by omega) (Or.inr c4) (fun z => by omega) rfl
  rw [eq_F c4 (by omega) (by omega) (by omega) (by omega)]
  exact fin A 0 wA Un.rf (fun _ _ => rfl) (by omega) (by omega) (fun z => (c3 z).elim) (fun z => (c4 z).elim) (fun _ _ => rfl)
theorem ldraw_ok (w : Wd M) (hr : LRp m M) (hm : 1 < m) (f0 : 10 ≤ fd) (f1 : fd ≤ 3009) : ∃ M', f_LRule_draw O f m 0 fd M = some ((), M') ∧ Wd M' ∧ Un (fun a => a ≠ 0 ∧ a ≠ m) M M' ∧ LVr (iV M' m) ∧ iV M' m 0 = fd := by
  obtain ⟨A, eA⟩ : ∃ A, A = iS M m 0 fd := ⟨_, rfl⟩
  have wA : Wd A := by rw [eA]; exact w
  have rA : LRp m A := by rw [eA]; exact hr
  have uA : Un (fun a => a ≠ 0 ∧ a ≠ m) M A := by rw [eA]; exact Un.rf.iS (by (try dsimp only); omega)
  have A0 : iV A m 0 = fd := by rw [eA, iV_s (by omega) (by omega)]
  obtain ⟨kd, B, eB, k0, k1, wB, uB, iB⟩ := dn_ok (O := O) (f := f) (m := 6) wA (by omega) (by omega)
  have rB : LRp m B := rA.sm uB.1
  obtain ⟨C, eC⟩ : ∃ C, C = iS B m 1 kd := ⟨_, rfl⟩
  have wC : Wd C := by rw [eC]; exact wB
  have rC : LRp m C := by rw [eC]; exact rB
  have uC : Un (fun a => a ≠ 0 ∧ a ≠ m) M C := by
    rw [eC]
    exact (uA.tr (uB.le (fun a q => by (try dsimp only at q ⊢); omega))).iS (by (try dsimp only); omega)
  have C1 : iV C m 1 = kd := by rw [eC, iV_s (by omega) (by omega)]
  have C0 : iV C m 0 = fd := by rw [eC, iV_o (by omega), iB, A0]
  -- the step
  have fin : ∀ (D : xM) (y : Int), Wd D → Un (fun a => a ≠ 0) C D → (∀ a j, iV D a j = iV C a j) → ((kd = 0 ∧ y = 0) ∨ (kd ≠ 0 ∧ 1 ≤ y ∧ y ≤ 20)) → ∃ M', f_LRule_draw_47 O f m 0 m y D = some ((), M') ∧ Wd M' ∧ Un (fun a => a ≠ 0 ∧ a ≠ m) M M' ∧ LVr (iV M' m) ∧ iV M' m 0 = fd := by
    intro D y wD uD iD hy
    have rD : LRp m D := rC.sm uD.1
    obtain ⟨E, eE⟩ : ∃ E, E = iS D m 2 y := ⟨_, rfl⟩
    have wE : Wd E := by rw [eE]; exact wD
    have rE : LRp m E := by rw [eE]; exact rD
    have uE : Un (fun a => a ≠ 0 ∧ a ≠ m) M E := by
      rw [eE]
      exact (uC.tr (uD.le (fun a q => by (try dsimp only at q ⊢); omega))).iS (by (try dsimp only); omega)
    have E1 : iV E m 1 = kd := by rw [eE, iV_o (by omega), iD, C1]
    have E0 : iV E m 0 = fd := by rw [eE, iV_o (by omega), iD, C0]
    have E2 : iV E m 2 = y := by rw [eE, iV_s (by omega) (by omega)]
    have f79 : ∀ (L : xM) (z : Int), Wd L → Un (fun a => a ≠ 0) E L → (∀ a j, iV L a j = iV E a j) → 0 ≤ z → z ≤ 127 → (kd = 2 ∨ kd = 4 → 1 ≤ z) → (kd ≠ 2 → kd ≠ 4 → z = 0) → ∃ M', f_LRule_draw_79 O f m 0 m z L = some ((), M') ∧ Wd M' ∧ Un (fun a => a ≠ 0 ∧ a ≠ m) M M' ∧ LVr (iV M' m) ∧ iV M' m 0 = fd := by
      intro L z wL uL iL z0 z1 z2 z3
      obtain ⟨F, q1, q2, q3, q4, q5⟩ := ld_79 (O := O) (f := f) (x := z) wL (rE.sm uL.1) hm (by rw [iL, E0]; omega) (by rw [iL, E1]; omega) (by rw [iL, iL, E1, E2]; omega) (by rw [iL, iL, E1, E2]; omega) z0 z1 (by rw [iL, E1]; exact z2) (by rw [iL, E1]; exact z3)
      exact ⟨F, q1, q2, (uE.tr (uL.le (fun a q => by (try dsimp only at q ⊢); omega))).tr q3, q4, by rw [q5, iL, E0]⟩
    have f67 : (kd = 2 ∨ kd = 4) → ∃ M', f_LRule_draw_67 O f m 0 m E = some ((), M') ∧ Wd M' ∧ Un (fun a => a ≠ 0 ∧ a ≠ m) M M' ∧ LVr (iV M' m) ∧ iV M' m 0 = fd := fun hk => by
      obtain ⟨z, L, eL, z0, z1, wL, uL, iL⟩ := dn_ok (O := O) (f := f) (m := 127) wE (by omega) (by omega)
      unfold f_LRule_draw_67
      rw [wE.is (k := 0) (ci := 15) (by decide) (by decide), eL, xcl_e]
      exact f79 L (1 + z) wL uL iL (by omega) (by omega) (fun _ => by omega) (fun p q => by omega)
    unfold f_LRule_draw_47
    rw [rD.pJ (by decide), ← eE, rE.gJ (j := 1) (by decide), E1]
    by_cases c2 : kd = 2
    · rw [eq_T c2]
      exact f67 (Or.inl c2)
    rw [eq_F c2 (by omega) (by omega) (by omega) (by omega), rE.gJ (j := 1) (by decide), E1]
    by_cases c4 : kd = 4
    · rw [eq_T c4]
      exact f67 (Or.inr c4)
    rw [eq_F c4 (by omega) (by omega) (by omega) (by omega)]
    exact f79 E 0 wE Un.rf (fun _ _ => rfl) (by omega) (by omega) (fun z => by omega) (fun _ _ => rfl)
  have f43 : ∀ (D : xM) (L : Int), Wd D → Un (fun a => a ≠ 0) C D → (∀ a j, iV D a j = iV C a j) → 1 ≤ L → L ≤ 20 → kd ≠ 0 → ∃ M', f_LRule_draw_43 O f m 0 m 1 0 L D = some ((), M') ∧ Wd M' ∧ Un (fun a => a ≠ 0 ∧ a ≠ m) M M' ∧ LVr (iV M' m) ∧ iV M' m 0 = fd := by
    intro D L wD uD iD l0 l1 kn
    obtain ⟨y, E, eE, y0, y1, wE, uE, iE⟩ := dn_ok (O := O) (f := f) (m := L) wD (by omega) (by omega)
    unfold f_LRule_draw_43
    rw [wD.is (k := 0) (ci := 15) (by decide) (by decide), eE, xcl_e]
    exact fin E (1 + y) wE (uD.tr uE) (fun a j => by rw [iE, iD]) (Or.inr ⟨kn, by omega, by omega⟩)
  unfold f_LRule_draw
  rw [hr.pJ (by decide), ← eA, wA.is (k := 0) (ci := 15) (by decide) (by decide), eB, xcl_e, rB.pJ (by decide), ← eC, rC.gJ (j := 1) (by decide), C1]
  by_cases c0 : kd = 0
  · rw [eq_T c0]
    exact fin C 0 wC Un.rf (fun _ _ => rfl) (Or.inl ⟨c0, rfl⟩)
  obtain ⟨b, D, eD, hb, wD, uD, iD⟩ := di_ok (O := O) (f := f) (m := 4) wC (by omega) (by omega)
  rw [eq_F c0 (by omega) (by omega) (by omega) (by omega), wC.is (k := 0) (ci := 15) (by decide) (by decide), eD, xcl_e]
  rcases hb with rfl | rfl
  · rw [eq_T rfl]
    exact f43 D 3 wD uD iD (by omega) (by omega) c0
  · rw [eq_F (by omega) (by omega) (by omega) (by omega) (by omega)]
    exact f43 D 20 wD uD iD (by omega) (by omega) c0
end LDW
end
/-! draft 661.setrule -/
section
/-! ===== a rule is set, and its end: all kinds ===== -/
/-- a rule told soundly -/
def sdA (a b c e : Int) : Prop := (0 ≤ a ∧ a ≤ 5) ∧ (a ≠ 0 → 1 ≤ b ∧ b ≤ 99) ∧ (a = 0 → b = 0) ∧ (0 ≤ c ∧ c ≤ 127) ∧ (a = 2 ∨ a = 4 → 1 ≤ c) ∧ (a ≠ 2 → a ≠ 4 → c = 0) ∧ (-31 ≤ e ∧ e ≤ 31) ∧ (a = 3 → e ≠ 0) ∧ (a = 4 → e ≠ 0 ∧ -5 ≤ e ∧ e ≤ 5) ∧ (a ≠ 3 → a ≠ 4 → e = 0)
/-- an end told soundly -/
def enA (f h q : Int) : Prop := (h = 0 ∧ q = 0) ∨ (h = 1 ∧ 1 ≤ q ∧ q ≤ 500) ∨ (h = 2 ∧ f ≤ q ∧ q ≤ 146000)
section STR
variable {O : Nat → Option va_E} {f k : Nat} {M N : xM} {a b c e : Int}
theorem isSound_ok (h : sdA a b c e) : f_Rule_isSound O f a b c e M = some (1, M) := by
  obtain ⟨⟨a0, a1⟩, b0, b1, ⟨c0, c1⟩, c2, c3, ⟨e0, e1⟩, e2, e3, e4⟩ := h
  have g147 : f_Rule_isSound_147 O f 1 1 1 M = some (1, M) := rfl
  -- the place
  have g83 : f_Rule_isSound_83 O f a e 1 1 M = some (1, M) := by
    have lim : ∀ L : Int, 0 ≤ L → L ≤ 31 → -L ≤ e → e ≤ L → ((e = 0 ∧ L = 0) ∨ (e ≠ 0 ∧ L ≠ 0)) → f_Rule_isSound_105 O f e 1 1 L M = some (1, M) := by
      intro L l0 l1 h0 h1 h2
      unfold f_Rule_isSound_105
      rw [lt_F h0 (by omega) (by omega), lt_F h1 (by omega) (by omega)]
      rcases h2 with ⟨p, q⟩ | ⟨p, q⟩
      · rw [eq_T p]
        unfold f_Rule_isSound_129
        rw [eq_T q]
        unfold f_Rule_isSound_139
        rw [eq_T rfl]
        exact g147
      · rw [eq_F p (by omega) (by omega) (by omega) (by omega)]
        unfold f_Rule_isSound_129
        rw [eq_F q (by omega) (by omega) (by omega) (by omega)]
        unfold f_Rule_isSound_139
        rw [eq_T rfl]
        exact g147
    unfold f_Rule_isSound_83
    by_cases k3 : a = 3
    · rw [eq_T k3]
      exact lim 31 (by omega) (by omega) (by omega) (by omega) (Or.inr ⟨e2 k3, by omega⟩)
    rw [eq_F k3 (by omega) (by omega) (by omega) (by omega)]
    by_cases k4 : a = 4
    · have := e3 k4
      rw [eq_T k4]
      exact lim 5 (by omega) (by omega) (by omega) (by omega) (Or.inr ⟨this.1, by omega⟩)
    · have := e4 k3 k4
      rw [eq_F k4 (by omega) (by omega) (by omega) (by omega)]
      exact lim 0 (by omega) (by omega) (by omega) (by omega) (Or.inl ⟨this, rfl⟩)
  have g43 : f_Rule_isSound_43 O f a c e 1 M = some (1, M) := by
    unfold f_Rule_isSound_43
    have g55 : a = 2 ∨ a = 4 → f_Rule_isSound_55 O f a c e 1 M = some (1, M) := fun z => by
      have := c2 z
      unfold f_Rule_isSound_55
      rw [lt_F (by omega) (by omega) (by omega), lt_F (by omega) (by omega) (by omega)]
      exact g83
    by_cases k2 : a = 2
    · rw [eq_T k2]
      exact g55 (Or.inl k2)
    rw [eq_F k2 (by omega) (by omega) (by omega) (by omega)]
    by_cases k4 : a = 4
    · rw [eq_T k4]
      exact g55 (Or.inr k4)
    · rw [eq_F k4 (by omega) (by omega) (by omega) (by omega), eq_T (c3 k2 k4)]
      exact g83
  unfold f_Rule_isSound
  rw [lt_F (by omega) (by omega) (by omega), le_T (by omega) (by omega) (by omega)]
  by_cases k0 : a = 0
  · rw [eq_T k0, eq_T (b1 k0)]
    exact g43
  · have := b0 k0
    rw [eq_F k0 (by omega) (by omega) (by omega) (by omega), lt_F (by omega) (by omega) (by omega), lt_F (by omega) (by omega) (by omega)]
    exact g43
theorem rvg_of {r : Nat → Int} (f0 : 10 ≤ r 0) (f1 : r 0 ≤ 146000) (h : sdA (r 1) (r 2) (r 3) (r 4)) : RVg (fun j => if j = 7 then 146000 else r j) := by
  obtain ⟨a1, b0, b1, c1, c2, c3, e1, e2, e3, e4⟩ := h
  exact ⟨⟨f0, f1⟩, a1, b0, c1, c2, e1, e2, e3, ⟨by show (-100 : Int) ≤ 146000; omega, by show (146000 : Int) ≤ 146000; omega⟩, fun z => by have := b1 z; show r 2 ≤ 0; omega⟩
theorem LVr.sd {r : Nat → Int} (h : LVr r) : sdA (r 1) (r 2) (r 3) (r 4) := by
  obtain ⟨f, a1, b0, b1, c1, c2, c3, e1, e2, e3, e4, -⟩ := h
  exact ⟨a1, fun z => by have := b0 z; omega, b1, c1, c2, c3, e1, e2, e3, e4⟩
theorem LVr.en {r : Nat → Int} (h : LVr r) : enA (r 0) (r 5) (r 6) := by
  obtain ⟨f, a1, b0, b1, c1, c2, c3, e1, e2, e3, e4, e5⟩ := h
  unfold enA
  omega
/-- a rule put -/
theorem rule_put (h : Wd N) (hk : k < 12) : ∃ L, f_Rule_put O f (30 + 6 * k) a b c e N = some ((), L) ∧ Wd L ∧ Un (fun q => q ≠ 30 + 6 * k) N L ∧ (-2147483648 ≤ a → a ≤ 2147483647 → iV L (30 + 6 * k) 1 = a) ∧ (-2147483648 ≤ b → b ≤ 2147483647 → iV L (30 + 6 * k) 2 = b) ∧ (-2147483648 ≤ c → c ≤ 2147483647 → iV L (30 + 6 * k) 3 = c) ∧ (-2147483648 ≤ e → e ≤ 2147483647 → iV L (30 + 6 * k) 4 = e) ∧ (∀ j, j = 0 ∨ 5 ≤ j → iV L (30 + 6 * k) j = iV N (30 + 6 * k) j) := by
  refine ⟨iS (iS (iS (iS N (30 + 6 * k) 1 a) (30 + 6 * k) 2 b) (30 + 6 * k) 3 c) (30 + 6 * k) 4 e, ?_, h, (((Un.rf.iS (by (try dsimp only); omega)).iS (by (try dsimp only); omega)).iS (by (try dsimp only); omega)).iS (by (try dsimp only); omega), fun h0 h1 => ?_, fun h0 h1 => ?_, fun h0 h1 => ?_, fun h0 h1 => ?_, fun j hj => ?_⟩
  · unfold f_Rule_put
    rw [p_Rule_kind h hk, p_Rule_step (M := iS N (30 + 6 * k) 1 a) h hk, p_Rule_days (M := iS (iS N (30 + 6 * k) 1 a) (30 + 6 * k) 2 b) h hk, p_Rule_place (M := iS (iS (iS N (30 + 6 * k) 1 a) (30 + 6 * k) 2 b) (30 + 6 * k) 3 c) h hk]
  · rw [iV_o (by omega), iV_o (by omega), iV_o (by omega), iV_s h0 h1]
  · rw [iV_o (by omega), iV_o (by omega), iV_s h0 h1]
  · rw [iV_o (by omega), iV_s h0 h1]
  · rw [iV_s h0 h1]
  · rw [iV_o (by omega), iV_o (by omega), iV_o (by omega), iV_o (by omega)]
theorem rule_end {q w : Int} (h : Wd N) (hk : k < 12) (q0 : -2147483648 ≤ q) (q1 : q ≤ 2147483647) (w0 : -2147483648 ≤ w) (w1 : w ≤ 2147483647) : ∃ L, f_Rule_putEnd O f (30 + 6 * k) q w N = some ((), L) ∧ Wd L ∧ Un (fun q => q ≠ 30 + 6 * k) N L ∧ iV L (30 + 6 * k) 5 = q ∧ iV L (30 + 6 * k) 6 = w ∧ (∀ j, j ≠ 5 → j ≠ 6 → iV L (30 + 6 * k) j = iV N (30 + 6 * k) j) := by
  refine ⟨iS (iS N (30 + 6 * k) 5 q) (30 + 6 * k) 6 w, ?_, h, (Un.rf.iS (by (try dsimp only); omega)).iS (by (try dsimp only); omega), ?_, ?_, fun j hj hj2 => ?_⟩
  · unfold f_Rule_putEnd
    rw [p_Rule_how h hk, p_Rule_number (M := iS N (30 + 6 * k) 5 q) h hk]
  · rw [iV_o (by omega), iV_s q0 q1]
  · rw [iV_s w0 w1]
  · rw [iV_o (by omega), iV_o (by omega)]
/-- a rule changed and settled: what follows for the whole -/
theorem tail_ok {S5 : xM} (h : Bs N) (hk : k < 12) (u5 : Un (fun a => a < 29 + 6 * k ∨ 35 + 6 * k ≤ a) N S5) (i0 : iV S5 (29 + 6 * k) 0 = iV N (29 + 6 * k) 0) (i5 : iV S5 (29 + 6 * k) 5 = iV N (29 + 6 * k) 5) (f0 : 10 ≤ iV S5 (30 + 6 * k) 0) (f1 : iV S5 (30 + 6 * k) 0 ≤ 146000) (hs : sdA (iV S5 (30 + 6 * k) 1) (iV S5 (30 + 6 * k) 2) (iV S5 (30 + 6 * k) 3) (iV S5 (30 + 6 * k) 4)) (he : (iV S5 (30 + 6 * k) 5 = 0) ∨ (iV S5 (30 + 6 * k) 5 = 1 ∧ 1 ≤ iV S5 (30 + 6 * k) 6 ∧ iV S5 (30 + 6 * k) 6 ≤ 500) ∨ (iV S5 (30 + 6 * k) 5 = 2 ∧ -100 ≤ iV S5 (30 + 6 * k) 6 ∧ iV S5 (30 + 6 * k) 6 ≤ 146000)) (hf : 10000 ≤ f) : ∃ M', f_Rule_settle O f (30 + 6 * k) S5 = some ((), M') ∧ Bs M' ∧ Un (fun a => a < 29 + 6 * k ∨ 35 + 6 * k ≤ a) N M' ∧ Un (fun a => a ≠ 30 + 6 * k) S5 M' ∧ (∀ j, j ≠ 7 → iV M' (30 + 6 * k) j = iV S5 (30 + 6 * k) j) ∧ RVg (iV M' (30 + 6 * k)) ∧ SO (iV M' (30 + 6 * k)) := by
  have w5 := u5.wd h.1
  obtain ⟨M', es, us, vs, rv, so⟩ := settleG_ok (O := O) (f := f) w5 hk (rvg_of f0 f1 hs) he hf
  have w' := us.wd w5
  have u4 : Un (fun a => a < 29 + 6 * k ∨ 35 + 6 * k ≤ a) N M' := u5.tr (us.le (fun a q => by (try dsimp only at q ⊢); omega))
  have b0 := h.2.2 k hk
  rw [show 2 + (27 + 6 * k) = 29 + 6 * k by omega] at b0
  refine ⟨M', es, ⟨w', h.2.1.un u4 (by (try dsimp only); omega), h.2.2.us u4 hk (by rw [us.i (by (try dsimp only); omega), i0]; exact b0.1) (by rw [us.i (by (try dsimp only); omega), i5]; exact b0.2)⟩, u4, us, vs, rv, so⟩
end STR
end
/-! draft 662.setcalls -/
section
/-! ===== setRule and setEnd: all kinds ===== -/
section STC
variable {O : Nat → Option va_E} {f k : Nat} {M N : xM} {a b c e : Int}
theorem setRuleG_ok {kk : Int} (h : Bs M) (hkk : kk = (k : Int)) (hk : k < 12) (ht : iV M (29 + 6 * k) 0 = 1) (f0 : 10 ≤ iV M (30 + 6 * k) 0) (f1 : iV M (30 + 6 * k) 0 ≤ 146000) (hhow : enA (iV M (30 + 6 * k) 0) (iV M (30 + 6 * k) 5) (iV M (30 + 6 * k) 6)) (hs : sdA a b c e) (hf : 10000 ≤ f) : ∃ M' y, f_Calendarhall_setRule O f 1 kk a b c e M = some (y, M') ∧ Bs M' ∧ Un (Us k) M M' ∧ (∀ j, j ≠ 7 → iV M' (29 + 6 * k) j = iV M (29 + 6 * k) j) ∧ iV M' (29 + 6 * k) 7 = 0 ∧ (iV M' (30 + 6 * k) 1 = a ∧ iV M' (30 + 6 * k) 2 = b ∧ iV M' (30 + 6 * k) 3 = c ∧ iV M' (30 + 6 * k) 4 = e) ∧ (∀ j, j = 0 ∨ j = 5 ∨ j = 6 → iV M' (30 + 6 * k) j = iV M (30 + 6 * k) j) ∧ RVg (iV M' (30 + 6 * k)) ∧ SO (iV M' (30 + 6 * k)) := by
  subst hkk
  have hs' := hs
  obtain ⟨⟨a0, a1⟩, b0, b1, ⟨c0, c1⟩, -, -, ⟨e0, e1⟩, -⟩ := hs'
  have hw := h.1
  obtain ⟨N, eN, uN, bN⟩ := bs_save (O := O) (f := f) h (by omega)
  have wN := bN.1
  have nv : ∀ a j, 1 < a → a < 140 → iV N a j = iV M a j := fun a j h1 h2 => uN.i (by (try dsimp only); omega)
  obtain ⟨S4, e4⟩ : ∃ S4, S4 = iS N (29 + 6 * k) 7 0 := ⟨_, rfl⟩
  have w4 : Wd S4 := by rw [e4]; exact wN
  have u4 : Un (fun a => a < 29 + 6 * k ∨ 35 + 6 * k ≤ a) N S4 := by rw [e4]; exact Un.rf.iS (by (try dsimp only); omega)
  obtain ⟨S5, put, w5, u5, r1, r2, r3, r4, ro⟩ := rule_put (O := O) (f := f) (a := a) (b := b) (c := c) (e := e) w4 hk
  have bb : -2147483648 ≤ b ∧ b ≤ 2147483647 := by
    by_cases z : a = 0
    · have := b1 z
      omega
    · have := b0 z
      omega
  have v1 := r1 (by omega) (by omega)
  have v2 := r2 bb.1 bb.2
  have v3 := r3 (by omega) (by omega)
  have v4 := r4 (by omega) (by omega)
  have vo : ∀ j, j = 0 ∨ 5 ≤ j → iV S5 (30 + 6 * k) j = iV M (30 + 6 * k) j := fun j hj => by rw [ro j hj, e4, iV_o (by omega), nv _ _ (by omega) (by omega)]
  have s5 : ∀ j, j ≠ 7 → iV S5 (29 + 6 * k) j = iV N (29 + 6 * k) j := fun j hj => by rw [u5.i (by (try dsimp only); omega), e4, iV_o (by omega)]
  unfold enA at hhow
  obtain ⟨M', es, bM, uM, us, vs, rv, so⟩ := tail_ok (O := O) (f := f) bN hk (u4.tr (u5.le (fun a q => by (try dsimp only at q ⊢); omega))) (s5 0 (by decide)) (s5 5 (by decide)) (by rw [vo 0 (by omega)]; exact f0) (by rw [vo 0 (by omega)]; exact f1) (by rw [v1, v2, v3, v4]; exact hs) (by rw [vo 5 (by omega), vo 6 (by omega)]; omega) hf
  refine ⟨M', iV M (30 + 6 * k) 1, ?_, bM, (uN.le (fun a q => by unfold Us at q; (try dsimp only); omega)).tr (uM.le (fun a q => by unfold Us at q; (try dsimp only); omega)), fun j hj => ?_, ?_, ⟨?_, ?_, ?_, ?_⟩, fun j hj => ?_, rv, so⟩
  · unfold f_Calendarhall_setRule
    rw [a_Cal_is hw, xc_of (s_num hw hk ht), xc_of (isSound_ok hs), eq_F (by omega) (by omega) (by omega) (by omega) (by omega), a_Series_rule hw hk, a_Rule_kind hw hk, a_Cal_is hw, eN, xcl_e, p_Series_exceptions wN hk, ← e4, a_Series_rule w4 hk, a_Rule_is w4 hk, put, xcl_e, a_Series_rule w5 hk, a_Rule_is w5 hk, es, xcl_e]
  · rw [us.i (by (try dsimp only); omega), s5 j hj, nv _ _ (by omega) (by omega)]
  · rw [us.i (by (try dsimp only); omega), u5.i (by (try dsimp only); omega), e4, iV_s (by omega) (by omega)]
  · rw [vs 1 (by decide), v1]
  · rw [vs 2 (by decide), v2]
  · rw [vs 3 (by decide), v3]
  · rw [vs 4 (by decide), v4]
  · rw [vs j (by omega), vo j (by omega)]
theorem setEndG_ok {kk q w : Int} (h : Bs M) (hkk : kk = (k : Int)) (hk : k < 12) (ht : iV M (29 + 6 * k) 0 = 1) (f0 : 10 ≤ iV M (30 + 6 * k) 0) (f1 : iV M (30 + 6 * k) 0 ≤ 146000) (hs : sdA (iV M (30 + 6 * k) 1) (iV M (30 + 6 * k) 2) (iV M (30 + 6 * k) 3) (iV M (30 + 6 * k) 4)) (he : enA (iV M (30 + 6 * k) 0) q w) (hf : 10000 ≤ f) : ∃ M' y, f_Calendarhall_setEnd O f 1 kk q w M = some (y, M') ∧ Bs M' ∧ Un (Us k) M M' ∧ (∀ j, j ≠ 7 → iV M' (29 + 6 * k) j = iV M (29 + 6 * k) j) ∧ iV M' (29 + 6 * k) 7 = 0 ∧ (iV M' (30 + 6 * k) 5 = q ∧ iV M' (30 + 6 * k) 6 = w) ∧ (∀ j, j ≤ 4 → iV M' (30 + 6 * k) j = iV M (30 + 6 * k) j) ∧ RVg (iV M' (30 + 6 * k)) ∧ SO (iV M' (30 + 6 * k)) := by
  subst hkk
  have hw := h.1
  obtain ⟨N, eN, uN, bN⟩ := bs_save (O := O) (f := f) h (by omega)
  have wN := bN.1
  have nv : ∀ a j, 1 < a → a < 140 → iV N a j = iV M a j := fun a j h1 h2 => uN.i (by (try dsimp only); omega)
  obtain ⟨S4, e4⟩ : ∃ S4, S4 = iS N (29 + 6 * k) 7 0 := ⟨_, rfl⟩
  have w4 : Wd S4 := by rw [e4]; exact wN
  have u4 : Un (fun a => a < 29 + 6 * k ∨ 35 + 6 * k ≤ a) N S4 := by rw [e4]; exact Un.rf.iS (by (try dsimp only); omega)
  unfold enA at he
  obtain ⟨S5, put, w5, u5, r5, r6, ro⟩ := rule_end (O := O) (f := f) (q := q) (w := w) w4 hk (by omega) (by omega) (by omega) (by omega)
  have vo : ∀ j, j ≤ 4 → iV S5 (30 + 6 * k) j = iV M (30 + 6 * k) j := fun j hj => by rw [ro j (by omega) (by omega), e4, iV_o (by omega), nv _ _ (by omega) (by omega)]
  have s5 : ∀ j, j ≠ 7 → iV S5 (29 + 6 * k) j = iV N (29 + 6 * k) j := fun j hj => by rw [u5.i (by (try dsimp only); omega), e4, iV_o (by omega)]
  obtain ⟨M', es, bM, uM, us, vs, rv, so⟩ := tail_ok (O := O) (f := f) bN hk (u4.tr (u5.le (fun a q => by (try dsimp only at q ⊢); omega))) (s5 0 (by decide)) (s5 5 (by decide)) (by rw [vo 0 (by omega)]; exact f0) (by rw [vo 0 (by omega)]; exact f1) (by rw [vo 1 (by omega), vo 2 (by omega), vo 3 (by omega), vo 4 (by omega)]; exact hs) (by rw [r5, r6]; omega) hf
  have t56 : f_Calendarhall_setEnd_56 O f 1 q w (29 + 6 * k) M = some (iV M (30 + 6 * k) 5, M') := by
    unfold f_Calendarhall_setEnd_56
    rw [a_Series_rule hw hk, a_Rule_how hw hk, a_Cal_is hw, eN, xcl_e, p_Series_exceptions wN hk, ← e4, a_Series_rule w4 hk, a_Rule_is w4 hk, put, xcl_e, a_Series_rule w5 hk, a_Rule_is w5 hk, es, xcl_e]
  refine ⟨M', iV M (30 + 6 * k) 5, ?_, bM, (uN.le (fun a q => by unfold Us at q; (try dsimp only); omega)).tr (uM.le (fun a q => by unfold Us at q; (try dsimp only); omega)), fun j hj => ?_, ?_, ⟨?_, ?_⟩, fun j hj => ?_, rv, so⟩
  · unfold f_Calendarhall_setEnd
    rw [a_Cal_is hw, xc_of (s_num hw hk ht), c_needRange (by omega) (by omega) (by omega) (by omega)]
    rcases he with ⟨h1, h2⟩ | ⟨h1, h2, h3⟩ | ⟨h1, h2, h3⟩
    · rw [eq_T h1, c_needRange (by omega) (by omega) (by omega) (by omega)]
      exact t56
    · rw [eq_F (by omega) (by omega) (by omega) (by omega) (by omega), eq_T h1, c_needRange (by omega) (by omega) (by omega) (by omega)]
      exact t56
    · rw [eq_F (by omega) (by omega) (by omega) (by omega) (by omega), eq_F (by omega) (by omega) (by omega) (by omega) (by omega), a_Series_rule hw hk, a_Rule_first hw hk, c_needRange (by omega) (by omega) (by omega) (by omega)]
      exact t56
  · rw [us.i (by (try dsimp only); omega), s5 j hj, nv _ _ (by omega) (by omega)]
  · rw [us.i (by (try dsimp only); omega), u5.i (by (try dsimp only); omega), e4, iV_s (by omega) (by omega)]
  · rw [vs 5 (by decide), r5]
  · rw [vs 6 (by decide), r6]
  · rw [vs j (by omega), vo j (by omega)]
end STC
end
/-! draft 663.asks -/
section
/-! ===== what is asked of a series: all kinds ===== -/
section ASK
variable {O : Nat → Option va_E} {f k : Nat} {M N : xM} {P : Int → Prop} {a b d x y w : Int}
theorem nD_inj (hx : a ≤ x) (hy : a ≤ y) (px : P x) (py : P y) (e : nD P a x = nD P a y) : x = y := by
  have key : ∀ u v : Int, a ≤ u → u < v → P v → nD P a u < nD P a v := fun u v h0 h1 hv => by
    have q := (nD_last (P := P) (a := a) (b := v) (by omega)).1 hv
    have m := nD_mono (P := P) (a := a) (b := u) (c := v - 1) (by omega) (by omega)
    omega
  by_cases c : x < y
  · have := key x y hx c py
    omega
  by_cases c2 : y < x
  · have := key y x hy c2 px
    omega
  omega
theorem dayOf_ok {kk : Int} (h : Wd M) (hkk : kk = (k : Int)) (hk : k < 12) (ht : iV M (29 + 6 * k) 0 = 1) (hr : RVg (iV M (30 + 6 * k))) (w0 : 0 ≤ w) (w1 : w ≤ 500) (hy : Dg (iV M (30 + 6 * k)) y) (hn : ((nD (Dg (iV M (30 + 6 * k))) (iV M (30 + 6 * k) 0) y : Nat) : Int) = w + 1) (hf : 10000 ≤ f) : f_Calendarhall_dayOfSeries O f 1 kk w M = some (y, M) := by
  subst hkk
  have hr' := hr
  obtain ⟨⟨g0, g1⟩, -⟩ := hr'
  obtain ⟨x, ex, ox⟩ := dbpG_ok (O := O) (f := f) h hk hr w0 (by omega) hf
  have e : x = y := by
    rcases ox with ⟨z1, z2⟩ | ⟨z1, z2⟩
    · have := z2 y (by have := hy.1; omega)
      omega
    · exact nD_inj z1.1 hy.1 z1 hy (by omega)
  have yb := hy.1
  have yl := hy.2.1
  have := hr.2.2.2.2.2.2.2.2.1
  unfold f_Calendarhall_dayOfSeries
  rw [a_Cal_is h, xc_of (s_num h hk ht), c_needRange (by omega) (by omega) (by omega) (by omega), a_Series_rule h hk, a_Rule_is h hk, ex, xcl_e, e, eq_F (by omega) (by omega) (by omega) (by omega) (by omega)]
theorem countDays_ok {kk : Int} (h : Wd M) (hkk : kk = (k : Int)) (hk : k < 12) (ht : iV M (29 + 6 * k) 0 = 1) (hr : RVg (iV M (30 + 6 * k))) (a0 : 10 ≤ a) (ab : a ≤ b) (b1 : b ≤ 146000) (hf : 10000 ≤ f) : f_Calendarhall_countDays O f 1 kk a b M = some (((nD (Dg (iV M (30 + 6 * k))) a b : Nat) : Int), M) := by
  subst hkk
  unfold f_Calendarhall_countDays
  rw [a_Cal_is h, xc_of (s_num h hk ht), c_needDay a0 (by omega), c_needRange ab b1 (by omega) (by omega), a_Series_rule h hk, a_Rule_is h hk, countG_ok h hk hr (by omega) (by omega) (by omega) (by omega) hf, xcl_e]
theorem atEnd_ok {kk : Int} (h : Wd M) (hkk : kk = (k : Int)) (hk : k < 12) (ht : iV M (29 + 6 * k) 0 = 1) : f_Calendarhall_seriesAt O f 1 kk 10 M = some (iV M (30 + 6 * k) 5, M) ∧ f_Calendarhall_seriesAt O f 1 kk 11 M = some (iV M (30 + 6 * k) 6, M) := by
  subst hkk
  unfold f_Calendarhall_seriesAt f_Series_tell
  constructor
  · rw [a_Cal_is h, xc_of (s_num h hk ht), c_needRange (by omega) (by omega) (by omega) (by omega), a_Series_is h hk]
    simp (disch := omega) only [eq_F, eq_T, a_Series_rule h hk, a_Rule_how h hk, xcl_e]
    rfl
  · rw [a_Cal_is h, xc_of (s_num h hk ht), c_needRange (by omega) (by omega) (by omega) (by omega), a_Series_is h hk]
    simp (disch := omega) only [eq_F, eq_T, a_Series_rule h hk, a_Rule_number h hk, xcl_e]
    rfl
/-- no errors while the rules are settled -/
theorem errorsG_ok (h : Wd M) (hz : ∀ k, k < 3 → Zv M k) (hs : ∀ k : Nat, k < 12 → iV M (29 + 6 * k) 0 = 0 ∨ (iV M (29 + 6 * k) 0 = 1 ∧ RVg (iV M (30 + 6 * k)) ∧ SO (iV M (30 + 6 * k)))) (hf : 10000 ≤ f) : f_Calendarhall_errors O f 1 M = some (0, M) := e_errors h hz (fun k hk => by
  rcases hs k hk with q | ⟨q1, q2, q3⟩
  · exact Or.inl q
  · exact Or.inr ⟨q1, isRightG_ok h hk q2 q3 hf⟩) (by omega)
/-- a date is left out -/
theorem leaveOut_ok {kk : Int} {D : Int → Prop} (h : Bs M) (hkk : kk = (k : Int)) (hk : k < 12) (hs : SV M k) (hn : NXr O f (iV M (30 + 6 * k)) k D) (hD : D d) (hp : exP M k d < 10) (hf : 2000 ≤ f) : ∃ M' y, f_Calendarhall_leaveOut O f 1 kk d M = some (y, M') ∧ Bs M' ∧ Un (fun a => a = 0 ∨ 1044 ≤ a ∨ (1 < a ∧ a < 140 ∧ a ≠ 29 + 6 * k ∧ a ≠ 31 + 6 * k ∧ a ≠ 32 + 6 * k)) M M' ∧ (∀ j, j ≠ 7 → iV M' (29 + 6 * k) j = iV M (29 + 6 * k) j) ∧ iV M' (29 + 6 * k) 7 = (if exO M k d = -1 then iV M (29 + 6 * k) 7 + 1 else iV M (29 + 6 * k) 7) ∧ (∀ j, iV M' (31 + 6 * k) j = if j = (exP M k d).toNat then d else iV M (31 + 6 * k) j) ∧ (∀ j, iV M' (32 + 6 * k) j = if j = (exP M k d).toNat then -1 else iV M (32 + 6 * k) j) := by
  subst hkk
  have hw := h.1
  have hd := hn.1 d hD
  obtain ⟨e0, e1⟩ := hs.2.2.2.2.2.2.1
  obtain ⟨b, eb, hb⟩ := (hn.2 M hw (fun _ => rfl)).2 d (by omega) (by omega)
  have hb1 : b = 1 := by
    rcases hb with ⟨-, q⟩ | ⟨q, -⟩
    · exact absurd hD q
    · exact q
  have hplace : f_Series_hasPlaceFor O f (29 + 6 * k) d M = some (1, M) := by
    unfold f_Series_hasPlaceFor
    rw [a_Series_exceptions hw hk]
    by_cases g : iV M (29 + 6 * k) 7 < 10
    · rw [lt_T g (by omega) (by omega)]
    · have hne : exO M k d ≠ -1 := by
        intro q
        unfold exP at hp
        rw [if_pos q] at hp
        omega
      have q := exO_r e0 hne
      rw [lt_F (by omega) (by omega) (by omega), a_Series_is hw hk, xc_of (e_exceptionOf hw hk e0 e1 (by omega) (by omega) (by omega)), eq_F hne (by omega) (by omega) (by omega) (by omega)]
  obtain ⟨N, eN, uN, bN⟩ := bs_save (O := O) (f := f) h (by omega)
  have wN := bN.1
  have nv : ∀ a j, 1 < a → a < 140 → iV N a j = iV M a j := fun a j h1 h2 => uN.i (by (try dsimp only); omega)
  have exN : exO N k d = exO M k d := exO_of (fun b j h1 h2 => nv b j (by omega) (by omega))
  have epN : exP N k d = exP M k d := by
    unfold exP
    rw [exN, nv _ _ (by omega) (by omega)]
  obtain ⟨M', e', u', v1, v2, v3, v4⟩ := except_ok (O := O) (f := f) (t := -1) wN hk (by rw [nv _ _ (by omega) (by omega)]; exact e0) (by rw [nv _ _ (by omega) (by omega)]; exact e1) (by rw [epN]; exact hp) (by omega) (by omega) (by omega) (by omega) (by omega)
  have w' := u'.wd wN
  have b0 := bN.2.2 k hk
  rw [show 2 + (27 + 6 * k) = 29 + 6 * k by omega] at b0
  refine ⟨M', iV M' (29 + 6 * k) 7, ?_, ⟨w', bN.2.1.un u' (by (try dsimp only); omega), bN.2.2.us (u'.le (fun a q => by (try dsimp only at q ⊢); omega)) hk (by rw [v1 0 (by omega)]; exact b0.1) (by rw [v1 5 (by omega)]; exact b0.2)⟩, (uN.le (fun a q => by (try dsimp only at q ⊢); omega)).tr (u'.le (fun a q => by (try dsimp only at q ⊢); omega)), fun j hj => by rw [v1 j hj, nv _ _ (by omega) (by omega)], by rw [v2, exN, nv _ _ (by omega) (by omega)], fun j => by rw [v3, epN, nv _ _ (by omega) (by omega)], fun j => by rw [v4, epN, nv _ _ (by omega) (by omega)]⟩
  unfold f_Calendarhall_leaveOut
  rw [a_Cal_is hw, xc_of (s_num hw hk hs.1), a_Series_rule hw hk, a_Rule_is hw hk, eb, xcl_e, hb1, eq_F (by omega) (by omega) (by omega) (by omega) (by omega), a_Series_is hw hk, hplace, xcl_e, eq_F (by omega) (by omega) (by omega) (by omega) (by omega), a_Cal_is hw, eN, xcl_e, a_Series_is wN hk, e', xcl_e, a_Series_exceptions w' hk]
end ASK
end
/-! draft 664.daylist -/
section
/-! ===== the law's list of days ===== -/
/-- a row holds the days in order -/
def dyL (A : Nat → Int) (D : Int → Prop) (a : Int) (n : Nat) (v : Int) : Prop := ∀ i : Nat, i < n → a ≤ A i ∧ A i ≤ v ∧ D (A i) ∧ nD D a (A i) = i + 1
/-- the days by the law's rule -/
def lwD (r : Nat → Int) (D : Int → Prop) : Prop := ∀ d, r 0 ≤ d → d ≤ r 0 + 999 → (D d ↔ hol r d ∧ (r 5 = 1 → ((nD (hol r) (r 0) d : Nat) : Int) ≤ r 6) ∧ (r 5 = 2 → d ≤ r 6))
section DLS
variable {O : Nat → Option va_E} {f n m p : Nat} {M N : xM} {D : Int → Prop} {kk d x : Int}
theorem dl_287 (hm : m < p) (hn : n + 5 ≤ p) (hp : 1044 ≤ p) (hf : 10000 ≤ f) : ∀ (r t : Nat) (v11 v9 : Int) (M : xM), LD n M → LRp m M → LVr (iV M m) → inM M p → mS M p = .inr (0, 800) → Wd M → lwD (iV M m) D → v11 + r = iV M m 0 + 800 → r < t → iV M m 0 ≤ v11 → v9 = ((nD D (iV M m 0) (v11 - 1) : Nat) : Int) → (iV M m 5 = 1 → v9 = min (iV M m 6) ((nD (hol (iV M m)) (iV M m 0) (v11 - 1) : Nat) : Int)) → dyL (iV M p) D (iV M m 0) v9.toNat (v11 - 1) → ∃ N, f_Law_areDays_287 O f t 1 0 n m kk p v9 (iV M m 0 + 799) v11 M = (xcl (f_Calendarhall_nextDay O f 1 kk 10 N) fun x1 M1 => f_Law_areDays_382 O f f 1 0 m kk p ((nD D (iV M m 0) (iV M m 0 + 799) : Nat) : Int) (iV M m 0 + 799) 0 x1 M1) ∧ Un (fun a => a ≠ p) M N ∧ dyL (iV N p) D (iV M m 0) (nD D (iV M m 0) (iV M m 0 + 799)) (iV M m 0 + 799) := by
  intro r
  induction r with
  | zero =>
    intro t v11 v9 M ld lr lv ip sp w lw hv ht h0 e9 e1 dl
    obtain ⟨t, rfl⟩ : ∃ n', t = n' + 1 := ⟨t - 1, by omega⟩
    obtain ⟨⟨f0, f1⟩, -⟩ := lv
    have ev : v11 = iV M m 0 + 799 + 1 := by omega
    rw [ev, show iV M m 0 + 799 + 1 - 1 = iV M m 0 + 799 by omega] at e9 dl
    refine ⟨M, ?_, Un.rf, by rw [e9] at dl; exact dl⟩
    show (if yw (iV M m 0 + 799) < yw v11 then _ else _) = _
    rw [lt_T (by omega) (by omega) (by omega), a_Cal_is w, e9]
  | succ r ih =>
    intro t v11 v9 M ld lr lv ip sp w lw hv ht h0 e9 e1 dl
    obtain ⟨t, rfl⟩ : ∃ n', t = n' + 1 := ⟨t - 1, by omega⟩
    have lv' := lv
    obtain ⟨⟨f0, f1⟩, -, -, -, -, -, -, -, -, -, -, en⟩ := lv'
    have r6 := iV_r M m 6
    have dd := lw v11 h0 (by omega)
    have ld1 := nD_last (P := D) (a := iV M m 0) (b := v11) h0
    have lh1 := nD_last (P := hol (iV M m)) (a := iV M m 0) (b := v11) h0
    have lle := nD_le (P := D) (a := iV M m 0) (b := v11 - 1) (by omega)
    have hle := nD_le (P := hol (iV M m)) (a := iV M m 0) (b := v11 - 1) (by omega)
    -- a day that is none of it
    have no : ¬ D v11 → (iV M m 5 = 1 → ((hol (iV M m) v11 → iV M m 6 ≤ v9))) → ∃ N, f_Law_areDays_287 O f t 1 0 n m kk p v9 (iV M m 0 + 799) (v11 + 1) M = (xcl (f_Calendarhall_nextDay O f 1 kk 10 N) fun x1 M1 => f_Law_areDays_382 O f f 1 0 m kk p ((nD D (iV M m 0) (iV M m 0 + 799) : Nat) : Int) (iV M m 0 + 799) 0 x1 M1) ∧ Un (fun a => a ≠ p) M N ∧ dyL (iV N p) D (iV M m 0) (nD D (iV M m 0) (iV M m 0 + 799)) (iV M m 0 + 799) := by
      intro q qh
      refine ih t (v11 + 1) v9 M ld lr lv ip sp w lw (by omega) (by omega) (by omega) ?_ (fun z => ?_) ?_
      · rw [show v11 + 1 - 1 = v11 by omega, ld1.2 q]
        exact e9
      · rw [show v11 + 1 - 1 = v11 by omega]
        have q1 := e1 z
        by_cases g : hol (iV M m) v11
        · have q2 := qh z g
          rw [lh1.1 g]
          omega
        · rw [lh1.2 g]
          exact q1
      · intro i hi
        obtain ⟨a1, a2, a3, a4⟩ := dl i hi
        exact ⟨a1, by omega, a3, a4⟩
    have t333 : (iV M m 5 = 1 → v9 < iV M m 6) → (iV M m 5 = 2 → v11 ≤ iV M m 6) → ∃ N, f_Law_areDays_333 O f (f_Law_areDays_287 O f t) 1 0 n m kk p v9 (iV M m 0 + 799) v11 0 M = (xcl (f_Calendarhall_nextDay O f 1 kk 10 N) fun x1 M1 => f_Law_areDays_382 O f f 1 0 m kk p ((nD D (iV M m 0) (iV M m 0 + 799) : Nat) : Int) (iV M m 0 + 799) 0 x1 M1) ∧ Un (fun a => a ≠ p) M N ∧ dyL (iV N p) D (iV M m 0) (nD D (iV M m 0) (iV M m 0 + 799)) (iV M m 0 + 799) := by
      intro c1 c2
      obtain ⟨b, eb, ob⟩ := lholds_ok (O := O) (f := f) ld lr lv h0 (by omega) hf
      unfold f_Law_areDays_333
      rw [eq_T rfl, lr.is, eb, xcl_e]
      rcases ob with ⟨y1, y2⟩ | ⟨y1, y2⟩
      · have hD : D v11 := dd.mpr ⟨y2, fun z => by have := e1 z; have := c1 z; rw [lh1.1 y2]; omega, c2⟩
        obtain ⟨L, eL⟩ : ∃ L, L = iS M p v9.toNat v11 := ⟨_, rfl⟩
        have uL : Un (fun a => a ≠ p) M L := by rw [eL]; exact Un.rf.iS (by (try dsimp only); omega)
        have im : ∀ j, iV L m j = iV M m j := fun j => uL.i (by (try dsimp only); omega)
        have em : iV L m = iV M m := funext im
        rw [eq_F (by omega) (by omega) (by omega) (by omega) (by omega), z_wJ ip sp (by omega) (by omega) (by omega), ← eL]
        have lL : LD n L := ld.un uL (fun j hj => by (try dsimp only); omega)
        obtain ⟨N, e2, u2, q2⟩ := ih t (v11 + 1) (v9 + 1) L lL (lr.sm uL.1) (by rw [em]; exact lv) (uL.1.inM ip) (by rw [uL.1.s]; exact sp) (uL.wd w) (by rw [em]; exact lw) (by rw [im]; omega) (by omega) (by rw [im]; omega) (by rw [im, show v11 + 1 - 1 = v11 by omega, ld1.1 hD]; omega) (fun z => by
          rw [im] at z
          have := e1 z
          have := c1 z
          rw [em, show v11 + 1 - 1 = v11 by omega, lh1.1 y2]
          omega) (by
          intro i hi
          rw [im, eL]
          by_cases g : i = v9.toNat
          · rw [g, iV_s (by omega) (by omega), ld1.1 hD]
            exact ⟨h0, by omega, hD, by omega⟩
          · rw [iV_o (by omega)]
            obtain ⟨a1, a2, a3, a4⟩ := dl i (by omega)
            exact ⟨a1, by omega, a3, a4⟩)
        rw [im] at e2 q2
        exact ⟨N, e2, uL.tr u2, q2⟩
      · rw [eq_T y1]
        exact no (fun z => y2 (dd.mp z).1) (fun _ z => (y2 z).elim)
    have t328 : ¬ D v11 → (iV M m 5 = 1 → hol (iV M m) v11 → iV M m 6 ≤ v9) → ∃ N, f_Law_areDays_328 O f (f_Law_areDays_287 O f t) 1 0 n m kk p v9 (iV M m 0 + 799) v11 M = (xcl (f_Calendarhall_nextDay O f 1 kk 10 N) fun x1 M1 => f_Law_areDays_382 O f f 1 0 m kk p ((nD D (iV M m 0) (iV M m 0 + 799) : Nat) : Int) (iV M m 0 + 799) 0 x1 M1) ∧ Un (fun a => a ≠ p) M N ∧ dyL (iV N p) D (iV M m 0) (nD D (iV M m 0) (iV M m 0 + 799)) (iV M m 0 + 799) := by
      intro q qh
      unfold f_Law_areDays_328 f_Law_areDays_333
      rw [eq_F (by omega) (by omega) (by omega) (by omega) (by omega)]
      exact no q qh
    have t311 : (iV M m 5 = 1 → v9 < iV M m 6) → ∃ N, f_Law_areDays_311 O f (f_Law_areDays_287 O f t) 1 0 n m kk p v9 (iV M m 0 + 799) v11 M = (xcl (f_Calendarhall_nextDay O f 1 kk 10 N) fun x1 M1 => f_Law_areDays_382 O f f 1 0 m kk p ((nD D (iV M m 0) (iV M m 0 + 799) : Nat) : Int) (iV M m 0 + 799) 0 x1 M1) ∧ Un (fun a => a ≠ p) M N ∧ dyL (iV N p) D (iV M m 0) (nD D (iV M m 0) (iV M m 0 + 799)) (iV M m 0 + 799) := by
      intro c1
      unfold f_Law_areDays_311 f_Law_areDays_332
      rw [lr.gJ (j := 5) (by decide)]
      by_cases g2 : iV M m 5 = 2
      · rw [eq_T g2, lr.gJ (j := 6) (by decide)]
        by_cases g3 : v11 ≤ iV M m 6
        · rw [le_T g3 (by omega) (by omega)]
          exact t333 c1 (fun _ => g3)
        · rw [le_F (by omega) (by omega) (by omega)]
          exact t328 (fun z => by have := (dd.mp z).2.2 g2; omega) (fun z => by omega)
      · rw [eq_F g2 (by omega) (by omega) (by omega) (by omega)]
        exact t333 c1 (fun z => (g2 z).elim)
    show ∃ N, (if yw (iV M m 0 + 799) < yw v11 then _ else _) = _ ∧ _
    rw [lt_F (by omega) (by omega) (by omega), lr.gJ (j := 5) (by decide)]
    by_cases g1 : iV M m 5 = 1
    · rw [eq_T g1, lr.gJ (j := 6) (by decide)]
      by_cases g3 : iV M m 6 ≤ v9
      · rw [le_T g3 (by omega) (by omega)]
        refine t328 (fun z => ?_) (fun _ _ => g3)
        have z1 := (dd.mp z).1
        have z2 := (dd.mp z).2.1 g1
        have := e1 g1
        rw [lh1.1 z1] at z2
        omega
      · rw [le_F (by omega) (by omega) (by omega)]
        exact t311 (fun _ => by omega)
    · rw [eq_F g1 (by omega) (by omega) (by omega) (by omega)]
      exact t311 (fun z => (g1 z).elim)
end DLS
end
