/-! draft 570.firstrow -/
section
/-! ===== the first date from a minute on ===== -/
def cE (g : Nat → Int) (x : Int) : Nat → Nat
  | 0 => 0
  | n + 1 => cE g x n + (if g n < x then 1 else 0)
theorem cE_le {g : Nat → Int} {x : Int} : ∀ n, cE g x n ≤ n
  | 0 => Nat.le_refl _
  | n + 1 => by
    have := cE_le (g := g) (x := x) n
    unfold cE
    split <;> omega
theorem cE_mono {g : Nat → Int} {x y : Int} (h : x ≤ y) : ∀ n, cE g x n ≤ cE g y n
  | 0 => Nat.le_refl _
  | n + 1 => by
    have := cE_mono (g := g) h n
    unfold cE
    split <;> split <;> omega
theorem cE_lt {g : Nat → Int} {x y : Int} (h : x < y) : ∀ n i, i < n → g i = x → cE g x n + 1 ≤ cE g y n
  | 0, i, hi, _ => absurd hi (Nat.not_lt_zero _)
  | n + 1, i, hi, e => by
    unfold cE
    by_cases z : i = n
    · subst z
      have := cE_mono (g := g) (Int.le_of_lt h) i
      rw [if_neg (show ¬ g i < x by omega), if_pos (show g i < y by omega)]
      omega
    · have := cE_lt (g := g) h n i (by omega) e
      split <;> split <;> omega
section FIR
variable {O : Nat → Option va_E} {f k : Nat} {M N : xM} {D : Int → Prop} {c : Int}
/-- the least row of those dates -/
def minR (M : xM) (k : Nat) (c : Int) (S : Int → Prop) (y : Int) : Prop := (y = -1 ∧ ∀ d, S d → bg M k d ≠ -1 → bg M k d < c) ∨ (∃ d, S d ∧ bg M k d ≠ -1 ∧ c ≤ bg M k d ∧ y = rw' (bg M k d) 0 d ∧ ∀ e, S e → bg M k e ≠ -1 → c ≤ bg M k e → y ≤ rw' (bg M k e) 0 e)
theorem exDay {i : Nat} (hs : SV M k) (hi : (i : Int) < iV M (29 + 6 * k) 7) : exO M k (iV M (31 + 6 * k) i) = i := by
  obtain ⟨-, -, -, -, -, -, ⟨e0, e1⟩, hx, hdis⟩ := hs
  have hne : exO M k (iV M (31 + 6 * k) i) ≠ -1 := by
    intro q
    exact exF_none.mp q i (by omega) rfl
  obtain ⟨q0, q1, q2⟩ := exO_r e0 hne
  rcases Nat.lt_trichotomy (exO M k (iV M (31 + 6 * k) i)).toNat i with z | z | z
  · exact absurd q2 (hdis _ i z hi)
  · omega
  · exact absurd q2.symm (hdis i _ z (by omega))
theorem fr_22 (h : Wd M) (hk : k < 12) (hs : SV M k) (hz : Zv M (zk M k)) (hn : NXr O f (iV M (30 + 6 * k)) k D) (c0 : 10000 ≤ c) (c1 : c ≤ 150000000) (hf : 2000 ≤ f) : ∀ (r n : Nat) (v t : Int), (v = -1 ∨ D v) → 0 ≤ t → (v ≠ -1 → (c + iV M (12 + 3 * zk M k) 0 - iV M (29 + 6 * k) 2) / 1440 ≤ v ∧ t ≤ min 2 (v - (c + iV M (12 + 3 * zk M k) 0 - iV M (29 + 6 * k) 2) / 1440) + cE (iV M (31 + 6 * k)) v (iV M (29 + 6 * k) 7).toNat) → (∀ d, D d → exO M k d = -1 → (v ≠ -1 → d < v) → C0 M k d < c) → 13 ≤ t + r → r + 1 < n → ∃ y, f_Series_firstRow_22 O f n (29 + 6 * k) (12 + 3 * zk M k) c (-1) v t M = f_Series_firstRow_105 O f (29 + 6 * k) (12 + 3 * zk M k) c y M ∧ minR M k c (fun d => D d ∧ exO M k d = -1) y := by
  have hs' := hs
  obtain ⟨-, ⟨z0, z1⟩, ⟨m0, m1⟩, -, -, -, ⟨e0, e1⟩, hx, hdis⟩ := hs'
  have zl : zk M k < 3 := by unfold zk; omega
  have hz' := hz
  obtain ⟨o0, o1, s0, s1, -, -⟩ := hz'
  have bgC : ∀ d, exO M k d = -1 → bg M k d = C0 M k d := fun d q => if_pos q
  have k11 : kcmp (-1) (-1) = 0 := by decide
  obtain ⟨ed, eed⟩ : ∃ ed, ed = (c + iV M (12 + 3 * zk M k) 0 - iV M (29 + 6 * k) 2) / 1440 := ⟨_, rfl⟩
  rw [← eed]
  intro r
  induction r with
  | zero =>
    intro n v t hv t0 hvt hno hr h2
    obtain ⟨n, rfl⟩ : ∃ n', n = n' + 1 := ⟨n - 1, by omega⟩
    by_cases g : v = -1
    · refine ⟨-1, ?_, Or.inl ⟨rfl, fun d hd hb => ?_⟩⟩
      · show (if yw 12 < yw t then _ else _) = _
        by_cases g2 : yw 12 < yw t
        · rw [if_pos g2]
        · rw [if_neg g2, eq_T g]
      · rw [bgC d hd.2]
        exact hno d hd.1 hd.2 (fun q => absurd g q)
    · have := hvt g
      have := cE_le (g := iV M (31 + 6 * k)) (x := v) (iV M (29 + 6 * k) 7).toNat
      omega
  | succ r ih =>
    intro n v t hv t0 hvt hno hr h2
    obtain ⟨n, rfl⟩ : ∃ n', n = n' + 1 := ⟨n - 1, by omega⟩
    by_cases g : v = -1
    · refine ⟨-1, ?_, Or.inl ⟨rfl, fun d hd hb => ?_⟩⟩
      · show (if yw 12 < yw t then _ else _) = _
        by_cases g2 : yw 12 < yw t
        · rw [if_pos g2]
        · rw [if_neg g2, eq_T g]
      · rw [bgC d hd.2]
        exact hno d hd.1 hd.2 (fun q => absurd g q)
    obtain ⟨v1, v2⟩ := hvt g
    have hD := hv.resolve_left g
    have hd := hn.1 v hD
    have hce := cE_le (g := iV M (31 + 6 * k)) (x := v) (iV M (29 + 6 * k) 7).toNat
    have cr := C0_r (d := v) hs hz
    have cc : com M (zk M k) (v * 1440 + iV M (29 + 6 * k) 2) = C0 M k v := rfl
    obtain ⟨x, ex, hxx⟩ := (hn.2 M h (fun _ => rfl)).1 (v + 1) (by omega) (by omega)
    -- on to the next day
    have gon : (C0 M k v < c ∨ exO M k v ≠ -1) → ∃ y, f_Series_firstRow_86 O f (f_Series_firstRow_22 O f n) (29 + 6 * k) (12 + 3 * zk M k) c (-1) v t M = f_Series_firstRow_105 O f (29 + 6 * k) (12 + 3 * zk M k) c y M ∧ minR M k c (fun d => D d ∧ exO M k d = -1) y := by
      intro hwhy
      have q := ih n x (t + 1) (by
        rcases hxx with ⟨q, -⟩ | ⟨-, q, -⟩
        · exact Or.inl q
        · exact Or.inr q) (by omega) (by
        intro hx1
        rcases hxx with ⟨q, -⟩ | ⟨q, -, -⟩
        · exact absurd q hx1
        · refine ⟨by omega, ?_⟩
          have mono := cE_mono (g := iV M (31 + 6 * k)) (x := v) (y := x) (by omega) (iV M (29 + 6 * k) 7).toNat
          by_cases z : exO M k v = -1
          · have hlt := hwhy.resolve_right (fun q => q z)
            omega
          · obtain ⟨y0, y1, y2⟩ := exO_r e0 z
            have := cE_lt (g := iV M (31 + 6 * k)) (x := v) (y := x) (by omega) (iV M (29 + 6 * k) 7).toNat (exO M k v).toNat (by omega) y2
            omega) (by
        intro d q1 q2 q3
        by_cases z : d = v
        · rw [z] at q2 ⊢
          exact hwhy.resolve_right (fun q => q q2)
        · refine hno d q1 q2 (fun _ => ?_)
          rcases Int.lt_or_le d v with w | w
          · exact w
          · exfalso
            rcases hxx with ⟨-, y2⟩ | ⟨y1, -, y2⟩
            · exact y2 d (by omega) q1
            · exact y2 d (by omega) (q3 (by omega)) q1) (by omega) (by omega)
      obtain ⟨y, ey, hy⟩ := q
      refine ⟨y, ?_, hy⟩
      unfold f_Series_firstRow_86
      rw [a_Series_rule h hk, a_Rule_is h hk, ex, xcl_e, ey]
    have start : f_Series_firstRow_22 O f (n + 1) (29 + 6 * k) (12 + 3 * zk M k) c (-1) v t M = if yw (C0 M k v) < yw c then f_Series_firstRow_86 O f (f_Series_firstRow_22 O f n) (29 + 6 * k) (12 + 3 * zk M k) c (-1) v t M else if yw (exO M k v) = yw (-1) then (xcl (f_Dates_row O f (C0 M k v) 0 v 0 M) fun x4 M3 => f_Series_firstRow_86 O f (f_Series_firstRow_22 O f n) (29 + 6 * k) (12 + 3 * zk M k) c x4 v t M3) else f_Series_firstRow_86 O f (f_Series_firstRow_22 O f n) (29 + 6 * k) (12 + 3 * zk M k) c (-1) v t M := by
      show (if yw 12 < yw t then _ else _) = _
      rw [lt_F (by omega) (by omega) (by omega), eq_F g (by omega) (by omega) (by omega) (by omega), k11, eq_T rfl, a_Series_minute h hk, a_Zone_is h zl, xc_of (e_commonOf h zl hz (by omega) (by omega)), cc, a_Series_is h hk, xc_of (e_exceptionOf h hk e0 e1 (by omega) (by omega) (by omega))]
    rw [start]
    by_cases g3 : C0 M k v < c
    · rw [lt_T g3 (by omega) (by omega)]
      exact gon (Or.inl g3)
    rw [lt_F (by omega) (by omega) (by omega)]
    have exr : -1 ≤ exO M k v ∧ exO M k v ≤ 10 := by
      by_cases q : exO M k v = -1
      · omega
      · have := exO_r e0 q
        omega
    by_cases g4 : exO M k v = -1
    · rw [eq_T g4, xc_of (e_row (by omega) (by omega) (by omega) (by omega) (by omega) (by omega))]
      have rr := rw_r (m := C0 M k v) (n := 0) (d := v) (by omega) (by omega) (by omega) (by omega) (by omega) (by omega)
      refine ⟨rw' (C0 M k v) 0 v, ?_, Or.inr ⟨v, ⟨hD, g4⟩, by rw [bgC v g4]; omega, by rw [bgC v g4]; omega, by rw [bgC v g4], fun e he hb hc => ?_⟩⟩
      · unfold f_Series_firstRow_86
        rw [a_Series_rule h hk, a_Rule_is h hk, ex, xcl_e]
        obtain ⟨n, rfl⟩ : ∃ n', n = n' + 1 := ⟨n - 1, by omega⟩
        have kz : kcmp (rw' (C0 M k v) 0 v) (-1) = 1 := kcmp_T (by omega) (by omega) (by omega)
        show (if yw 12 < yw (t + 1) then _ else _) = _
        by_cases w1 : yw 12 < yw (t + 1)
        · rw [if_pos w1]
        · rw [if_neg w1]
          by_cases w2 : yw x = yw (-1)
          · rw [if_pos w2]
          · rw [if_neg w2, kz, eq_F (by omega) (by omega) (by omega) (by omega) (by omega)]
      · have hee := bgC e he.2
        rw [hee] at hc ⊢
        have hve : v ≤ e := by
          rcases Int.lt_or_le e v with w | w
          · have := hno e he.1 he.2 (fun _ => w)
            omega
          · exact w
        have := C0_mono (k := k) hz hve
        unfold rw'
        omega
    · rw [eq_F g4 (by omega) (by omega) (by omega) (by omega)]
      exact gon (Or.inr g4)
theorem fr_108 (h : Wd M) (hk : k < 12) (hs : SV M k) (hz : Zv M (zk M k)) (hD : ∀ d, D d → 10 ≤ d ∧ d ≤ 146000) (hE : ∀ i : Nat, (i : Int) < iV M (29 + 6 * k) 7 → D (iV M (31 + 6 * k) i)) (c0 : 10000 ≤ c) (c1 : c ≤ 150000000) (hf : 2000 ≤ f) : ∀ (r n : Nat) (v : Int) (y : Int), 0 ≤ v → v + r = iV M (29 + 6 * k) 7 → minR M k c (fun d => D d ∧ (exO M k d = -1 ∨ exO M k d < v)) y → r < n → ∃ y', f_Series_firstRow_108 O f n (29 + 6 * k) (12 + 3 * zk M k) c y v M = some (y', M) ∧ minR M k c D y' := by
  have hs' := hs
  obtain ⟨-, ⟨z0, z1⟩, ⟨m0, m1⟩, -, -, -, ⟨e0, e1⟩, hx, hdis⟩ := hs'
  have zl : zk M k < 3 := by unfold zk; omega
  have bgr : ∀ d, D d → -1 ≤ bg M k d ∧ bg M k d ≤ 300000000 := by
    intro d hd
    have hd2 := hD d hd
    unfold bg
    split
    · have := C0_r (d := d) hs hz
      have hz' := hz
      obtain ⟨o0, o1, s0, s1, -, -⟩ := hz'
      unfold C0 at this
      omega
    · next g5 =>
      obtain ⟨y0, y1, y2⟩ := exO_r e0 g5
      split
      · omega
      · next g6 =>
        have := (hx (exO M k d).toNat (by omega)).2.resolve_left g6
        have := com_r (k := zk M k) (l := iV M (32 + 6 * k) (exO M k d).toNat) hz
        omega
  intro r
  induction r with
  | zero =>
    intro n v y v0 h1 hm h2
    obtain ⟨n, rfl⟩ : ∃ n', n = n' + 1 := ⟨n - 1, by omega⟩
    have all : ∀ d, D d ↔ (D d ∧ (exO M k d = -1 ∨ exO M k d < v)) := by
      intro d
      constructor
      · intro q
        refine ⟨q, ?_⟩
        by_cases z : exO M k d = -1
        · exact Or.inl z
        · have := exO_r e0 z
          exact Or.inr (by omega)
      · exact fun q => q.1
    refine ⟨y, ?_, ?_⟩
    · show (gJ O M (29 + 6 * k) 10 7).bind _ = _
      rw [a_Series_exceptions h hk, le_T (by omega) (by omega) (by omega)]
    · rcases hm with ⟨q1, q2⟩ | ⟨d, q1, q2, q3, q4, q5⟩
      · exact Or.inl ⟨q1, fun d hd => q2 d ((all d).mp hd)⟩
      · exact Or.inr ⟨d, (all d).mpr q1, q2, q3, q4, fun e he => q5 e ((all e).mp he)⟩
  | succ r ih =>
    intro n v y v0 h1 hm h2
    obtain ⟨n, rfl⟩ : ∃ n', n = n' + 1 := ⟨n - 1, by omega⟩
    obtain ⟨i, rfl⟩ := Int.eq_ofNat_of_zero_le v0
    obtain ⟨⟨x0, x1⟩, hx2⟩ := hx i (by omega)
    have exi := exDay (i := i) hs (by omega)
    have hDi := hE i (by omega)
    have bgi : bg M k (iV M (31 + 6 * k) i) = if iV M (32 + 6 * k) i = -1 then -1 else com M (zk M k) (iV M (32 + 6 * k) i) := by
      unfold bg
      rw [exi, if_neg (by omega), Int.toNat_natCast]
    have yr : -1 ≤ y ∧ y < 8388608000000000 := by
      rcases hm with ⟨q1, -⟩ | ⟨d, q1, q2, q3, q4, -⟩
      · omega
      · have hd := hD d q1.1
        have hb := bgr d q1.1
        have := rw_r (m := bg M k d) (n := 0) (d := d) (by omega) (by omega) (by omega) (by omega) (by omega) (by omega)
        omega
    -- who is new
    have newd : ∀ d, (D d ∧ (exO M k d = -1 ∨ exO M k d < (i : Int) + 1)) ↔ ((D d ∧ (exO M k d = -1 ∨ exO M k d < (i : Int))) ∨ d = iV M (31 + 6 * k) i) := by
      intro d
      constructor
      · rintro ⟨q1, q2⟩
        by_cases z : exO M k d = (i : Int)
        · obtain ⟨y0, y1, y2⟩ := exO_r e0 (d := d) (by omega)
          rw [z, Int.toNat_natCast] at y2
          exact Or.inr y2.symm
        · exact Or.inl ⟨q1, by omega⟩
      · rintro (⟨q1, q2⟩ | q)
        · exact ⟨q1, by omega⟩
        · rw [q]
          exact ⟨hDi, Or.inr (by omega)⟩
    have keep : (bg M k (iV M (31 + 6 * k) i) ≠ -1 → c ≤ bg M k (iV M (31 + 6 * k) i) → y ≠ -1 ∧ y ≤ rw' (bg M k (iV M (31 + 6 * k) i)) 0 (iV M (31 + 6 * k) i)) → ∃ y', f_Series_firstRow_108 O f n (29 + 6 * k) (12 + 3 * zk M k) c y ((i : Int) + 1) M = some (y', M) ∧ minR M k c D y' := by
      intro hno
      refine ih n ((i : Int) + 1) y (by omega) (by omega) ?_ (by omega)
      rcases hm with ⟨q1, q2⟩ | ⟨d, q1, q2, q3, q4, q5⟩
      · refine Or.inl ⟨q1, fun d hd hb => ?_⟩
        rcases (newd d).mp hd with z | z
        · exact q2 d z hb
        · rw [z] at hb ⊢
          rcases Int.lt_or_le (bg M k (iV M (31 + 6 * k) i)) c with w | w
          · exact w
          · exact absurd q1 (hno hb w).1
      · refine Or.inr ⟨d, (newd d).mpr (Or.inl q1), q2, q3, q4, fun e he hb hc => ?_⟩
        rcases (newd e).mp he with z | z
        · exact q5 e z hb hc
        · rw [z] at hb hc ⊢
          exact (hno hb hc).2
    have take : bg M k (iV M (31 + 6 * k) i) ≠ -1 → c ≤ bg M k (iV M (31 + 6 * k) i) → (y = -1 ∨ rw' (bg M k (iV M (31 + 6 * k) i)) 0 (iV M (31 + 6 * k) i) ≤ y) → ∃ y', f_Series_firstRow_108 O f n (29 + 6 * k) (12 + 3 * zk M k) c (rw' (bg M k (iV M (31 + 6 * k) i)) 0 (iV M (31 + 6 * k) i)) ((i : Int) + 1) M = some (y', M) ∧ minR M k c D y' := by
      intro t1 t2 t3
      refine ih n ((i : Int) + 1) _ (by omega) (by omega) (Or.inr ⟨iV M (31 + 6 * k) i, (newd _).mpr (Or.inr rfl), t1, t2, rfl, fun e he hb hc => ?_⟩) (by omega)
      rcases (newd e).mp he with z | z
      · rcases hm with ⟨q1, q2⟩ | ⟨d, q1, q2, q3, q4, q5⟩
        · have := q2 e z hb
          omega
        · have h5 := q5 e z hb hc
          rcases t3 with t3 | t3
          · have hd := hD d q1.1
            have := rw_r (m := bg M k d) (n := 0) (d := d) (by omega) (by have := bgr d q1.1; omega) (by omega) (by omega) (by omega) (by omega)
            omega
          · omega
      · rw [z]
        exact Int.le_refl _
    have eto := e_exceptionTo (O := O) (f := f) (x := (i : Int)) h hk (by omega) (by omega)
    rw [show ((i : Int)).toNat = i by omega] at eto
    have eday := e_exceptionDay (O := O) (f := f) (x := (i : Int)) h hk (by omega) (by omega)
    rw [show ((i : Int)).toNat = i by omega] at eday
    show ∃ y', (gJ O M (29 + 6 * k) 10 7).bind _ = some (y', M) ∧ _
    rw [a_Series_exceptions h hk, le_F (by omega) (by omega) (by omega), a_Series_is h hk, eto, xcl_e]
    by_cases g1 : iV M (32 + 6 * k) i = -1
    · rw [eq_T g1]
      rw [if_pos g1] at bgi
      exact keep (fun q => absurd bgi q)
    have hto : 14400 ≤ iV M (32 + 6 * k) i ∧ iV M (32 + 6 * k) i ≤ 210300000 := hx2.resolve_left g1
    have cr := com_r (k := zk M k) (l := iV M (32 + 6 * k) i) hz
    rw [if_neg g1] at bgi
    rw [← bgi] at cr
    rw [eq_F g1 (by omega) (by omega) (by omega) (by omega), a_Series_is h hk, eto, xcl_e, a_Zone_is h zl, xc_of (e_commonOf h zl hz (by omega) (by omega)), a_Series_is h hk, eday, xcl_e, ← bgi, xc_of (e_row (by omega) (by omega) (by omega) (by omega) (by omega) (by omega))]
    have rr := rw_r (m := bg M k (iV M (31 + 6 * k) i)) (n := 0) (d := iV M (31 + 6 * k) i) (by omega) (by omega) (by omega) (by omega) (by omega) (by omega)
    by_cases g2 : bg M k (iV M (31 + 6 * k) i) < c
    · rw [lt_T g2 (by omega) (by omega)]
      exact keep (fun _ q => by omega)
    rw [lt_F (by omega) (by omega) (by omega)]
    unfold f_Series_firstRow_178
    by_cases g3 : y = -1
    · have : kcmp y (-1) = 0 := by rw [g3]; decide
      rw [this, eq_T rfl]
      exact take (by omega) (by omega) (Or.inl g3)
    · have : kcmp y (-1) = 1 := kcmp_T (by omega) (by omega) (by omega)
      rw [this, eq_F (by omega) (by omega) (by omega) (by omega) (by omega)]
      by_cases g4 : rw' (bg M k (iV M (31 + 6 * k) i)) 0 (iV M (31 + 6 * k) i) < y
      · have q : kcmp (rw' (bg M k (iV M (31 + 6 * k) i)) 0 (iV M (31 + 6 * k) i)) y < 0 := by
          have a1 := kcmp_F (a := rw' (bg M k (iV M (31 + 6 * k) i)) 0 (iV M (31 + 6 * k) i)) (b := y) (by omega) (by omega) (by omega)
          have a2 : kcmp (rw' (bg M k (iV M (31 + 6 * k) i)) 0 (iV M (31 + 6 * k) i)) y ≠ 0 := by
            intro z
            have q1 : yl (rw' (bg M k (iV M (31 + 6 * k) i)) 0 (iV M (31 + 6 * k) i)) < yl y := by
              rw [Int64.lt_iff_toInt_lt, yl_to ⟨by omega, by omega⟩, yl_to ⟨by omega, by omega⟩]
              exact g4
            have q2 : ¬ yl y < yl (rw' (bg M k (iV M (31 + 6 * k) i)) 0 (iV M (31 + 6 * k) i)) := by
              rw [Int64.lt_iff_toInt_lt, yl_to ⟨by omega, by omega⟩, yl_to ⟨by omega, by omega⟩]
              omega
            have q3 : yl (rw' (bg M k (iV M (31 + 6 * k) i)) 0 (iV M (31 + 6 * k) i)) ≠ yl y := by
              intro e
              have := (yl_eq ⟨by omega, by omega⟩ ⟨by omega, by omega⟩).mp e
              omega
            unfold kcmp lg_cmp at z
            first
              | (rw [if_pos q1] at z; exact absurd z (by decide))
              | (rw [if_neg q2, if_neg q3] at z; exact absurd z (by decide))
              | (simp [q1, q2, q3] at z; done)
          omega
        have q0 := kcmp_F (a := rw' (bg M k (iV M (31 + 6 * k) i)) 0 (iV M (31 + 6 * k) i)) (b := y) (by omega) (by omega) (by omega)
        rw [le_F q (by omega) (by omega)]
        exact take (by omega) (by omega) (Or.inr (by omega))
      · have q : 0 ≤ kcmp (rw' (bg M k (iV M (31 + 6 * k) i)) 0 (iV M (31 + 6 * k) i)) y ∧ kcmp (rw' (bg M k (iV M (31 + 6 * k) i)) 0 (iV M (31 + 6 * k) i)) y ≤ 1 := by
          by_cases z : rw' (bg M k (iV M (31 + 6 * k) i)) 0 (iV M (31 + 6 * k) i) = y
          · rw [z]
            have q : ¬ yl y < yl y := by
              rw [Int64.lt_iff_toInt_lt]
              omega
            have : kcmp y y = 0 := by
              unfold kcmp lg_cmp
              first
                | (rw [if_neg q, if_pos rfl]; rfl)
                | (simp [q]; done)
            omega
          · rw [kcmp_T (by omega) (by omega) (by omega)]
            omega
        rw [le_T q.1 (by omega) (by omega)]
        exact keep (fun _ _ => ⟨g3, by omega⟩)
theorem firstRow_ok (h : Wd M) (hk : k < 12) (hs : SV M k) (hz : Zv M (zk M k)) (hn : NXr O f (iV M (30 + 6 * k)) k D) (hE : ∀ i : Nat, (i : Int) < iV M (29 + 6 * k) 7 → D (iV M (31 + 6 * k) i)) (c0 : 10000 ≤ c) (c1 : c ≤ 150000000) (hf : 2000 ≤ f) : ∃ y, f_Series_firstRow O f (29 + 6 * k) (12 + 3 * zk M k) c M = some (y, M) ∧ minR M k c D y := by
  have hs' := hs
  obtain ⟨-, ⟨z0, z1⟩, ⟨m0, m1⟩, -, -, -, ⟨e0, e1⟩, hx, hdis⟩ := hs'
  have zl : zk M k < 3 := by unfold zk; omega
  have hz' := hz
  obtain ⟨o0, o1, s0, s1, -, -⟩ := hz'
  have ed := e_earliestDay (O := O) (f := f) (x := c) (z := zk M k) h hk zl (by omega) (by omega)
  obtain ⟨x, ex, hxx⟩ := (hn.2 M h (fun _ => rfl)).1 ((c + iV M (12 + 3 * zk M k) 0 - iV M (29 + 6 * k) 2) / 1440) (by omega) (by omega)
  obtain ⟨y, ey, hy⟩ := fr_22 (O := O) (f := f) h hk hs hz hn c0 c1 hf 13 f x 0 (by
    rcases hxx with ⟨q, -⟩ | ⟨-, q, -⟩
    · exact Or.inl q
    · exact Or.inr q) (by omega) (by
    intro hx1
    rcases hxx with ⟨q, -⟩ | ⟨q, -, -⟩
    · exact absurd q hx1
    · exact ⟨q, by omega⟩) (by
    intro d q1 q2 q3
    rcases Int.lt_or_le d ((c + iV M (12 + 3 * zk M k) 0 - iV M (29 + 6 * k) 2) / 1440) with z | z
    · have := C0_r (d := d) hs hz
      omega
    · exfalso
      rcases hxx with ⟨-, y2⟩ | ⟨y1, hDx, y2⟩
      · exact y2 d z q1
      · have := hn.1 x hDx
        exact y2 d z (q3 (by omega)) q1) (by omega) (by omega)
  obtain ⟨y', ey', hy'⟩ := fr_108 (O := O) (f := f) (D := D) h hk hs hz hn.1 hE c0 c1 hf (iV M (29 + 6 * k) 7).toNat f 0 y (by omega) (by omega) (by
    have conv : ∀ d, (D d ∧ exO M k d = -1) ↔ (D d ∧ (exO M k d = -1 ∨ exO M k d < 0)) := by
      intro d
      constructor
      · exact fun q => ⟨q.1, Or.inl q.2⟩
      · rintro ⟨q1, q2⟩
        refine ⟨q1, ?_⟩
        by_cases z : exO M k d = -1
        · exact z
        · have := exO_r e0 z
          omega
    rcases hy with ⟨q1, q2⟩ | ⟨d, q1, q2, q3, q4, q5⟩
    · exact Or.inl ⟨q1, fun d hd => q2 d ((conv d).mpr hd)⟩
    · exact Or.inr ⟨d, (conv d).mp q1, q2, q3, q4, fun e he => q5 e ((conv e).mpr he)⟩) (by omega)
  refine ⟨y', ?_, hy'⟩
  unfold f_Series_firstRow
  rw [a_Series_rule h hk, a_Series_is h hk, ed, xcl_e, a_Rule_is h hk, ex, xcl_e, ey]
  unfold f_Series_firstRow_105
  exact ey'
end FIR
end
/-! draft 571.rings -/
section
/-! ===== reminders and rings ===== -/
/-- so many reminders, each of a series that is there -/
def RM (M : xM) (rc m : Nat) : Prop := rc ≤ 5 ∧ (∀ j : Nat, j < rc → 0 ≤ iV M 8 j ∧ iV M 8 j < m ∧ 0 ≤ iV M 9 j ∧ iV M 9 j ≤ 1440) ∧ ∀ j : Nat, rc ≤ j → j < 10 → iV M 8 j = -1
section RIN
variable {O : Nat → Option va_E} {f k m rc : Nat} {M N : xM} {x y w fd : Int} {L : List Int}
theorem RM.of (h : RM M rc m) (e8 : ∀ j, iV N 8 j = iV M 8 j) (e9 : ∀ j, iV N 9 j = iV M 9 j) : RM N rc m := ⟨h.1, fun j hj => by rw [e8, e9]; exact h.2.1 j hj, fun j h1 h2 => by rw [e8]; exact h.2.2 j h1 h2⟩
theorem free_rem (h : Wd M) (hr : RM M rc m) : ∀ (r n k : Nat), k + r = rc → r < n → f_Hall_freeReminder_2 O f n 2 (k : Int) M = some ((rc : Int), M) := by
  obtain ⟨r5, hj, hn⟩ := hr
  intro r
  induction r with
  | zero =>
    intro n k hk h2
    obtain ⟨n, rfl⟩ : ∃ n', n = n' + 1 := ⟨n - 1, by omega⟩
    obtain rfl : k = rc := by omega
    show (gR O M 2 4 6).bind _ = _
    rw [a_Hall_reminderSeries h, n_Hall_reminderSeries h, le_F (by omega) (by omega) (by omega), a_Hall_reminderSeries h, r_Hall_reminderSeries h (by omega) (by omega), show ((k : Int)).toNat = k by omega, eq_T (hn k (Nat.le_refl _) (by omega))]
  | succ r ih =>
    intro n k hk h2
    obtain ⟨n, rfl⟩ : ∃ n', n = n' + 1 := ⟨n - 1, by omega⟩
    obtain ⟨q0, q1, -⟩ := hj k (by omega)
    have rr := iV_r M 8 k
    show (gR O M 2 4 6).bind _ = _
    rw [a_Hall_reminderSeries h, n_Hall_reminderSeries h, le_F (by omega) (by omega) (by omega), a_Hall_reminderSeries h, r_Hall_reminderSeries h (by omega) (by omega), show ((k : Int)).toNat = k by omega, eq_F (a := iV M 8 k) (by omega) (by omega) (by omega) (by omega) (by omega)]
    have q := ih n (k + 1) (by omega) (by omega)
    rw [show ((k + 1 : Nat) : Int) = (k : Int) + 1 by omega] at q
    exact q
theorem remind_ok (h : Bs M) (hr : RM M rc m) (hrc : rc < 5) (hm : m ≤ 12) (x0 : 0 ≤ x) (x1 : x < m) (ht : iV M (29 + 6 * x.toNat) 0 = 1) (y0 : 0 ≤ y) (y1 : y ≤ 1440) (hf : 20 ≤ f) : ∃ M', f_Calendarhall_remind O f 1 x y M = some ((rc : Int), M') ∧ Bs M' ∧ RM M' (rc + 1) m ∧ Un (fun a => a = 0 ∨ 1044 ≤ a ∨ (1 < a ∧ a < 140 ∧ a ≠ 8 ∧ a ≠ 9)) M M' ∧ iV M' 8 rc = x ∧ iV M' 9 rc = y ∧ (∀ j, j ≠ rc → iV M' 8 j = iV M 8 j ∧ iV M' 9 j = iV M 9 j) := by
  have hw := h.1
  obtain ⟨N, eN, uN, bN⟩ := bs_save (O := O) (f := f) h hf
  have wN := bN.1
  have nv : ∀ a j, 1 < a → a < 140 → iV N a j = iV M a j := fun a j h1 h2 => uN.i (by (try dsimp only); omega)
  obtain ⟨L1, e1⟩ : ∃ L1, L1 = iS N 8 rc x := ⟨_, rfl⟩
  have w1 : Wd L1 := by rw [e1]; exact wN
  obtain ⟨L2, e2⟩ : ∃ L2, L2 = iS L1 9 rc y := ⟨_, rfl⟩
  have u2 : Un (fun a => a ≠ 8 ∧ a ≠ 9) N L2 := by
    rw [e2, e1]
    exact (Un.rf.iS (by (try dsimp only); omega)).iS (by (try dsimp only); omega)
  have a8 : iV L2 8 rc = x := by rw [e2, iV_o (by omega), e1, iV_s (by omega) (by omega)]
  have a9 : iV L2 9 rc = y := by rw [e2, iV_s (by omega) (by omega)]
  have oth : ∀ j, j ≠ rc → iV L2 8 j = iV M 8 j ∧ iV L2 9 j = iV M 9 j := by
    intro j hj
    rw [e2, iV_o (by omega), iV_o (by omega), e1, iV_o (by omega), iV_o (by omega), nv _ _ (by omega) (by omega), nv _ _ (by omega) (by omega)]
    exact ⟨rfl, rfl⟩
  have put : f_Hall_putReminder O f 2 (rc : Int) x y N = some ((), L2) := by
    unfold f_Hall_putReminder
    rw [lt_F (by omega) (by omega) (by omega), a_Hall_reminderSeries wN, n_Hall_reminderSeries wN, le_F (by omega) (by omega) (by omega), a_Hall_reminderAheads wN, n_Hall_reminderAheads wN, lt_T (by omega) (by omega) (by omega), a_Hall_reminderSeries wN, w_Hall_reminderSeries wN (by omega) (by omega), show ((rc : Int)).toNat = rc by omega, ← e1, a_Hall_reminderAheads w1, w_Hall_reminderAheads w1 (by omega) (by omega), show ((rc : Int)).toNat = rc by omega, ← e2]
  have fr : f_Hall_freeReminder O f 2 M = some ((rc : Int), M) := free_rem hw hr rc f 0 (by omega) (by omega)
  refine ⟨L2, ?_, bN.un u2 (by (try dsimp only); omega) (fun j hj => by (try dsimp only); omega), ⟨by omega, fun j hj => ?_, fun j h1 h2 => ?_⟩, (uN.le (fun a q => by (try dsimp only at q ⊢); omega)).tr (u2.le (fun a q => by (try dsimp only at q ⊢); omega)), a8, a9, oth⟩
  · have hn : f_Calendarhall_seriesNumbered O f 1 x M = some (29 + 6 * x.toNat, M) := e_seriesNumbered hw x0 (by omega) ht
    unfold f_Calendarhall_remind
    rw [a_Cal_is hw, hn, xcl_e, c_needRange y0 y1 (by omega) (by omega), a_Cal_hall hw, a_Hall_is hw, fr, xcl_e, eq_F (by omega) (by omega) (by omega) (by omega) (by omega), a_Cal_is hw, eN, xcl_e, a_Cal_hall wN, a_Hall_is wN, put, xcl_e]
  · by_cases z : j = rc
    · rw [z, a8, a9]
      omega
    · rw [(oth j z).1, (oth j z).2]
      exact hr.2.1 j (by omega)
  · rw [(oth j (by omega)).1]
    exact hr.2.2 j (by omega) h2
/-- the rings' rows -/
def rgR (M : xM) (lo hi : Int) (j : Nat) (x : Int) : Prop := ∃ d, D01 (iV M (30 + 6 * (iV M 8 j).toNat)) d ∧ rwB M (iV M 8 j).toNat j (iV M 9 j) lo hi d x
theorem cr_2 {hi : Int} (h : SR M m fd) (hm : m ≤ 12) (hr : RM M rc m) (c0 : 14400 ≤ iV M 2 5) (c1 : iV M 2 5 ≤ 1000000) (h0 : iV M 2 5 < hi) (h1 : hi - iV M 2 5 ≤ 1440) (hf : 2000 ≤ f) : ∀ (r n j : Nat) (N : xM) (L : List Int), j + r = 10 → Un P3 M N → DL N L → L.length ≤ min j rc * 15 → (∀ x, x ∈ L ↔ ∃ i, i < j ∧ i < rc ∧ rgR M (iV M 2 5 + 1) (hi + 1) i x) → r < n → ∃ N' L', f_Hall_collectRings_2 O f n 2 116 hi (j : Int) N = some ((), N') ∧ Un P3 M N' ∧ DL N' L' ∧ (∀ x, x ∈ L' ↔ ∃ i, i < rc ∧ rgR M (iV M 2 5 + 1) (hi + 1) i x) := by
  have hs := h.hs (O := O) (f := f)
  obtain ⟨r5, hj, hno⟩ := hr
  intro r
  induction r with
  | zero =>
    intro n j N L hjj u dl hl hm2 h2
    obtain ⟨n, rfl⟩ : ∃ n', n = n' + 1 := ⟨n - 1, by omega⟩
    have wN := u.wd hs.1
    obtain rfl : j = 10 := by omega
    refine ⟨N, L, ?_, u, dl, fun x => ?_⟩
    · show (gR O N 2 4 6).bind _ = _
      rw [a_Hall_reminderSeries wN, n_Hall_reminderSeries wN, le_T (by omega) (by omega) (by omega)]
    · rw [hm2 x]
      exact ⟨fun ⟨i, _, q⟩ => ⟨i, q⟩, fun ⟨i, q1, q2⟩ => ⟨i, by omega, q1, q2⟩⟩
  | succ r ih =>
    intro n j N L hjj u dl hl hm2 h2
    obtain ⟨n, rfl⟩ : ∃ n', n = n' + 1 := ⟨n - 1, by omega⟩
    have wN := u.wd hs.1
    have pv := p3_v u
    have jz : ((j : Int)).toNat = j := by omega
    have rr := iV_r M 8 j
    show ∃ N' L', (gR O N 2 4 6).bind _ = some ((), N') ∧ _
    rw [a_Hall_reminderSeries wN, n_Hall_reminderSeries wN, le_F (by omega) (by omega) (by omega), a_Hall_reminderAheads wN, n_Hall_reminderAheads wN, le_F (by omega) (by omega) (by omega), a_Hall_reminderSeries wN, r_Hall_reminderSeries wN (by omega) (by omega), jz, pv 8 _ (by omega)]
    by_cases g : j < rc
    · obtain ⟨q0, q1, q2, q3⟩ := hj j g
      obtain ⟨k, ek⟩ : ∃ k, k = (iV M 8 j).toNat := ⟨_, rfl⟩
      have hk : k < m := by omega
      have ss := h.2.2.1 k hk
      obtain ⟨zl, zv⟩ := hs.zko (k := k) (by omega) ss.1.1
      have hsN : HS O f N (fun k => D01 (iV M (30 + 6 * k))) := hs.un u (fun a h1 h2 => by unfold P3; omega)
      have tN : iV N (29 + 6 * k) 0 = 1 := by rw [pv _ _ (by omega)]; exact ss.1.1
      obtain ⟨svN, nxN, exN⟩ := hsN.there (by omega) tN
      obtain ⟨zlN, zvN⟩ := hsN.zko (by omega) tN
      have hzk : zk N k = zk M k := by
        show (iV N (29 + 6 * k) 1).toNat = _
        rw [pv _ _ (by omega)]
        rfl
      have hfr : ∀ x, x ∈ L → rN x ≠ j := by
        intro x hx e
        obtain ⟨i, hi1, hi2, d, hd, q⟩ := (hm2 x).mp hx
        obtain ⟨p0, p1, p2, p3⟩ := hj i hi2
        have hd2 := ((hs.there (k := (iV M 8 i).toNat) (by omega) (h.2.2.1 _ (by omega)).1.1).2.1).1 d hd
        have := (rwB_N (nb := i) (by omega) (by omega) (by omega) q).1
        omega
      obtain ⟨N', L', e', u', d', n', k', g', m'⟩ := ar_ok (O := O) (f := f) (nb := j) (a := iV M 9 j) (lo := iV M 2 5 + 1) (hi := hi + 1) hsN.1 (by omega) svN zvN nxN exN (by omega) q2 q3 (by omega) (by omega) (by omega) (by omega) dl hfr (by omega) hf
      rw [hzk] at e'
      have any : f_Hall_anySeries O f 2 (iV M 8 j) N = some (29 + 6 * k, N) := by
        have q := e_anySeries (O := O) (f := f) (i := iV M 8 j) wN q0 (by omega)
        rw [← ek] at q
        exact q
      have zz := e_zoneOf (O := O) (f := f) wN (k := k) (by omega) (by rw [pv _ _ (by omega)]; exact ss.1.2.1.1) (by rw [pv _ _ (by omega)]; exact ss.1.2.1.2)
      rw [hzk] at zz
      have q := ih n (j + 1) N' L' (by omega) (u.tr u') d' (by omega) (fun x => by
        rw [m' x, hm2 x]
        constructor
        · rintro (⟨i, c1, c2⟩ | ⟨d, c1, c2⟩)
          · exact ⟨i, by omega, c2⟩
          · refine ⟨j, by omega, g, d, ?_, ?_⟩
            · rw [← ek]
              exact c1
            · rw [← ek]
              exact (rwB_of (by omega) ss.1.2.1.2 (fun b q h2 h3 => pv b q h3)).mp c2
        · rintro ⟨i, c1, c2, d, c3, c4⟩
          by_cases z : i = j
          · rw [z, ← ek] at c3 c4
            exact Or.inr ⟨d, c3, (rwB_of (by omega) ss.1.2.1.2 (fun b q h2 h3 => pv b q h3)).mpr c4⟩
          · exact Or.inl ⟨i, by omega, c2, d, c3, c4⟩) (by omega)
      rw [show ((j + 1 : Nat) : Int) = (j : Int) + 1 by omega] at q
      rw [eq_F (by omega) (by omega) (by omega) (by omega) (by omega), a_Hall_reminderSeries wN, r_Hall_reminderSeries wN (by omega) (by omega), jz, pv 8 _ (by omega), a_Hall_is wN, any, xcl_e, a_Series_isThere wN (by omega), tN, eq_F (by omega) (by omega) (by omega) (by omega) (by omega), a_Hall_reminderAheads wN, r_Hall_reminderAheads wN (by omega) (by omega), jz, pv 9 _ (by omega), a_Hall_is wN, zz, xcl_e, a_Hall_clock wN, pv 2 _ (by omega), a_Series_is wN (by omega), e', xcl_e]
      exact q
    · rw [eq_T (hno j (by omega) (by omega))]
      have q := ih n (j + 1) N L (by omega) u dl (by omega) (fun x => by
        rw [hm2 x]
        exact ⟨fun ⟨i, a, b, c⟩ => ⟨i, by omega, b, c⟩, fun ⟨i, a, b, c⟩ => ⟨i, by omega, b, c⟩⟩) (by omega)
      rw [show ((j + 1 : Nat) : Int) = (j : Int) + 1 by omega] at q
      exact q
/-- a ring is kept -/
theorem keepRing_ok (h : Wd M) (c0 : 0 ≤ iV M 2 9) (c1 : iV M 2 9 ≤ 30) (x0 : 0 ≤ x) (x1 : x < 9000000000000000) : ∃ M', f_Hall_keepRing O f 2 x M = some ((), M') ∧ Un (fun a => a ≠ 2 ∧ a ≠ 10) M M' ∧ (∀ j, j ≠ 9 → iV M' 2 j = iV M 2 j) ∧ iV M' 2 9 = min 30 (iV M 2 9 + 1) ∧ lV M' 10 ((min 30 (iV M 2 9 + 1)).toNat - 1) = x ∧ ∀ s : Nat, s + 2 ≤ (min 30 (iV M 2 9 + 1)).toNat → lV M' 10 ((min 30 (iV M 2 9 + 1)).toNat - 2 - s) = lV M 10 ((iV M 2 9).toNat - 1 - s) := by
  have t30 : ∀ (N : xM) (c : Int), Wd N → iV N 2 9 = c → 0 ≤ c → c < 30 → f_Hall_keepRing_30 O f 2 x N = some ((), iS (lS N 10 c.toNat x) 2 9 (c + 1)) := by
    intro N c wN hc h0 h1
    have w1 : Wd (lS N 10 c.toNat x) := wN
    have e1 : iV (lS N 10 c.toNat x) 2 9 = c := hc
    unfold f_Hall_keepRing_30
    rw [a_Hall_ringCount wN, hc, le_T h0 (by omega) (by omega), a_Hall_rings wN, a_Hall_ringCount wN, hc, w_Hall_rings wN h0 h1, a_Hall_ringCount w1, e1, p_Hall_ringCount w1]
  unfold f_Hall_keepRing
  rw [a_Hall_ringCount h]
  by_cases g : iV M 2 9 < 30
  · rw [lt_T g (by omega) (by omega), t30 M _ h rfl c0 g]
    have hmn : min 30 (iV M 2 9 + 1) = iV M 2 9 + 1 := by omega
    rw [hmn]
    refine ⟨_, rfl, ?_, fun j hj => ?_, ?_, ?_, fun s hs => ?_⟩
    · exact (Un.rf.lS (by (try dsimp only); omega)).iS (by (try dsimp only); omega)
    · rw [iV_o (by omega)]
      rfl
    · rw [iV_s (by omega) (by omega)]
    · rw [show (iV M 2 9 + 1).toNat - 1 = (iV M 2 9).toNat by omega]
      show lV (lS M 10 (iV M 2 9).toNat x) 10 (iV M 2 9).toNat = x
      rw [lV_s (by omega) (by omega)]
    · show lV (lS M 10 (iV M 2 9).toNat x) 10 _ = _
      rw [lV_o (by omega), show (iV M 2 9 + 1).toNat - 2 - s = (iV M 2 9).toNat - 1 - s by omega]
  · have hc : iV M 2 9 = 30 := by omega
    have sh : shp 10 = .inr (1, 30) := by decide
    have w1 : Wd (cL M 10 1 10 0 29) := h
    have w2 : Wd (iS (cL M 10 1 10 0 29) 2 9 29) := h
    have cp : ∀ {A : xM → Option (Unit × xM)}, (cpJ O M 10 1 10 0 29).bind A = A (cL M 10 1 10 0 29) := z_cL (n0 := 30) (n1 := 30) (h.b (by decide)) (h.b (by decide)) ((h.s (by decide)).trans sh) ((h.s (by decide)).trans sh) (by decide) (by decide) (by decide) (by decide) (by decide) (by decide) (by decide)
    rw [lt_F (by omega) (by omega) (by omega), a_Hall_rings h, a_Hall_rings h, cp, p_Hall_ringCount w1, t30 _ 29 w2 (iV_s (by omega) (by omega)) (by omega) (by omega)]
    have hmn : min 30 (iV M 2 9 + 1) = 30 := by omega
    rw [hmn, hc]
    refine ⟨_, rfl, ?_, fun j hj => ?_, ?_, ?_, fun s hs => ?_⟩
    · exact (((Un.rf.cL (by (try dsimp only); omega)).iS (by (try dsimp only); omega)).lS (by (try dsimp only); omega)).iS (by (try dsimp only); omega)
    · rw [iV_o (by omega)]
      show iV (iS (cL M 10 1 10 0 29) 2 9 29) 2 j = _
      rw [iV_o (by omega)]
      rfl
    · rw [iV_s (by omega) (by omega)]
      rfl
    · show lV (lS (iS (cL M 10 1 10 0 29) 2 9 29) 10 29 x) 10 29 = x
      rw [lV_s (by omega) (by omega)]
    · have h30 : (30 : Int).toNat = 30 := rfl
      rw [h30] at hs ⊢
      show lV (lS (iS (cL M 10 1 10 0 29) 2 9 29) 10 29 x) 10 (30 - 2 - s) = _
      rw [lV_o (by omega)]
      show lV (cL M 10 1 10 0 29) 10 (30 - 2 - s) = _
      rw [lV_cs (by omega) (by omega), show 1 + (30 - 2 - s - 0) = 30 - 1 - s by omega]
/-- the rings hold the last of some rows -/
def RG (M : xM) (L : List Int) (t : Nat) : Prop := 0 ≤ iV M 2 9 ∧ iV M 2 9 ≤ 30 ∧ ∀ s : Nat, s < t → s < (iV M 2 9).toNat → lV M 10 ((iV M 2 9).toNat - 1 - s) = L.getD (t - 1 - s) 0
theorem pass_97 (h : Wd M) (dl : DL M L) {c : Int} : ∀ (r n t : Nat) (N : xM), t + r = L.length → Un (fun a => a ≠ 2 ∧ a ≠ 10) M N → (∀ j, j ≠ 9 → iV N 2 j = iV M 2 j) → RG N L t → iV N 2 9 = min 30 (c + t) → 0 ≤ c → c ≤ 30 → r < n → ∃ N', f_Calendarhall_pass_97 O f n 1 (t : Int) N = some ((L.length : Int), N') ∧ Un (fun a => a ≠ 2 ∧ a ≠ 10) M N' ∧ (∀ j, j ≠ 9 → iV N' 2 j = iV M 2 j) ∧ RG N' L L.length ∧ iV N' 2 9 = min 30 (c + L.length) := by
  intro r
  induction r with
  | zero =>
    intro n t N ht u v2 rg hc c0 c1 h2
    obtain ⟨n, rfl⟩ : ∃ n', n = n' + 1 := ⟨n - 1, by omega⟩
    have wN := u.wd h
    have cN : iV N 116 0 = L.length := by rw [u.i (by (try dsimp only); omega)]; exact dl.1
    have hl := dl.2.1
    obtain rfl : t = L.length := by omega
    refine ⟨N, ?_, u, v2, rg, hc⟩
    show (gR O N 1 12 4).bind _ = _
    rw [a_Cal_dates wN, a_Dates_count wN, cN, le_T (by omega) (by omega) (by omega), a_Cal_dates wN, a_Dates_count wN, cN]
  | succ r ih =>
    intro n t N ht u v2 rg hc c0 c1 h2
    obtain ⟨n, rfl⟩ : ∃ n', n = n' + 1 := ⟨n - 1, by omega⟩
    have wN := u.wd h
    have dN : DL N L := dl.un u (by (try dsimp only); omega)
    have hl := dl.2.1
    have hx := dl.2.2.2.2 _ (getD_mem (show t < L.length by omega))
    obtain ⟨rg0, rg1, rg2⟩ := rg
    obtain ⟨N', e', u', w', k1, k2, k3⟩ := keepRing_ok (O := O) (f := f) wN rg0 rg1 hx.1 hx.2
    have tz : ((t : Int)).toNat = t := by omega
    have ra := dN.at (O := O) (f := f) wN (ix := (t : Int)) (by omega) (by omega)
    rw [tz] at ra
    have q := ih n (t + 1) N' (by omega) (u.tr u') (fun j hj => (w' j hj).trans (v2 j hj)) ⟨by omega, by omega, fun s h3 h4 => by
      rw [k1] at h4 ⊢
      by_cases z : s = 0
      · rw [z, Nat.sub_zero, k2, show t + 1 - 1 - 0 = t by omega]
      · obtain ⟨s', rfl⟩ : ∃ s', s = s' + 1 := ⟨s - 1, by omega⟩
        rw [show (min 30 (iV N 2 9 + 1)).toNat - 1 - (s' + 1) = (min 30 (iV N 2 9 + 1)).toNat - 2 - s' by omega, k3 s' (by omega), rg2 s' (by omega) (by omega)]
        congr 1
        omega⟩ (by rw [k1, hc]; omega) c0 c1 (by omega)
    rw [show ((t + 1 : Nat) : Int) = (t : Int) + 1 by omega] at q
    obtain ⟨N'', e'', z⟩ := q
    refine ⟨N'', ?_, z⟩
    rw [← e'']
    show (gR O N 1 12 4).bind _ = _
    rw [a_Cal_dates wN, a_Dates_count wN, dN.1, le_F (by omega) (by omega) (by omega), a_Cal_hall wN, a_Cal_dates wN, a_Dates_is wN, ra, xcl_e, a_Hall_is wN, e', xcl_e]
/-- the clock goes on -/
theorem pass_ok (h : SR M m fd) (hm : m ≤ 12) (hr : RM M rc m) (c0 : 14400 ≤ iV M 2 5) (c1 : iV M 2 5 ≤ 1000000) (w0 : 1 ≤ w) (w1 : w ≤ 1440) (g0 : 0 ≤ iV M 2 9) (g1 : iV M 2 9 ≤ 30) (s0 : iV M 2 11 = 0) (hf : 2000 ≤ f) : ∃ M' L, f_Calendarhall_pass O f 1 w M = some ((L.length : Int), M') ∧ Bs M' ∧ Un (fun a => a = 0 ∨ 1044 ≤ a ∨ (2 < a ∧ a < 116 ∧ a ≠ 10)) M M' ∧ srt L ∧ (∀ x, x ∈ L ↔ ∃ i, i < rc ∧ rgR M (iV M 2 5 + 1) (iV M 2 5 + w + 1) i x) ∧ RG M' L L.length ∧ iV M' 2 9 = min 30 (iV M 2 9 + L.length) ∧ iV M' 2 5 = iV M 2 5 + w ∧ iV M' 2 11 = 0 ∧ L.length ≤ 320 := by
  have hw := h.1.1
  obtain ⟨N, eN, uN, bN⟩ := bs_save (O := O) (f := f) h.1 (by omega)
  have wN := bN.1
  have nv : ∀ a j, 1 < a → a < 140 → iV N a j = iV M a j := fun a j h1 h2 => uN.i (by (try dsimp only); omega)
  have RN : SR N m fd := h.un hm uN bN (fun a h1 h2 => by (try dsimp only); omega)
  obtain ⟨N1, e1, d1, u1⟩ := clear_ok (O := O) (f := f) wN
  have u1' : Un P3 N N1 := u1.le (fun a q => ⟨q.1, q.2.1⟩)
  have w1' := u1.wd wN
  have hrN : RM N rc m := hr.of (fun j => nv 8 j (by omega) (by omega)) (fun j => nv 9 j (by omega) (by omega))
  have ck : iV N 2 5 = iV M 2 5 := nv _ _ (by omega) (by omega)
  obtain ⟨N2, L, e2, u2, d2, m2⟩ := cr_2 (O := O) (f := f) (hi := iV M 2 5 + w) RN hm hrN (by omega) (by omega) (by omega) (by omega) hf 10 f 0 N1 [] (by omega) u1' d1 (Nat.zero_le _) (fun x => ⟨fun q => (by cases q), (by rintro ⟨i, q, -⟩; exact absurd q (Nat.not_lt_zero _))⟩) (by omega)
  have w2 := u2.wd wN
  have p2 := p3_v u2
  obtain ⟨N3, e3⟩ : ∃ N3, N3 = iS N2 2 11 0 := ⟨_, rfl⟩
  have w3 : Wd N3 := by rw [e3]; exact w2
  obtain ⟨N4, e4⟩ : ∃ N4, N4 = iS N3 2 5 (iV M 2 5 + w) := ⟨_, rfl⟩
  have w4 : Wd N4 := by rw [e4]; exact w3
  have u4 : Un (fun a => a ≠ 2) N2 N4 := by
    rw [e4, e3]
    exact (Un.rf.iS (by (try dsimp only); omega)).iS (by (try dsimp only); omega)
  have d4 : DL N4 L := d2.un u4 (by (try dsimp only); omega)
  have c9 : iV N4 2 9 = iV M 2 9 := by rw [e4, iV_o (by omega), e3, iV_o (by omega), p2 2 _ (by omega), nv _ _ (by omega) (by omega)]
  have sn : f_Hall_takeSnoozes O f 2 116 (iV M 2 5 + w) N2 = some ((), N3) := by
    obtain ⟨f1, rfl⟩ : ∃ f1, f = f1 + 1 := ⟨f - 1, by omega⟩
    show (gJ O N2 2 4 11).bind _ = _
    have : iV N2 2 11 = 0 := by rw [p2 2 _ (by omega), nv _ _ (by omega) (by omega)]; exact s0
    rw [a_Hall_snoozeCount w2, this, le_T (by omega) (by omega) (by omega)]
    unfold f_Hall_takeSnoozes_77
    rw [p_Hall_snoozeCount w2, ← e3]
  obtain ⟨N5, e5, u5, v5, rg5, c5⟩ := pass_97 (O := O) (f := f) (c := iV M 2 9) w4 d4 L.length f 0 N4 (by omega) Un.rf (fun _ _ => rfl) ⟨by omega, by omega, fun s h3 _ => by omega⟩ (by omega) g0 g1 (by have := d4.2.1; omega)
  have uu : Un (fun a => a = 0 ∨ 1044 ≤ a ∨ (2 < a ∧ a < 116 ∧ a ≠ 10)) M N5 := ((((uN.le (fun a q => by (try dsimp only at q ⊢); omega)).tr (u2.le (fun a q => by unfold P3; (try dsimp only at q); omega))).tr (u4.le (fun a q => by (try dsimp only at q ⊢); omega))).tr (u5.le (fun a q => by (try dsimp only at q ⊢); omega)))
  have uN5 : Un (fun a => a ≠ 2 ∧ a ≠ 10 ∧ a ≠ 116 ∧ a ≠ 117 ∧ a ≠ 118) N N5 := ((u2.le (fun a q => by unfold P3; (try dsimp only at q); omega)).tr (u4.le (fun a q => by (try dsimp only at q ⊢); omega))).tr (u5.le (fun a q => by (try dsimp only at q ⊢); omega))
  have rgN : ∀ i x, i < rc → (rgR N (iV N 2 5 + 1) (iV M 2 5 + w + 1) i x ↔ rgR M (iV M 2 5 + 1) (iV M 2 5 + w + 1) i x) := by
    intro i x hi
    obtain ⟨q0, q1, q2, q3⟩ := hr.2.1 i hi
    have sv := (h.2.2.1 (iV M 8 i).toNat (by omega)).1
    unfold rgR
    rw [nv 8 _ (by omega) (by omega), nv 9 _ (by omega) (by omega), ck]
    have er : iV N (30 + 6 * (iV M 8 i).toNat) = iV M (30 + 6 * (iV M 8 i).toNat) := funext (fun j => nv _ _ (by omega) (by omega))
    rw [er]
    constructor
    · rintro ⟨d, y1, y2⟩
      exact ⟨d, y1, (rwB_of (by omega) sv.2.1.2 (fun b j h2 h3 => nv b j (by omega) (by omega))).mp y2⟩
    · rintro ⟨d, y1, y2⟩
      exact ⟨d, y1, (rwB_of (by omega) sv.2.1.2 (fun b j h2 h3 => nv b j (by omega) (by omega))).mpr y2⟩
  refine ⟨N5, L, ?_, bN.un uN5 (by (try dsimp only); omega) (fun j hj => by (try dsimp only); omega), uu, d2.2.2.2.1, fun x => ?_, rg5, c5, ?_, ?_, d2.2.1⟩
  · have k1 : iV N1 2 5 = iV M 2 5 := by rw [u1.i (by (try dsimp only); omega)]; exact ck
    have k2 : iV N2 2 5 = iV M 2 5 := by rw [p2 2 _ (by omega)]; exact ck
    have k3 : iV N3 2 5 = iV M 2 5 := by rw [e3, iV_o (by omega)]; exact k2
    have e2' : f_Hall_collectRings O f 2 116 (iV M 2 5 + w) N1 = some ((), N2) := e2
    unfold f_Calendarhall_pass
    rw [c_needRange w0 (by omega) (by omega) (by omega), a_Cal_hall hw, a_Hall_clock hw, le_T (by omega) (by omega) (by omega), a_Cal_is hw, eN, xcl_e, a_Cal_dates wN, a_Dates_is wN, e1, xcl_e, a_Cal_hall w1', a_Cal_dates w1', a_Cal_hall w1', a_Hall_clock w1', k1, a_Hall_is w1', e2', xcl_e, a_Cal_hall w2, a_Cal_dates w2, a_Cal_hall w2, a_Hall_clock w2, k2, a_Hall_is w2, sn, xcl_e, a_Cal_hall w3, a_Hall_clock w3, k3, p_Hall_clock w3, ← e4]
    exact e5
  · rw [m2 x]
    constructor
    · rintro ⟨i, q1, q2⟩
      exact ⟨i, q1, (rgN i x q1).mp q2⟩
    · rintro ⟨i, q1, q2⟩
      exact ⟨i, q1, (rgN i x q1).mpr q2⟩
  · rw [v5 5 (by omega), e4, iV_s (by omega) (by omega)]
  · rw [v5 11 (by omega), e4, iV_o (by omega), e3, iV_s (by omega) (by omega)]
end RIN
end
