/-! draft 554.addall -/
section
/-! ===== the exceptions too ===== -/
section ADE
variable {O : Nat → Option va_E} {f k nb : Nat} {M N : xM} {D : Int → Prop} {a lo hi : Int} {L L0 : List Int}
/-- a row of an exception -/
def rwE (M : xM) (k nb : Nat) (a lo hi : Int) (i : Nat) (x : Int) : Prop := iV M (32 + 6 * k) i ≠ -1 ∧ lo ≤ com M (zk M k) (iV M (32 + 6 * k) i) - a ∧ com M (zk M k) (iV M (32 + 6 * k) i) - a < hi ∧ x = rw' (com M (zk M k) (iV M (32 + 6 * k) i) - a) nb (iV M (31 + 6 * k) i)
theorem ar_127 (h : Wd M) (hk : k < 12) (hs : SV M k) (hz : Zv M (zk M k)) (hnb : nb < 16) (a0 : 0 ≤ a) (a1 : a ≤ 1440) (l0 : 10000 ≤ lo) (l1 : lo < hi) (l2 : hi ≤ 150000000) (hb : ∀ x, x ∈ L0 → rN x ≠ nb ∨ ∃ d, 0 ≤ d ∧ d < 262144 ∧ exO M k d = -1 ∧ rD x = d) (hW : L0.length + 10 ≤ 319) (hf : 2000 ≤ f) : ∀ (r n : Nat) (v : Int) (N : xM) (Lc : List Int), Un P3 M N → DL N Lc → 0 ≤ v → v + r = iV M (29 + 6 * k) 7 → Lc.length ≤ L0.length + v.toNat → (∀ x, x ∈ Lc ↔ x ∈ L0 ∨ ∃ i : Nat, (i : Int) < v ∧ rwE M k nb a lo hi i x) → r < n → ∃ N' L', f_Series_addRows_127 O f n (29 + 6 * k) 116 nb a (12 + 3 * zk M k) lo hi v N = some ((), N') ∧ Un P3 M N' ∧ DL N' L' ∧ L'.length ≤ L0.length + 10 ∧ (∀ j, iV N' 118 j = iV N 118 j) ∧ (∀ x, x ∈ L' ↔ x ∈ L0 ∨ ∃ i : Nat, (i : Int) < iV M (29 + 6 * k) 7 ∧ rwE M k nb a lo hi i x) := by
  have hs' := hs
  obtain ⟨-, ⟨z0, z1⟩, ⟨m0, m1⟩, -, -, -, ⟨e0, e1⟩, hx, hdis⟩ := hs'
  have zl : zk M k < 3 := by unfold zk; omega
  intro r
  induction r with
  | zero =>
    intro n v N Lc u dl v0 h1 hlen hm h2
    obtain ⟨n, rfl⟩ : ∃ n', n = n' + 1 := ⟨n - 1, by omega⟩
    have wN := u.wd h
    refine ⟨N, Lc, ?_, u, dl, by omega, fun _ => rfl, fun x => ?_⟩
    · show (gJ O N (29 + 6 * k) 10 7).bind _ = _
      rw [a_Series_exceptions wN hk, p3_v u _ _ (by omega), le_T (by omega) (by omega) (by omega)]
    · rw [hm x, show v = iV M (29 + 6 * k) 7 by omega]
  | succ r ih =>
    intro n v N Lc u dl v0 h1 hlen hm h2
    obtain ⟨n, rfl⟩ : ∃ n', n = n' + 1 := ⟨n - 1, by omega⟩
    have wN := u.wd h
    obtain ⟨i, rfl⟩ := Int.eq_ofNat_of_zero_le v0
    obtain ⟨⟨x0, x1⟩, hx2⟩ := hx i (by omega)
    have zN : Zv N (zk M k) := hz.of (fun b j h1 h2 => p3_v u b j (by omega))
    have t32 : iV N (32 + 6 * k) i = iV M (32 + 6 * k) i := p3_v u _ _ (by omega)
    have t31 : iV N (31 + 6 * k) i = iV M (31 + 6 * k) i := p3_v u _ _ (by omega)
    have cN : com N (zk M k) (iV M (32 + 6 * k) i) = com M (zk M k) (iV M (32 + 6 * k) i) := com_of (fun b j h1 h2 => p3_v u b j (by omega))
    have eto := e_exceptionTo (O := O) (f := f) (x := (i : Int)) wN hk (by omega) (by omega)
    rw [show ((i : Int)).toNat = i by omega, t32] at eto
    have eday := e_exceptionDay (O := O) (f := f) (x := (i : Int)) wN hk (by omega) (by omega)
    rw [show ((i : Int)).toNat = i by omega, t31] at eday
    have skip : (∀ x, ¬ rwE M k nb a lo hi i x) → ∃ N' L', f_Series_addRows_127 O f n (29 + 6 * k) 116 nb a (12 + 3 * zk M k) lo hi ((i : Int) + 1) N = some ((), N') ∧ Un P3 M N' ∧ DL N' L' ∧ L'.length ≤ L0.length + 10 ∧ (∀ j, iV N' 118 j = iV N 118 j) ∧ (∀ x, x ∈ L' ↔ x ∈ L0 ∨ ∃ i : Nat, (i : Int) < iV M (29 + 6 * k) 7 ∧ rwE M k nb a lo hi i x) := by
      intro hno
      refine ih n ((i : Int) + 1) N Lc u dl (by omega) (by omega) (by omega) (fun x => ?_) (by omega)
      rw [hm x]
      constructor
      · rintro (q | ⟨j, q1, q2⟩)
        · exact Or.inl q
        · exact Or.inr ⟨j, by omega, q2⟩
      · rintro (q | ⟨j, q1, q2⟩)
        · exact Or.inl q
        · by_cases z : j = i
          · rw [z] at q2
            exact absurd q2 (hno x)
          · exact Or.inr ⟨j, by omega, q2⟩
    have start : f_Series_addRows_127 O f (n + 1) (29 + 6 * k) 116 nb a (12 + 3 * zk M k) lo hi (i : Int) N = if yw (iV M (32 + 6 * k) i) = yw (-1) then f_Series_addRows_127 O f n (29 + 6 * k) 116 nb a (12 + 3 * zk M k) lo hi ((i : Int) + 1) N else xcl (f_Zone_commonOf O f (12 + 3 * zk M k) (iV M (32 + 6 * k) i) N) fun x4 M3 => if yw (x4 - a) < yw lo then f_Series_addRows_127 O f n (29 + 6 * k) 116 nb a (12 + 3 * zk M k) lo hi ((i : Int) + 1) M3 else if yw hi ≤ yw (x4 - a) then f_Series_addRows_127 O f n (29 + 6 * k) 116 nb a (12 + 3 * zk M k) lo hi ((i : Int) + 1) M3 else (isO O M3 (29 + 6 * k) 10).bind fun _ => xcl (f_Series_exceptionDay O f (29 + 6 * k) (i : Int) M3) fun x5 M4 => xcl (f_Dates_row O f (x4 - a) nb x5 0 M4) fun x6 M5 => (isO O M5 116 2).bind fun _ => xcl (f_Dates_add O f 116 x6 M5) fun _ M6 => f_Series_addRows_127 O f n (29 + 6 * k) 116 nb a (12 + 3 * zk M k) lo hi ((i : Int) + 1) M6 := by
      show (gJ O N (29 + 6 * k) 10 7).bind _ = _
      rw [a_Series_exceptions wN hk, p3_v u _ _ (by omega), le_F (by omega) (by omega) (by omega), a_Series_is wN hk, eto, xcl_e, a_Series_is wN hk, eto, xcl_e, a_Zone_is wN zl]
    rw [start]
    by_cases g1 : iV M (32 + 6 * k) i = -1
    · rw [eq_T g1]
      exact skip (fun x q => q.1 g1)
    have hto : 14400 ≤ iV M (32 + 6 * k) i ∧ iV M (32 + 6 * k) i ≤ 210300000 := hx2.resolve_left g1
    have cr := com_r (k := zk M k) (l := iV M (32 + 6 * k) i) hz
    rw [eq_F g1 (by omega) (by omega) (by omega) (by omega), xc_of (e_commonOf wN zl zN (by omega) (by omega)), cN]
    by_cases g2 : com M (zk M k) (iV M (32 + 6 * k) i) - a < lo
    · rw [lt_T g2 (by omega) (by omega)]
      exact skip (fun x q => by have := q.2.1; omega)
    rw [lt_F (by omega) (by omega) (by omega)]
    by_cases g3 : hi ≤ com M (zk M k) (iV M (32 + 6 * k) i) - a
    · rw [le_T g3 (by omega) (by omega)]
      exact skip (fun x q => by have := q.2.2.1; omega)
    rw [le_F (by omega) (by omega) (by omega), a_Series_is wN hk, eday, xcl_e, xc_of (e_row (by omega) (by omega) (by omega) (by omega) (by omega) (by omega)), a_Dates_is wN]
    have rr := rw_r (m := com M (zk M k) (iV M (32 + 6 * k) i) - a) (n := nb) (d := iV M (31 + 6 * k) i) (by omega) (by omega) (by omega) (by omega) (by omega) (by omega)
    have y1 := rD_e (m := com M (zk M k) (iV M (32 + 6 * k) i) - a) (n := nb) (d := iV M (31 + 6 * k) i) (by omega) (by omega) (by omega) (by omega)
    have y0 := rN_e (m := com M (zk M k) (iV M (32 + 6 * k) i) - a) (n := nb) (d := iV M (31 + 6 * k) i) (by omega) (by omega) (by omega) (by omega)
    have fresh : rw' (com M (zk M k) (iV M (32 + 6 * k) i) - a) nb (iV M (31 + 6 * k) i) ∉ Lc := by
      intro q
      rcases (hm _).mp q with q | ⟨j, q1, q2, q3, q4, q5⟩
      · rcases hb _ q with q | ⟨d, -, -, q2, q3⟩
        · exact q y0
        · rw [y1] at q3
          have hno := exF_none.mp q2 i (by omega)
          exact hno q3
      · obtain ⟨⟨xj0, xj1⟩, -⟩ := hx j (by omega)
        have y2 := rD_e (m := com M (zk M k) (iV M (32 + 6 * k) j) - a) (n := nb) (d := iV M (31 + 6 * k) j) (by omega) (by omega) (by omega) (by omega)
        rw [q5, y2] at y1
        exact hdis j i (by omega) (by omega) y1
    obtain ⟨N2, e2, d2, u2⟩ := add_ok (O := O) (f := f) dl wN rr.1 (by omega) fresh (by omega) (by omega)
    rw [e2, xcl_e]
    have q := ih n ((i : Int) + 1) N2 _ (u.tr (u2.le (fun b q => ⟨q.1, q.2.1⟩))) d2 (by omega) (by omega) (by rw [len_ins]; omega) (fun x => by
      rw [mem_ins, hm x]
      constructor
      · rintro (q | q | ⟨j, q1, q2⟩)
        · exact Or.inr ⟨i, by omega, g1, by omega, by omega, q⟩
        · exact Or.inl q
        · exact Or.inr ⟨j, by omega, q2⟩
      · rintro (q | ⟨j, q1, q2⟩)
        · exact Or.inr (Or.inl q)
        · by_cases z : j = i
          · rw [z] at q2
            exact Or.inl q2.2.2.2
          · exact Or.inr (Or.inr ⟨j, by omega, q2⟩)) (by omega)
    obtain ⟨N', L', e', u', d', l', k', m'⟩ := q
    exact ⟨N', L', e', u', d', l', fun j => by rw [k' j, u2.i (by (try dsimp only); omega)], m'⟩
/-- a date of a piece as a row -/
def rwB (M : xM) (k nb : Nat) (a lo hi d x : Int) : Prop := bg M k d ≠ -1 ∧ lo ≤ bg M k d - a ∧ bg M k d - a < hi ∧ x = rw' (bg M k d - a) nb d
theorem ar_ok (h : Wd M) (hk : k < 12) (hs : SV M k) (hz : Zv M (zk M k)) (hn : NXr O f (iV M (30 + 6 * k)) k D) (hE : ∀ i : Nat, (i : Int) < iV M (29 + 6 * k) 7 → D (iV M (31 + 6 * k) i)) (hnb : nb < 16) (a0 : 0 ≤ a) (a1 : a ≤ 1440) (l0 : 10000 ≤ lo) (l1 : lo < hi) (l2 : hi ≤ 150000000) (l3 : hi - lo ≤ 21000) (dl : DL M L) (hfr : ∀ x, x ∈ L → rN x ≠ nb) (hW : L.length + ((hi - lo) / 1440 + 14) ≤ 320) (hf : 2000 ≤ f) : ∃ N' L', f_Series_addRows O f (29 + 6 * k) 116 nb a (12 + 3 * zk M k) lo hi M = some ((), N') ∧ Un P3 M N' ∧ DL N' L' ∧ (L'.length : Int) ≤ L.length + ((hi - lo) / 1440 + 13) ∧ (∀ j, j ≠ nb → iV N' 118 j = iV M 118 j) ∧ iV N' 118 nb = iV M (29 + 6 * k) 3 ∧ (∀ x, x ∈ L' ↔ x ∈ L ∨ ∃ d, D d ∧ rwB M k nb a lo hi d x) := by
  have hs' := hs
  obtain ⟨t0, ⟨z0, z1⟩, ⟨m0, m1⟩, ⟨g0, g1⟩, -, -, ⟨e0, e1⟩, hx, hdis⟩ := hs'
  have zl : zk M k < 3 := by unfold zk; omega
  have hz' := hz
  obtain ⟨o0, o1, s0, s1, -, -⟩ := hz'
  obtain ⟨N1, eN1⟩ : ∃ N1, N1 = iS M 118 nb (iV M (29 + 6 * k) 3) := ⟨_, rfl⟩
  have u1 : Un P3 M N1 := by
    rw [eN1]
    exact Un.rf.iS (by unfold P3; omega)
  have dl1 : DL N1 L := by
    have u : Un (fun a => a ≠ 118) M N1 := by
      rw [eN1]
      exact Un.rf.iS (by (try dsimp only); omega)
    exact dl.un u (by (try dsimp only); omega)
  have w1 := u1.wd h
  have pv := p3_v u1
  have ed := e_earliestDay (O := O) (f := f) (x := lo + a) (z := zk M k) w1 hk zl (by rw [pv _ _ (by omega), pv _ _ (by omega)]; omega) (by rw [pv _ _ (by omega), pv _ _ (by omega)]; omega)
  rw [pv _ _ (by omega), pv _ _ (by omega)] at ed
  obtain ⟨x, ex, hxx⟩ := (hn.2 N1 w1 (fun j => pv _ _ (by omega))).1 ((lo + a + iV M (12 + 3 * zk M k) 0 - iV M (29 + 6 * k) 2) / 1440) (by omega) (by omega)
  have early : ∀ d, d < (lo + a + iV M (12 + 3 * zk M k) 0 - iV M (29 + 6 * k) 2) / 1440 → ¬ (lo ≤ C0 M k d - a) := by
    intro d hd
    have := C0_r (d := d) hs hz
    omega
  obtain ⟨N2, L2, e2, u2, d2, l2', k2, m2⟩ := ar_31 (O := O) (f := f) (L := L) (nb := nb) h hk hs hz hn hnb a0 a1 l0 l1 l2 l3 hfr (by omega) hf 400 f x 0 N1 L u1 dl1 (by omega) (by
    intro hx1
    rcases hxx with ⟨q, -⟩ | ⟨q, -⟩
    · exact absurd q hx1
    · omega) (by
    rcases hxx with ⟨q, -⟩ | ⟨q, q2, -⟩
    · exact Or.inl q
    · exact Or.inr ⟨q2, by omega, by omega⟩) (by omega) (by
    intro y
    constructor
    · exact Or.inl
    · rintro (q | ⟨d, q1, q2, q3, q4, q5⟩)
      · exact q
      · exfalso
        rcases Int.lt_or_le d ((lo + a + iV M (12 + 3 * zk M k) 0 - iV M (29 + 6 * k) 2) / 1440) with z | z
        · exact early d z q4
        · rcases hxx with ⟨y1, y2⟩ | ⟨y1, -, y2⟩
          · exact y2 d z q1
          · rcases q2 with q2 | q2
            · omega
            · exact y2 d z q2 q1) (by omega)
  obtain ⟨N3, L3, e3, u3, d3, l3', k3, m3⟩ := ar_127 (O := O) (f := f) (L0 := L2) (nb := nb) (a := a) (lo := lo) (hi := hi) h hk hs hz hnb a0 a1 l0 l1 l2 (by
    intro y hy
    rcases (m2 y).mp hy with q | ⟨d, q1, q2, q3, q4, q5⟩
    · exact Or.inl (hfr y q)
    · have hd := hn.1 d q1
      exact Or.inr ⟨d, by omega, by omega, q2, by rw [q5]; exact rD_e (by omega) (by omega) (by omega) (by omega)⟩) (by omega) hf (iV M (29 + 6 * k) 7).toNat f 0 N2 L2 u2 d2 (by omega) (by omega) (by omega) (by
    intro y
    constructor
    · exact Or.inl
    · rintro (q | ⟨i, q, -⟩)
      · exact q
      · omega) (by omega)
  refine ⟨N3, L3, ?_, u3, d3, by omega, fun j hj => ?_, ?_, fun y => ?_⟩
  · unfold f_Series_addRows
    rw [a_Series_length h hk, a_Dates_is h, putLen_ok h hnb, xcl_e, ← eN1, a_Series_rule w1 hk, a_Series_is w1 hk, ed, xcl_e, a_Rule_is w1 hk, ex, xcl_e, e2]
    unfold f_Series_addRows_124
    exact e3
  · rw [k3, k2, eN1, iV_o (by omega)]
  · rw [k3, k2, eN1, iV_s (by omega) (by omega)]
  · rw [m3 y, m2 y]
    have dayx : ∀ i : Nat, (i : Int) < iV M (29 + 6 * k) 7 → exO M k (iV M (31 + 6 * k) i) = i := by
      intro i hi
      have hne : exO M k (iV M (31 + 6 * k) i) ≠ -1 := by
        intro q
        exact exF_none.mp q i (by omega) rfl
      obtain ⟨q0, q1, q2⟩ := exO_r e0 hne
      rcases Nat.lt_trichotomy (exO M k (iV M (31 + 6 * k) i)).toNat i with z | z | z
      · exact absurd q2 (hdis _ i z hi)
      · omega
      · exact absurd q2.symm (hdis i _ z (by omega))
    constructor
    · rintro ((q | ⟨d, q1, q2, q3, q4, q5⟩) | ⟨i, q1, q2, q3, q4, q5⟩)
      · exact Or.inl q
      · have hd := hn.1 d q1
        have cr := C0_r (d := d) hs hz
        have eb : bg M k d = C0 M k d := if_pos q2
        exact Or.inr ⟨d, q1, by rw [eb]; omega, by rw [eb]; exact q3, by rw [eb]; exact q4, by rw [eb]; exact q5⟩
      · have eb : bg M k (iV M (31 + 6 * k) i) = com M (zk M k) (iV M (32 + 6 * k) i) := by
          unfold bg
          rw [dayx i q1, if_neg (by omega), Int.toNat_natCast, if_neg q2]
        exact Or.inr ⟨_, hE i q1, by rw [eb]; omega, by rw [eb]; exact q3, by rw [eb]; exact q4, by rw [eb]; exact q5⟩
    · rintro (q | ⟨d, q1, q2, q3, q4, q5⟩)
      · exact Or.inl (Or.inl q)
      · by_cases z : exO M k d = -1
        · have eb : bg M k d = C0 M k d := if_pos z
          rw [eb] at q3 q4 q5
          exact Or.inl (Or.inr ⟨d, q1, z, q3, q4, q5⟩)
        · obtain ⟨y0, y1, y2⟩ := exO_r e0 z
          have eb0 : bg M k d = if iV M (32 + 6 * k) (exO M k d).toNat = -1 then -1 else com M (zk M k) (iV M (32 + 6 * k) (exO M k d).toNat) := if_neg z
          by_cases y3 : iV M (32 + 6 * k) (exO M k d).toNat = -1
          · rw [if_pos y3] at eb0
            exact absurd eb0 q2
          · rw [if_neg y3] at eb0
            rw [eb0] at q3 q4 q5
            exact Or.inr ⟨(exO M k d).toNat, by omega, y3, q3, q4, by rw [y2]; exact q5⟩
end ADE
end
/-! draft 555.collect -/
section
/-! ===== the dates of some series are collected ===== -/
/-- the hall's zones and series are sound, and their rules tell these days -/
def HS (O : Nat → Option va_E) (f : Nat) (M : xM) (Dk : Nat → Int → Prop) : Prop := Wd M ∧ (∀ z, z < 3 → Zv M z) ∧ ∀ k : Nat, k < 12 → iV M (29 + 6 * k) 0 = 0 ∨ (SV M k ∧ NXr O f (iV M (30 + 6 * k)) k (Dk k) ∧ ∀ i : Nat, (i : Int) < iV M (29 + 6 * k) 7 → Dk k (iV M (31 + 6 * k) i))
section COL
variable {O : Nat → Option va_E} {f : Nat} {M N : xM} {Dk : Nat → Int → Prop} {mask lo hi : Int}
theorem HS.of (h : HS O f M Dk) (w : Wd N) (e : ∀ a j, 12 ≤ a → a < 101 → iV N a j = iV M a j) : HS O f N Dk := by
  obtain ⟨-, b, c⟩ := h
  refine ⟨w, fun z hz => (b z hz).of (fun a j h1 h2 => e a j (by omega) (by omega)), fun k hk => ?_⟩
  have er : iV N (30 + 6 * k) = iV M (30 + 6 * k) := funext (fun j => e _ _ (by omega) (by omega))
  rw [er, e (29 + 6 * k) _ (by omega) (by omega), e (29 + 6 * k) _ (by omega) (by omega)]
  rcases c k hk with q | ⟨q1, q2, q3⟩
  · exact Or.inl q
  · refine Or.inr ⟨q1.of (fun a j h1 h2 => e a j (by omega) (by omega)), q2, fun i hi => ?_⟩
    rw [e (31 + 6 * k) _ (by omega) (by omega)]
    exact q3 i hi
theorem HS.un {P : Nat → Prop} (h : HS O f M Dk) (u : Un P M N) (p : ∀ a, 12 ≤ a → a < 101 → P a) : HS O f N Dk := h.of (u.wd h.1) (fun a j h1 h2 => u.i (p a h1 h2))
theorem HS.kp {P : Nat → Prop} (h : HS O f M Dk) (u : Kp P M N) (hb : N.1 ≤ 500000000) (p : ∀ a, 12 ≤ a → a < 101 → P a) : HS O f N Dk := h.of (u.wd h.1 hb) (fun a j h1 h2 => u.i (by have := h.1.1; omega) (p a h1 h2))
theorem HS.there (h : HS O f M Dk) {k : Nat} (hk : k < 12) (e : iV M (29 + 6 * k) 0 = 1) : SV M k ∧ NXr O f (iV M (30 + 6 * k)) k (Dk k) ∧ ∀ i : Nat, (i : Int) < iV M (29 + 6 * k) 7 → Dk k (iV M (31 + 6 * k) i) := by
  rcases h.2.2 k hk with q | q
  · omega
  · exact q
theorem HS.zko (h : HS O f M Dk) {k : Nat} (hk : k < 12) (e : iV M (29 + 6 * k) 0 = 1) : zk M k < 3 ∧ Zv M (zk M k) := by
  have q := (h.there hk e).1.2.1
  have : zk M k < 3 := by unfold zk; omega
  exact ⟨this, h.2.1 _ this⟩
/-- a row of some series -/
def rwS (M : xM) (Dk : Nat → Int → Prop) (S : Nat → Prop) (lo : Nat → Int) (hi x : Int) : Prop := ∃ k : Nat, k < 12 ∧ iV M (29 + 6 * k) 0 = 1 ∧ S k ∧ ∃ d, Dk k d ∧ rwB M k k 0 (lo k) hi d x
theorem rwB_of {k nb : Nat} {a l h d x : Int} (hk : k < 12) (z0 : iV M (29 + 6 * k) 1 < 3) (e : ∀ b j, 12 ≤ b → b < 116 → iV N b j = iV M b j) : rwB N k nb a l h d x ↔ rwB M k nb a l h d x := by
  unfold rwB
  rw [bg_of hk z0 e]
theorem rwB_N {k nb : Nat} {a l h d x : Int} (hnb : nb < 16) (d0 : 0 ≤ d) (d1 : d < 262144) (q : rwB M k nb a l h d x) : rN x = nb ∧ rD x = d ∧ rM x = bg M k d - a := by
  rw [q.2.2.2]
  exact ⟨rN_e (by omega) (by omega) d0 d1, rD_e (by omega) (by omega) d0 d1, rM_e (by omega) (by omega) d0 d1⟩
/-- one series more -/
theorem col_step (h : HS O f M Dk) {l : Nat → Int} {S : Nat → Prop} {k : Nat} {N : xM} {L : List Int} (hk : k < 12) (ht : iV M (29 + 6 * k) 0 = 1) (hS : S k) (l0 : 10000 ≤ l k) (l1 : l k < hi) (l2 : hi ≤ 150000000) (l3 : hi - l k ≤ 18000) (u : Un P3 M N) (dl : DL N L) (hlen : L.length ≤ k * 26) (hm : ∀ x, x ∈ L ↔ ∃ j : Nat, j < k ∧ iV M (29 + 6 * j) 0 = 1 ∧ S j ∧ ∃ d, Dk j d ∧ rwB M j j 0 (l j) hi d x) (hg : ∀ j : Nat, j < k → iV M (29 + 6 * j) 0 = 1 → S j → iV N 118 j = iV M (29 + 6 * j) 3) (hf : 2000 ≤ f) : ∃ N' L', f_Series_addRows O f (29 + 6 * k) 116 (k : Int) 0 (12 + 3 * zk M k) (l k) hi N = some ((), N') ∧ Un P3 M N' ∧ DL N' L' ∧ L'.length ≤ (k + 1) * 26 ∧ (∀ x, x ∈ L' ↔ ∃ j : Nat, j < k + 1 ∧ iV M (29 + 6 * j) 0 = 1 ∧ S j ∧ ∃ d, Dk j d ∧ rwB M j j 0 (l j) hi d x) ∧ (∀ j : Nat, j < k + 1 → iV M (29 + 6 * j) 0 = 1 → S j → iV N' 118 j = iV M (29 + 6 * j) 3) := by
  have hN : HS O f N Dk := h.un u (fun a h1 h2 => by unfold P3; omega)
  have pv := p3_v u
  have tN : iV N (29 + 6 * k) 0 = 1 := by rw [pv _ _ (by omega)]; exact ht
  obtain ⟨sv, nx, ex⟩ := hN.there hk tN
  obtain ⟨zl, zv⟩ := hN.zko hk tN
  have hzk : zk N k = zk M k := by
    show (iV N (29 + 6 * k) 1).toNat = _
    rw [pv _ _ (by omega)]
    rfl
  have hfr : ∀ x, x ∈ L → rN x ≠ k := by
    intro x hx e
    obtain ⟨j, hj, tj, -, d, hd, q⟩ := (hm x).mp hx
    have hd2 := ((h.there (by omega) tj).2.1).1 d hd
    have := (rwB_N (nb := j) (by omega) (by omega) (by omega) q).1
    omega
  obtain ⟨N', L', e', u', d', n', k', g', m'⟩ := ar_ok (O := O) (f := f) (nb := k) (a := 0) (lo := l k) (hi := hi) hN.1 hk sv zv nx ex (by omega) (by omega) (by omega) l0 l1 l2 (by omega) dl hfr (by omega) hf
  rw [hzk] at e'
  refine ⟨N', L', e', u.tr u', d', by omega, fun x => ?_, fun j hj tj sj => ?_⟩
  · rw [m' x, hm x]
    have svM := (h.there hk ht).1
    constructor
    · rintro (⟨j, q1, q2⟩ | ⟨d, q1, q2⟩)
      · exact ⟨j, by omega, q2⟩
      · exact ⟨k, by omega, ht, hS, d, q1, (rwB_of hk svM.2.1.2 (fun b j h1 h2 => pv b j h2)).mp q2⟩
    · rintro ⟨j, q1, q2, q3, d, q4, q5⟩
      by_cases e : j = k
      · subst e
        exact Or.inr ⟨d, q4, (rwB_of hk svM.2.1.2 (fun b j h1 h2 => pv b j h2)).mpr q5⟩
      · exact Or.inl ⟨j, by omega, q2, q3, d, q4, q5⟩
  · by_cases e : j = k
    · subst e
      rw [g', pv _ _ (by omega)]
    · rw [k' j e]
      exact hg j (by omega) tj sj
theorem col_7 (h : HS O f M Dk) (m0 : 0 ≤ mask) (m1 : mask ≤ 2147483647) (l0 : 10000 ≤ lo) (l1 : lo < hi) (l2 : hi ≤ 150000000) (l3 : hi - lo ≤ 18000) (hf : 2000 ≤ f) : ∀ (r n k : Nat) (N : xM) (L : List Int), k + r = 12 → Un P3 M N → DL N L → L.length ≤ k * 26 → (∀ x, x ∈ L ↔ ∃ j : Nat, j < k ∧ iV M (29 + 6 * j) 0 = 1 ∧ bitz mask j = 1 ∧ ∃ d, Dk j d ∧ rwB M j j 0 lo hi d x) → (∀ j : Nat, j < k → iV M (29 + 6 * j) 0 = 1 → bitz mask j = 1 → iV N 118 j = iV M (29 + 6 * j) 3) → r < n → ∃ N' L', f_Hall_collect_7 O f n 2 116 mask lo hi (k : Int) N = some ((), N') ∧ Un P3 M N' ∧ DL N' L' ∧ (∀ x, x ∈ L' ↔ rwS M Dk (fun j => bitz mask j = 1) (fun _ => lo) hi x) ∧ (∀ j : Nat, j < 12 → iV M (29 + 6 * j) 0 = 1 → bitz mask j = 1 → iV N' 118 j = iV M (29 + 6 * j) 3) := by
  intro r
  induction r with
  | zero =>
    intro n k N L hk u dl hlen hm hg h2
    obtain ⟨n, rfl⟩ : ∃ n', n = n' + 1 := ⟨n - 1, by omega⟩
    have wN := u.wd h.1
    obtain rfl : k = 12 := by omega
    refine ⟨N, L, ?_, u, dl, hm, hg⟩
    show (gR O N 2 4 3).bind _ = _
    rw [a_Hall_series wN, n_Hall_series wN, le_T (by omega) (by omega) (by omega)]
  | succ r ih =>
    intro n k N L hk u dl hlen hm hg h2
    obtain ⟨n, rfl⟩ : ∃ n', n = n' + 1 := ⟨n - 1, by omega⟩
    have wN := u.wd h.1
    have pv := p3_v u
    have kz : ((k : Int)).toNat = k := by omega
    have skip : ¬ (iV M (29 + 6 * k) 0 = 1 ∧ bitz mask k = 1) → ∃ N' L', f_Hall_collect_7 O f n 2 116 mask lo hi ((k : Int) + 1) N = some ((), N') ∧ Un P3 M N' ∧ DL N' L' ∧ (∀ x, x ∈ L' ↔ rwS M Dk (fun j => bitz mask j = 1) (fun _ => lo) hi x) ∧ (∀ j : Nat, j < 12 → iV M (29 + 6 * j) 0 = 1 → bitz mask j = 1 → iV N' 118 j = iV M (29 + 6 * j) 3) := by
      intro hno
      have q := ih n (k + 1) N L (by omega) u dl (by omega) (fun x => by
        rw [hm x]
        constructor
        · rintro ⟨j, q1, q2⟩
          exact ⟨j, by omega, q2⟩
        · rintro ⟨j, q1, q2, q3, q4⟩
          by_cases e : j = k
          · rw [e] at q2 q3
            exact absurd ⟨q2, q3⟩ hno
          · exact ⟨j, by omega, q2, q3, q4⟩) (fun j hj tj sj => by
        by_cases e : j = k
        · rw [e] at tj sj
          exact absurd ⟨tj, sj⟩ hno
        · exact hg j (by omega) tj sj) (by omega)
      rw [show ((k + 1 : Nat) : Int) = (k : Int) + 1 by omega] at q
      exact q
    have rt := iV_r M (29 + 6 * k) 0
    show ∃ N' L', (gR O N 2 4 3).bind _ = some ((), N') ∧ _
    rw [a_Hall_series wN, n_Hall_series wN, le_F (by omega) (by omega) (by omega), a_Hall_series wN, r_Hall_series wN (by omega) (by omega), kz, a_Series_isThere wN (by omega), pv _ _ (by omega)]
    by_cases g1 : iV M (29 + 6 * k) 0 = 0
    · rw [eq_T g1]
      exact skip (fun q => by omega)
    have ht : iV M (29 + 6 * k) 0 = 1 := by
      rcases h.2.2 k (by omega) with q | q
      · exact absurd q g1
      · exact q.1.1
    have bb := bitz_lt (x := mask) (k := (k : Int))
    rw [eq_F g1 (by omega) (by omega) (by omega) (by omega), bit_e m0 m1 (by omega) (by omega)]
    by_cases g2 : bitz mask k = 1
    · obtain ⟨sv, -, -⟩ := h.there (by omega) ht
      have hzk : zk N k = zk M k := by
        show (iV N (29 + 6 * k) 1).toNat = _
        rw [pv _ _ (by omega)]
        rfl
      obtain ⟨N', L', e', u', d', n', m', g'⟩ := col_step (O := O) (f := f) (l := fun _ => lo) (S := fun j => bitz mask j = 1) (hi := hi) h (by omega) ht g2 l0 l1 l2 l3 u dl hlen hm hg hf
      rw [eq_T g2, a_Hall_series wN, r_Hall_series wN (by omega) (by omega), kz, a_Hall_series wN, r_Hall_series wN (by omega) (by omega), kz, a_Hall_is wN, xc_of (e_zoneOf wN (by omega) (by rw [pv _ _ (by omega)]; exact sv.2.1.1) (by rw [pv _ _ (by omega)]; exact sv.2.1.2)), hzk, a_Series_is wN (by omega), e', xcl_e]
      have q := ih n (k + 1) N' L' (by omega) u' d' n' m' g' (by omega)
      rw [show ((k + 1 : Nat) : Int) = (k : Int) + 1 by omega] at q
      exact q
    · rw [eq_F g2 (by omega) (by omega) (by omega) (by omega)]
      exact skip (fun q => g2 q.2)
/-- the dates that begin in a piece -/
theorem collect_ok (h : HS O f M Dk) (m0 : 0 ≤ mask) (m1 : mask ≤ 2147483647) (l0 : 10000 ≤ lo) (l1 : lo < hi) (l2 : hi ≤ 150000000) (l3 : hi - lo ≤ 18000) (hf : 2000 ≤ f) : ∃ M' L, f_Hall_collect O f 2 116 mask lo hi M = some ((), M') ∧ Un P3 M M' ∧ DL M' L ∧ (∀ x, x ∈ L ↔ rwS M Dk (fun j => bitz mask j = 1) (fun _ => lo) hi x) ∧ (∀ j : Nat, j < 12 → iV M (29 + 6 * j) 0 = 1 → bitz mask j = 1 → iV M' 118 j = iV M (29 + 6 * j) 3) := by
  obtain ⟨N, e, d, u⟩ := clear_ok (O := O) (f := f) h.1
  have u' : Un P3 M N := u.le (fun a q => ⟨q.1, q.2.1⟩)
  obtain ⟨M', L, e', z⟩ := col_7 (O := O) (f := f) h m0 m1 l0 l1 l2 l3 hf 12 f 0 N [] (by omega) u' d (by decide) (fun x => ⟨fun q => (by cases q), (by rintro ⟨j, q, -⟩; exact absurd q (Nat.not_lt_zero _))⟩) (fun j hj => absurd hj (Nat.not_lt_zero _)) (by omega)
  refine ⟨M', L, ?_, z⟩
  unfold f_Hall_collect
  rw [a_Dates_is h.1, e, xcl_e]
  exact e'
theorem colOn_7 (h : HS O f M Dk) (m0 : 0 ≤ mask) (m1 : mask ≤ 2147483647) (l0 : 11000 ≤ lo) (l1 : lo < hi) (l2 : hi ≤ 150000000) (l3 : hi - lo ≤ 17000) (hf : 2000 ≤ f) : ∀ (r n k : Nat) (N : xM) (L : List Int), k + r = 12 → Un P3 M N → DL N L → L.length ≤ k * 26 → (∀ x, x ∈ L ↔ ∃ j : Nat, j < k ∧ iV M (29 + 6 * j) 0 = 1 ∧ bitz mask j = 1 ∧ ∃ d, Dk j d ∧ rwB M j j 0 (lo - iV M (29 + 6 * j) 3 + 1) hi d x) → (∀ j : Nat, j < k → iV M (29 + 6 * j) 0 = 1 → bitz mask j = 1 → iV N 118 j = iV M (29 + 6 * j) 3) → r < n → ∃ N' L', f_Hall_collectOn_7 O f n 2 116 mask lo hi (k : Int) N = some ((), N') ∧ Un P3 M N' ∧ DL N' L' ∧ (∀ x, x ∈ L' ↔ rwS M Dk (fun j => bitz mask j = 1) (fun j => lo - iV M (29 + 6 * j) 3 + 1) hi x) ∧ (∀ j : Nat, j < 12 → iV M (29 + 6 * j) 0 = 1 → bitz mask j = 1 → iV N' 118 j = iV M (29 + 6 * j) 3) := by
  intro r
  induction r with
  | zero =>
    intro n k N L hk u dl hlen hm hg h2
    obtain ⟨n, rfl⟩ : ∃ n', n = n' + 1 := ⟨n - 1, by omega⟩
    have wN := u.wd h.1
    obtain rfl : k = 12 := by omega
    refine ⟨N, L, ?_, u, dl, hm, hg⟩
    show (gR O N 2 4 3).bind _ = _
    rw [a_Hall_series wN, n_Hall_series wN, le_T (by omega) (by omega) (by omega)]
  | succ r ih =>
    intro n k N L hk u dl hlen hm hg h2
    obtain ⟨n, rfl⟩ : ∃ n', n = n' + 1 := ⟨n - 1, by omega⟩
    have wN := u.wd h.1
    have pv := p3_v u
    have kz : ((k : Int)).toNat = k := by omega
    have skip : ¬ (iV M (29 + 6 * k) 0 = 1 ∧ bitz mask k = 1) → ∃ N' L', f_Hall_collectOn_7 O f n 2 116 mask lo hi ((k : Int) + 1) N = some ((), N') ∧ Un P3 M N' ∧ DL N' L' ∧ (∀ x, x ∈ L' ↔ rwS M Dk (fun j => bitz mask j = 1) (fun j => lo - iV M (29 + 6 * j) 3 + 1) hi x) ∧ (∀ j : Nat, j < 12 → iV M (29 + 6 * j) 0 = 1 → bitz mask j = 1 → iV N' 118 j = iV M (29 + 6 * j) 3) := by
      intro hno
      have q := ih n (k + 1) N L (by omega) u dl (by omega) (fun x => by
        rw [hm x]
        constructor
        · rintro ⟨j, q1, q2⟩
          exact ⟨j, by omega, q2⟩
        · rintro ⟨j, q1, q2, q3, q4⟩
          by_cases e : j = k
          · rw [e] at q2 q3
            exact absurd ⟨q2, q3⟩ hno
          · exact ⟨j, by omega, q2, q3, q4⟩) (fun j hj tj sj => by
        by_cases e : j = k
        · rw [e] at tj sj
          exact absurd ⟨tj, sj⟩ hno
        · exact hg j (by omega) tj sj) (by omega)
      rw [show ((k + 1 : Nat) : Int) = (k : Int) + 1 by omega] at q
      exact q
    have rt := iV_r M (29 + 6 * k) 0
    show ∃ N' L', (gR O N 2 4 3).bind _ = some ((), N') ∧ _
    rw [a_Hall_series wN, n_Hall_series wN, le_F (by omega) (by omega) (by omega), a_Hall_series wN, r_Hall_series wN (by omega) (by omega), kz, a_Series_isThere wN (by omega), pv _ _ (by omega)]
    by_cases g1 : iV M (29 + 6 * k) 0 = 0
    · rw [eq_T g1]
      exact skip (fun q => by omega)
    have ht : iV M (29 + 6 * k) 0 = 1 := by
      rcases h.2.2 k (by omega) with q | q
      · exact absurd q g1
      · exact q.1.1
    have bb := bitz_lt (x := mask) (k := (k : Int))
    rw [eq_F g1 (by omega) (by omega) (by omega) (by omega), bit_e m0 m1 (by omega) (by omega)]
    by_cases g2 : bitz mask k = 0
    · rw [eq_T g2]
      exact skip (fun q => by omega)
    · obtain ⟨sv, -, -⟩ := h.there (by omega) ht
      obtain ⟨g30, g31⟩ := sv.2.2.2.1
      have hzk : zk N k = zk M k := by
        show (iV N (29 + 6 * k) 1).toNat = _
        rw [pv _ _ (by omega)]
        rfl
      obtain ⟨N', L', e', u', d', n', m', g'⟩ := col_step (O := O) (f := f) (k := k) (l := fun j => lo - iV M (29 + 6 * j) 3 + 1) (S := fun j => bitz mask j = 1) (hi := hi) h (by omega) ht (by (try dsimp only); omega) (by (try dsimp only); omega) (by (try dsimp only); omega) l2 (by (try dsimp only); omega) u dl hlen hm hg hf
      have e' : f_Series_addRows O f (29 + 6 * k) 116 (k : Int) 0 (12 + 3 * zk M k) (lo - iV M (29 + 6 * k) 3 + 1) hi N = some ((), N') := e'
      rw [eq_F g2 (by omega) (by omega) (by omega) (by omega), a_Hall_series wN, r_Hall_series wN (by omega) (by omega), kz, a_Hall_series wN, r_Hall_series wN (by omega) (by omega), kz, a_Hall_is wN, xc_of (e_zoneOf wN (by omega) (by rw [pv _ _ (by omega)]; exact sv.2.1.1) (by rw [pv _ _ (by omega)]; exact sv.2.1.2)), hzk, a_Hall_series wN, r_Hall_series wN (by omega) (by omega), kz, a_Series_length wN (by omega), pv _ _ (by omega), a_Series_is wN (by omega), e', xcl_e]
      have q := ih n (k + 1) N' L' (by omega) u' d' n' m' g' (by omega)
      rw [show ((k + 1 : Nat) : Int) = (k : Int) + 1 by omega] at q
      exact q
/-- the dates that are on at some minute of a piece -/
theorem collectOn_ok (h : HS O f M Dk) (m0 : 0 ≤ mask) (m1 : mask ≤ 2147483647) (l0 : 11000 ≤ lo) (l1 : lo < hi) (l2 : hi ≤ 150000000) (l3 : hi - lo ≤ 17000) (hf : 2000 ≤ f) : ∃ M' L, f_Hall_collectOn O f 2 116 mask lo hi M = some ((), M') ∧ Un P3 M M' ∧ DL M' L ∧ (∀ x, x ∈ L ↔ rwS M Dk (fun j => bitz mask j = 1) (fun j => lo - iV M (29 + 6 * j) 3 + 1) hi x) ∧ (∀ j : Nat, j < 12 → iV M (29 + 6 * j) 0 = 1 → bitz mask j = 1 → iV M' 118 j = iV M (29 + 6 * j) 3) := by
  obtain ⟨N, e, d, u⟩ := clear_ok (O := O) (f := f) h.1
  have u' : Un P3 M N := u.le (fun a q => ⟨q.1, q.2.1⟩)
  obtain ⟨M', L, e', z⟩ := colOn_7 (O := O) (f := f) h m0 m1 l0 l1 l2 l3 hf 12 f 0 N [] (by omega) u' d (by decide) (fun x => ⟨fun q => (by cases q), (by rintro ⟨j, q, -⟩; exact absurd q (Nat.not_lt_zero _))⟩) (fun j hj => absurd hj (Nat.not_lt_zero _)) (by omega)
  refine ⟨M', L, ?_, z⟩
  unfold f_Hall_collectOn
  rw [a_Dates_is h.1, e, xcl_e]
  exact e'
end COL
end
/-! draft 556.count -/
section
/-! ===== how many dates there are ===== -/
theorem pigeon {φ : Nat → Int} : ∀ (m : Nat) (L : List Int), L.Nodup → (∀ x, x ∈ L → ∃ i, i < m ∧ x = φ i) → L.length ≤ m
  | 0, L, _, h => by
    cases L with
    | nil => exact Nat.le_refl _
    | cons a l =>
      obtain ⟨i, hi, -⟩ := h a List.mem_cons_self
      exact absurd hi (Nat.not_lt_zero _)
  | m + 1, L, hn, h => by
    by_cases q : φ m ∈ L
    · have hl := List.length_erase_of_mem q
      have := pigeon m (L.erase (φ m)) (hn.erase _) (fun x hx => by
        have hx2 := (List.Nodup.mem_erase_iff hn).mp hx
        obtain ⟨i, hi, e⟩ := h x hx2.2
        refine ⟨i, ?_, e⟩
        by_cases z : i = m
        · rw [z] at e
          exact absurd e hx2.1
        · omega)
      have hp : 0 < L.length := List.length_pos_of_mem q
      omega
    · have := pigeon m L hn (fun x hx => by
        obtain ⟨i, hi, e⟩ := h x hx
        refine ⟨i, ?_, e⟩
        by_cases z : i = m
        · rw [z] at e
          rw [e] at hx
          exact absurd hx q
        · omega)
      omega
theorem srt_nodup {L : List Int} (h : srt L) : L.Nodup := List.Pairwise.imp (fun q => by omega) h
section CNT
variable {O : Nat → Option va_E} {f : Nat} {M N : xM} {Dk : Nat → Int → Prop} {lo hi : Int}
/-- the row of an index -/
def phi (M : xM) (lo hi : Int) (i : Nat) : Int := if i % ((hi - lo) / 1440 + 13).toNat < ((hi - lo) / 1440 + 3).toNat then rw' (C0 M (i / ((hi - lo) / 1440 + 13).toNat) ((lo + iV M (12 + 3 * zk M (i / ((hi - lo) / 1440 + 13).toNat)) 0 - iV M (29 + 6 * (i / ((hi - lo) / 1440 + 13).toNat)) 2) / 1440 + ((i % ((hi - lo) / 1440 + 13).toNat : Nat) : Int)) - 0) (i / ((hi - lo) / 1440 + 13).toNat : Nat) ((lo + iV M (12 + 3 * zk M (i / ((hi - lo) / 1440 + 13).toNat)) 0 - iV M (29 + 6 * (i / ((hi - lo) / 1440 + 13).toNat)) 2) / 1440 + ((i % ((hi - lo) / 1440 + 13).toNat : Nat) : Int)) else rw' (com M (zk M (i / ((hi - lo) / 1440 + 13).toNat)) (iV M (32 + 6 * (i / ((hi - lo) / 1440 + 13).toNat)) (i % ((hi - lo) / 1440 + 13).toNat - ((hi - lo) / 1440 + 3).toNat)) - 0) (i / ((hi - lo) / 1440 + 13).toNat : Nat) (iV M (31 + 6 * (i / ((hi - lo) / 1440 + 13).toNat)) (i % ((hi - lo) / 1440 + 13).toNat - ((hi - lo) / 1440 + 3).toNat))
theorem count_le (h : HS O f M Dk) (l0 : 10000 ≤ lo) (l1 : lo ≤ hi) {L : List Int} (hs : srt L) {m : Nat} (hm : m ≤ 12) (hx : ∀ x, x ∈ L → ∃ k : Nat, k < m ∧ iV M (29 + 6 * k) 0 = 1 ∧ ∃ d, Dk k d ∧ rwB M k k 0 lo hi d x) : L.length ≤ m * ((hi - lo) / 1440 + 13).toNat := by
  refine pigeon (φ := phi M lo hi) _ L (srt_nodup hs) (fun x hxL => ?_)
  obtain ⟨k, hk, ht, d, hd, q1, q2, q3, q4⟩ := hx x hxL
  obtain ⟨sv, nx, -⟩ := h.there (by omega) ht
  obtain ⟨zl, zv⟩ := h.zko (by omega) ht
  have hd2 := nx.1 d hd
  obtain ⟨w, ew⟩ : ∃ w : Nat, w = ((hi - lo) / 1440 + 13).toNat := ⟨_, rfl⟩
  have hw : 13 ≤ w := by omega
  have hlt : ∀ i, i < w → k * w + i < m * w := by
    intro i hi
    have : (k + 1) * w ≤ m * w := Nat.mul_le_mul_right _ hk
    rw [Nat.add_mul, Nat.one_mul] at this
    omega
  have hdiv : ∀ i, i < w → (k * w + i) / w = k := by
    intro i hi
    rw [Nat.mul_comm, Nat.mul_add_div (by omega), Nat.div_eq_of_lt hi]
    rfl
  have hmod : ∀ i, i < w → (k * w + i) % w = i := by
    intro i hi
    rw [Nat.mul_comm, Nat.mul_add_mod, Nat.mod_eq_of_lt hi]
  by_cases z : exO M k d = -1
  · have eb : bg M k d = C0 M k d := if_pos z
    rw [eb] at q2 q3 q4
    have cr := C0_r (d := d) sv zv
    have zv' := zv
    obtain ⟨o0, o1, s0, s1, -, -⟩ := zv'
    obtain ⟨ed, eed⟩ : ∃ ed, ed = (lo + iV M (12 + 3 * zk M k) 0 - iV M (29 + 6 * k) 2) / 1440 := ⟨_, rfl⟩
    obtain ⟨mm0, mm1⟩ := sv.2.2.1
    have hi1 : 0 ≤ d - ed ∧ d - ed < (hi - lo) / 1440 + 3 := by omega
    refine ⟨k * w + (d - ed).toNat, by rw [← ew]; exact hlt _ (by omega), ?_⟩
    unfold phi
    rw [← ew, hdiv _ (by omega), hmod _ (by omega), if_pos (by omega), ← eed, show ed + (((d - ed).toNat : Nat) : Int) = d by omega]
    exact q4
  · obtain ⟨y0, y1, y2⟩ := exO_r sv.2.2.2.2.2.2.1.1 z
    have h10 := sv.2.2.2.2.2.2.1.2
    have eb0 : bg M k d = if iV M (32 + 6 * k) (exO M k d).toNat = -1 then -1 else com M (zk M k) (iV M (32 + 6 * k) (exO M k d).toNat) := if_neg z
    by_cases y3 : iV M (32 + 6 * k) (exO M k d).toNat = -1
    · rw [if_pos y3] at eb0
      exact absurd eb0 q1
    · rw [if_neg y3] at eb0
      rw [eb0] at q4
      refine ⟨k * w + (((hi - lo) / 1440 + 3).toNat + (exO M k d).toNat), by rw [← ew]; exact hlt _ (by omega), ?_⟩
      unfold phi
      rw [← ew, hdiv _ (by omega), hmod _ (by omega), if_neg (by omega), Nat.add_sub_cancel_left, y2]
      exact q4
end CNT
end
/-! draft 557.lawdates -/
section
/-! ===== the law's own dates ===== -/
def LTs (n : Nat) (M : xM) : Prop := 1044 ≤ n ∧ n + 5 ≤ M.1 ∧ M.1 ≤ 500000000 ∧ mS M n = .inl 13 ∧ ∀ j : Nat, j < 4 → mR M n j = some (n + 1 + j) ∧ mS M (n + 1 + j) = .inr (0, 300)
/-- a place of the law's rows -/
def LTa (n : Nat) (M : xM) (i : Nat) (x : Int) : Prop := iV M (n + 1) i = rN x ∧ iV M (n + 2) i = rD x ∧ iV M (n + 3) i = rM x ∧ iV M (n + 4) i = iV M (29 + 6 * (rN x).toNat) 3
def LTv (n : Nat) (M : xM) (L : List Int) : Prop := iV M n 4 = L.length ∧ srt L ∧ ∀ i : Nat, i < L.length → LTa n M i (L.getD i 0)
section LDT
variable {O : Nat → Option va_E} {f n : Nat} {M N : xM} {ix x : Int} {γ : Type} {L : List Int}
theorem LTs.sm (h : LTs n M) (s : Sm M N) : LTs n N := by
  obtain ⟨a, b, c, e, g⟩ := h
  refine ⟨a, by rw [s.1]; exact b, by rw [s.1]; exact c, by rw [s.s]; exact e, fun j hj => ?_⟩
  rw [s.r, s.s]
  exact g j hj
theorem LTs.kp {P : Nat → Prop} (h : LTs n M) (s : Kp P M N) (hb : N.1 ≤ 500000000) : LTs n N := by
  obtain ⟨a, b, c, e, g⟩ := h
  refine ⟨a, by have := s.1; omega, hb, by rw [(s.2.1 n (by omega)).1]; exact e, fun j hj => ?_⟩
  rw [(s.2.1 n (by omega)).2, (s.2.1 (n + 1 + j) (by omega)).1]
  exact g j hj
theorem LTv.kp {P : Nat → Prop} (h : LTv n M L) (hs : LTs n M) (s : Kp P M N) (p : ∀ a, n ≤ a → a < n + 5 → P a) (p2 : ∀ a, 29 ≤ a → a < 101 → P a) (hr : ∀ y, y ∈ L → rN y < 12) : LTv n N L := by
  obtain ⟨a, b, c⟩ := h
  have hn := hs.2.1
  have hn2 := hs.1
  refine ⟨by rw [s.i (by omega) (p n (by omega) (by omega))]; exact a, b, fun i hi => ?_⟩
  obtain ⟨c1, c2, c3, c4⟩ := c i hi
  have hN := hr _ (getD_mem hi)
  have hN0 : 0 ≤ rN (L.getD i 0) := Int.emod_nonneg _ (by decide)
  unfold LTa
  rw [s.i (by omega) (p (n + 1) (by omega) (by omega)), s.i (by omega) (p (n + 2) (by omega) (by omega)), s.i (by omega) (p (n + 3) (by omega) (by omega)), s.i (by omega) (p (n + 4) (by omega) (by omega)), s.i (by omega) (p2 (29 + 6 * (rN (L.getD i 0)).toNat) (by omega) (by omega))]
  exact ⟨c1, c2, c3, c4⟩
theorem LTs.b (h : LTs n M) {k : Nat} (hk : k < 5) : inM M (n + k) := ⟨by have := h.2.1; have := h.2.2.1; omega, by have := h.2.1; omega⟩
theorem LTs.is (h : LTs n M) {A : Unit → Option γ} : (isO O M n 13).bind A = A () := z_is (h.b (k := 0) (by decide)) h.2.2.2.1
theorem LTs.gR (h : LTs n M) {j : Nat} (hj : j < 4) {A : Nat → Option γ} : (gR O M n 13 j).bind A = A (n + 1 + j) := by
  have q : ∀ j, j < 4 → j < xNf 13 ∧ xkR (xTy 13 j) = true := by decide
  exact z_gR (h.b (k := 0) (by decide)) h.2.2.2.1 (q j hj).1 (q j hj).2 (h.2.2.2.2 j hj).1
theorem LTs.gJ (h : LTs n M) {A : Int → Option γ} : (gJ O M n 13 4).bind A = A (iV M n 4) := z_gJ (h.b (k := 0) (by decide)) h.2.2.2.1 (by decide) (by decide)
theorem LTs.pJ (h : LTs n M) {A : xM → Option γ} : (pJ M n 13 4 x).bind A = A (iS M n 4 x) := z_pJ (h.b (k := 0) (by decide)) h.2.2.2.1 (by decide) (by decide) rfl
theorem LTs.aJ (h : LTs n M) {j : Nat} (hj : j < 4) (h0 : 0 ≤ ix) (h1 : ix < 300) {A : Int → Option γ} : (aJ O M (n + 1 + j) ix).bind A = A (iV M (n + 1 + j) ix.toNat) := z_aJ (by rw [Nat.add_assoc]; exact h.b (by omega)) (h.2.2.2.2 j hj).2 h0 h1 (by omega)
theorem LTs.wJ (h : LTs n M) {j : Nat} (hj : j < 4) (h0 : 0 ≤ ix) (h1 : ix < 300) {A : xM → Option γ} : (wJ M (n + 1 + j) ix x).bind A = A (iS M (n + 1 + j) ix.toNat x) := z_wJ (by rw [Nat.add_assoc]; exact h.b (by omega)) (h.2.2.2.2 j hj).2 h0 h1 (by omega)
/-- a row goes one place on -/
theorem lt_copies {i : Nat} (h : LTs n M) (hi : i + 1 < 300) : ∃ M', f_LDates_copies O f n (i : Int) ((i : Int) + 1) M = some ((), M') ∧ Un (fun a => a ≤ n ∨ n + 5 ≤ a) M M' ∧ (∀ j : Nat, j < 4 → iV M' (n + 1 + j) (i + 1) = iV M (n + 1 + j) i) ∧ ∀ (j q : Nat), j < 4 → q ≠ i + 1 → iV M' (n + 1 + j) q = iV M (n + 1 + j) q := by
  have iz : ((i : Int)).toNat = i := by omega
  have iz1 : ((i : Int) + 1).toNat = i + 1 := by omega
  obtain ⟨M1, e1⟩ : ∃ M1, M1 = iS M (n + 1 + 0) (i + 1) (iV M (n + 1 + 0) i) := ⟨_, rfl⟩
  have s1 : LTs n M1 := by rw [e1]; exact h
  obtain ⟨M2, e2⟩ : ∃ M2, M2 = iS M1 (n + 1 + 1) (i + 1) (iV M1 (n + 1 + 1) i) := ⟨_, rfl⟩
  have s2 : LTs n M2 := by rw [e2]; exact s1
  obtain ⟨M3, e3⟩ : ∃ M3, M3 = iS M2 (n + 1 + 2) (i + 1) (iV M2 (n + 1 + 2) i) := ⟨_, rfl⟩
  have s3 : LTs n M3 := by rw [e3]; exact s2
  obtain ⟨M4, e4⟩ : ∃ M4, M4 = iS M3 (n + 1 + 3) (i + 1) (iV M3 (n + 1 + 3) i) := ⟨_, rfl⟩
  have v1 : ∀ a q, iV M1 a q = if a = n + 1 + 0 ∧ q = i + 1 then iV M (n + 1 + 0) i else iV M a q := by
    intro a q
    rw [e1]
    by_cases z : a = n + 1 + 0 ∧ q = i + 1
    · rw [if_pos z, z.1, z.2, iV_sv]
    · rw [if_neg z, iV_o (by omega)]
  have v2 : ∀ a q, iV M2 a q = if a = n + 1 + 1 ∧ q = i + 1 then iV M1 (n + 1 + 1) i else iV M1 a q := by
    intro a q
    rw [e2]
    by_cases z : a = n + 1 + 1 ∧ q = i + 1
    · rw [if_pos z, z.1, z.2, iV_sv]
    · rw [if_neg z, iV_o (by omega)]
  have v3 : ∀ a q, iV M3 a q = if a = n + 1 + 2 ∧ q = i + 1 then iV M2 (n + 1 + 2) i else iV M2 a q := by
    intro a q
    rw [e3]
    by_cases z : a = n + 1 + 2 ∧ q = i + 1
    · rw [if_pos z, z.1, z.2, iV_sv]
    · rw [if_neg z, iV_o (by omega)]
  have v4 : ∀ a q, iV M4 a q = if a = n + 1 + 3 ∧ q = i + 1 then iV M3 (n + 1 + 3) i else iV M3 a q := by
    intro a q
    rw [e4]
    by_cases z : a = n + 1 + 3 ∧ q = i + 1
    · rw [if_pos z, z.1, z.2, iV_sv]
    · rw [if_neg z, iV_o (by omega)]
  refine ⟨M4, ?_, ?_, ?_, ?_⟩
  · unfold f_LDates_copies
    rw [h.gR (j := 0) (by decide), h.gR (j := 0) (by decide), h.aJ (j := 0) (by decide) (by omega) (by omega), h.wJ (j := 0) (by decide) (by omega) (by omega), iz, iz1, ← e1, s1.gR (j := 1) (by decide), s1.gR (j := 1) (by decide), s1.aJ (j := 1) (by decide) (by omega) (by omega), s1.wJ (j := 1) (by decide) (by omega) (by omega), iz, iz1, ← e2, s2.gR (j := 2) (by decide), s2.gR (j := 2) (by decide), s2.aJ (j := 2) (by decide) (by omega) (by omega), s2.wJ (j := 2) (by decide) (by omega) (by omega), iz, iz1, ← e3, s3.gR (j := 3) (by decide), s3.gR (j := 3) (by decide), s3.aJ (j := 3) (by decide) (by omega) (by omega), s3.wJ (j := 3) (by decide) (by omega) (by omega), iz, iz1, ← e4]
  · have u1 : Un (fun a => a ≤ n ∨ n + 5 ≤ a) M M1 := by rw [e1]; exact Un.rf.iS (by (try dsimp only); omega)
    have u2 : Un (fun a => a ≤ n ∨ n + 5 ≤ a) M M2 := by rw [e2]; exact u1.iS (by (try dsimp only); omega)
    have u3 : Un (fun a => a ≤ n ∨ n + 5 ≤ a) M M3 := by rw [e3]; exact u2.iS (by (try dsimp only); omega)
    rw [e4]
    exact u3.iS (by (try dsimp only); omega)
  · intro j hj
    have hj4 : j = 0 ∨ j = 1 ∨ j = 2 ∨ j = 3 := by omega
    rcases hj4 with rfl | rfl | rfl | rfl
    · rw [v4, if_neg (by omega), v3, if_neg (by omega), v2, if_neg (by omega), v1, if_pos ⟨rfl, rfl⟩]
    · rw [v4, if_neg (by omega), v3, if_neg (by omega), v2, if_pos ⟨rfl, rfl⟩, v1, if_neg (by omega)]
    · rw [v4, if_neg (by omega), v3, if_pos ⟨rfl, rfl⟩, v2, if_neg (by omega), v1, if_neg (by omega)]
    · rw [v4, if_pos ⟨rfl, rfl⟩, v3, if_neg (by omega), v2, if_neg (by omega), v1, if_neg (by omega)]
  · intro j q hj hq
    rw [v4, if_neg (by omega), v3, if_neg (by omega), v2, if_neg (by omega), v1, if_neg (by omega)]
end LDT
end
/-! draft 558.lawins -/
section
/-! ===== the law's dates are put in order ===== -/
def Qn (n a : Nat) : Prop := a < n ∨ n + 5 ≤ a
section LIN
variable {O : Nat → Option va_E} {f n : Nat} {M N : xM} {Dk : Nat → Int → Prop} {lo hi x b d : Int} {L : List Int}
theorem LTa.un {i : Nat} {y : Int} (hn : 1044 ≤ n) (h : LTa n M i y) (hy : rN y < 12) (e : ∀ j : Nat, j < 4 → iV N (n + 1 + j) i = iV M (n + 1 + j) i) (e2 : ∀ a j, a < 1044 → iV N a j = iV M a j) : LTa n N i y := by
  obtain ⟨c1, c2, c3, c4⟩ := h
  have h0 : 0 ≤ rN y := Int.emod_nonneg _ (by decide)
  have f0 : iV N (n + 1) i = iV M (n + 1) i := e 0 (by omega)
  have f1 : iV N (n + 2) i = iV M (n + 2) i := e 1 (by omega)
  have f2 : iV N (n + 3) i = iV M (n + 3) i := e 2 (by omega)
  have f3 : iV N (n + 4) i = iV M (n + 4) i := e 3 (by omega)
  unfold LTa
  rw [f0, f1, f2, f3, e2 _ _ (by omega)]
  exact ⟨c1, c2, c3, c4⟩
/-- the new row is written -/
theorem lt_153 {K : Nat → Nat → Int → Int → Int → Int → Int → xM → Option (Unit × xM)} {all : Int} {j k : Nat} (h : LTs n M) (w : Wd M) (hk : k < 12) (ht : iV M (29 + 6 * k) 0 = 1) (hx : x = rw' b k d) (b0 : 0 ≤ b) (b1 : b < 1000000000) (d0 : 0 ≤ d) (d1 : d < 262144) (hj : j ≤ L.length) (hl : L.length < 300) (hc : iV M n 4 = L.length) (hs : srt L) (hxL : x ∉ L) (hr : ∀ y, y ∈ L → rN y < 12) (p1 : ∀ i : Nat, i < j → LTa n M i (L.getD i 0)) (p2 : ∀ i : Nat, j < i → i ≤ L.length → LTa n M i (L.getD (i - 1) 0)) (q1 : ∀ i, i < j → L.getD i 0 ≤ x) (q2 : j < L.length → x < L.getD j 0) : ∃ N, f_LDates_ctor_153 O f K n 1 all lo hi (k : Int) d b (j : Int) M = f_LDates_ctor_204 O f K n 1 all lo hi (k : Int) d N ∧ LTv n N (ins x L) ∧ Un (Qn n) M N := by
  have hn := h.1
  have jz : ((j : Int)).toNat = j := by omega
  have hrN : rN x = k := by rw [hx]; exact rN_e (by omega) (by omega) d0 d1
  have hrD : rD x = d := by rw [hx]; exact rD_e (by omega) (by omega) d0 d1
  have hrM : rM x = b := by rw [hx]; exact rM_e (by omega) (by omega) d0 d1
  obtain ⟨M1, e1⟩ : ∃ M1, M1 = iS M (n + 1 + 0) j (k : Int) := ⟨_, rfl⟩
  have s1 : LTs n M1 := by rw [e1]; exact h
  obtain ⟨M2, e2⟩ : ∃ M2, M2 = iS M1 (n + 1 + 1) j d := ⟨_, rfl⟩
  have s2 : LTs n M2 := by rw [e2]; exact s1
  obtain ⟨M3, e3⟩ : ∃ M3, M3 = iS M2 (n + 1 + 2) j b := ⟨_, rfl⟩
  have s3 : LTs n M3 := by rw [e3]; exact s2
  have w3 : Wd M3 := by rw [e3, e2, e1]; exact w
  have l3 : iV M3 (29 + 6 * k) 3 = iV M (29 + 6 * k) 3 := by rw [e3, iV_o (by omega), e2, iV_o (by omega), e1, iV_o (by omega)]
  have t3 : iV M3 (29 + 6 * k) 0 = 1 := by rw [e3, iV_o (by omega), e2, iV_o (by omega), e1, iV_o (by omega)]; exact ht
  have sa := e_seriesAt (O := O) (f := f) (kk := (k : Int)) (w := 3) (j := 3) w3 rfl hk t3 (Or.inr (Or.inl ⟨rfl, rfl⟩))
  rw [l3] at sa
  have lr := iV_r M (29 + 6 * k) 3
  obtain ⟨M5, e5⟩ : ∃ M5, M5 = iS M3 (n + 1 + 3) j (iV M (29 + 6 * k) 3) := ⟨_, rfl⟩
  have s5 : LTs n M5 := by rw [e5]; exact s3
  have c5 : iV M5 n 4 = L.length := by rw [e5, iV_o (by omega), e3, iV_o (by omega), e2, iV_o (by omega), e1, iV_o (by omega)]; exact hc
  obtain ⟨M6, e6⟩ : ∃ M6, M6 = iS M5 n 4 (L.length + 1) := ⟨_, rfl⟩
  have v6 : ∀ (t i : Nat), t < 4 → iV M6 (n + 1 + t) i = if i = j then (if t = 0 then (k : Int) else if t = 1 then d else if t = 2 then b else iV M (29 + 6 * k) 3) else iV M (n + 1 + t) i := by
    intro t i ht
    rw [e6, iV_o (by omega)]
    by_cases z : i = j
    · rw [if_pos z, z]
      have ht4 : t = 0 ∨ t = 1 ∨ t = 2 ∨ t = 3 := by omega
      rcases ht4 with rfl | rfl | rfl | rfl
      · rw [if_pos rfl, e5, iV_o (by omega), e3, iV_o (by omega), e2, iV_o (by omega), e1, iV_s (by omega) (by omega)]
      · rw [if_neg (by omega), if_pos rfl, e5, iV_o (by omega), e3, iV_o (by omega), e2, iV_s (by omega) (by omega)]
      · rw [if_neg (by omega), if_neg (by omega), if_pos rfl, e5, iV_o (by omega), e3, iV_s (by omega) (by omega)]
      · rw [if_neg (by omega), if_neg (by omega), if_neg (by omega), e5, iV_s lr.1 lr.2]
    · rw [if_neg z, e5, iV_o (by omega), e3, iV_o (by omega), e2, iV_o (by omega), e1, iV_o (by omega)]
  have o6 : ∀ a i, a < 1044 → iV M6 a i = iV M a i := by
    intro a i ha
    rw [e6, iV_o (by omega), e5, iV_o (by omega), e3, iV_o (by omega), e2, iV_o (by omega), e1, iV_o (by omega)]
  refine ⟨M6, ?_, ⟨?_, srt_ins hs hxL, fun i hi => ?_⟩, ?_⟩
  · unfold f_LDates_ctor_153
    rw [h.gR (j := 0) (by decide), h.wJ (j := 0) (by decide) (by omega) (by omega), jz, ← e1, s1.gR (j := 1) (by decide), s1.wJ (j := 1) (by decide) (by omega) (by omega), jz, ← e2, s2.gR (j := 2) (by decide), s2.wJ (j := 2) (by decide) (by omega) (by omega), jz, ← e3, s3.gR (j := 3) (by decide), a_Cal_is w3, sa, xcl_e, s3.wJ (j := 3) (by decide) (by omega) (by omega), jz, ← e5, s5.gJ, c5, s5.pJ, ← e6]
  · rw [e6, iV_s (by omega) (by omega), len_ins]
    omega
  · rw [len_ins] at hi
    rw [ins_at hj q1 q2 i]
    by_cases g : i < j
    · rw [if_pos g]
      exact (p1 i g).un hn (hr _ (getD_mem (by omega))) (fun t ht => by rw [v6 t i ht, if_neg (by omega)]) o6
    · rw [if_neg g]
      by_cases g2 : i = j
      · rw [if_pos g2]
        have f0 : iV M6 (n + 1) i = (k : Int) := by
          have := v6 0 i (by omega)
          rw [if_pos g2, if_pos rfl] at this
          exact this
        have f1 : iV M6 (n + 2) i = d := by
          have := v6 1 i (by omega)
          rw [if_pos g2, if_neg (by omega), if_pos rfl] at this
          exact this
        have f2 : iV M6 (n + 3) i = b := by
          have := v6 2 i (by omega)
          rw [if_pos g2, if_neg (by omega), if_neg (by omega), if_pos rfl] at this
          exact this
        have f3 : iV M6 (n + 4) i = iV M (29 + 6 * k) 3 := by
          have := v6 3 i (by omega)
          rw [if_pos g2, if_neg (by omega), if_neg (by omega), if_neg (by omega)] at this
          exact this
        unfold LTa
        rw [f0, f1, f2, f3, hrN, hrD, hrM, Int.toNat_natCast, o6 _ _ (by omega)]
        exact ⟨rfl, rfl, rfl, rfl⟩
      · rw [if_neg g2]
        exact (p2 i (by omega) (by omega)).un hn (hr _ (getD_mem (by omega))) (fun t ht => by rw [v6 t i ht, if_neg g2]) o6
  · have u1 : Un (Qn n) M M1 := by rw [e1]; exact Un.rf.iS (by unfold Qn; omega)
    have u2 : Un (Qn n) M M2 := by rw [e2]; exact u1.iS (by unfold Qn; omega)
    have u3 : Un (Qn n) M M3 := by rw [e3]; exact u2.iS (by unfold Qn; omega)
    have u5 : Un (Qn n) M M5 := by rw [e5]; exact u3.iS (by unfold Qn; omega)
    rw [e6]
    exact u5.iS (by unfold Qn; omega)
/-- the new row goes to its place -/
theorem lt_118 {K : Nat → Nat → Int → Int → Int → Int → Int → xM → Option (Unit × xM)} {all : Int} {k : Nat} (w : Wd M) (h : LTs n M) (hk : k < 12) (ht : iV M (29 + 6 * k) 0 = 1) (hx : x = rw' b k d) (b0 : 0 ≤ b) (b1 : b < 1000000000) (d0 : 0 ≤ d) (d1 : d < 262144) (hl : L.length < 300) (hs : srt L) (hxL : x ∉ L) (hr : ∀ y, y ∈ L → rN y < 12) (hord : ∀ y, y ∈ L → rM y ≤ b → y < x) (hmr : ∀ y, y ∈ L → -1000000 ≤ rM y ∧ rM y ≤ 1000000000) : ∀ (j t : Nat) (N : xM), j ≤ L.length → Un (Qn n) M N → iV N n 4 = L.length → (∀ i : Nat, i < j → LTa n N i (L.getD i 0)) → (∀ i : Nat, j < i → i ≤ L.length → LTa n N i (L.getD (i - 1) 0)) → (∀ i : Nat, j ≤ i → i < L.length → x < L.getD i 0) → j < t → ∃ N', f_LDates_ctor_118 O f K t n 1 all lo hi (k : Int) d b (j : Int) N = f_LDates_ctor_204 O f K n 1 all lo hi (k : Int) d N' ∧ LTv n N' (ins x L) ∧ Un (Qn n) M N' := by
  have hn := h.1
  intro j
  induction j with
  | zero =>
    intro t N hj u hc p1 p2 q2 ht2
    obtain ⟨t, rfl⟩ : ∃ n', t = n' + 1 := ⟨t - 1, by omega⟩
    obtain ⟨N', e', v', u'⟩ := lt_153 (O := O) (f := f) (K := K) (all := all) (lo := lo) (hi := hi) (j := 0) (L := L) (h.sm u.1) (u.wd w) hk (by rw [u.i (by unfold Qn; omega)]; exact ht) hx b0 b1 d0 d1 (by omega) hl hc hs hxL hr p1 p2 (fun i hi => by omega) (fun h => q2 0 (by omega) h)
    refine ⟨N', ?_, v', u.tr u'⟩
    rw [← e']
    show (if yw ((0 : Nat) : Int) ≤ yw 0 then _ else _) = _
    rw [le_T (by omega) (by omega) (by omega)]
  | succ j ih =>
    intro t N hj u hc p1 p2 q2 ht2
    obtain ⟨t, rfl⟩ : ∃ n', t = n' + 1 := ⟨t - 1, by omega⟩
    have sN := h.sm u.1
    have hb : iV N (n + 1 + 2) j = rM (L.getD j 0) := (p1 j (by omega)).2.2.1
    have hmm := hmr _ (getD_mem (show j < L.length by omega))
    have step : f_LDates_ctor_118 O f K (t + 1) n 1 all lo hi (k : Int) d b ((j + 1 : Nat) : Int) N = if yw (rM (L.getD j 0)) ≤ yw b then f_LDates_ctor_153 O f K n 1 all lo hi (k : Int) d b ((j + 1 : Nat) : Int) N else xcl (f_LDates_copies O f n (j : Int) ((j : Int) + 1) N) fun _ M1 => f_LDates_ctor_118 O f K t n 1 all lo hi (k : Int) d b (j : Int) M1 := by
      show (if yw ((j + 1 : Nat) : Int) ≤ yw 0 then _ else _) = _
      rw [le_F (by omega) (by omega) (by omega), sN.gR (j := 2) (by decide), sN.aJ (j := 2) (by decide) (by omega) (by omega), show (((j + 1 : Nat) : Int) - 1).toNat = j by omega, hb, sN.is, show ((j + 1 : Nat) : Int) - 1 = (j : Int) by omega, show ((j + 1 : Nat) : Int) = (j : Int) + 1 by omega]
      by_cases g : yw (rM (L.getD j 0)) ≤ yw b
      · rw [if_pos g, if_pos g]
      · rw [if_neg g, if_neg g, show (j : Int) + 1 + (-1) = (j : Int) by omega]
    rw [step]
    by_cases g : rM (L.getD j 0) ≤ b
    · rw [le_T g (by omega) (by omega)]
      have hjx := hord _ (getD_mem (show j < L.length by omega)) g
      obtain ⟨N', e', v', u'⟩ := lt_153 (O := O) (f := f) (K := K) (all := all) (lo := lo) (hi := hi) (j := j + 1) (L := L) sN (u.wd w) hk (by rw [u.i (by unfold Qn; omega)]; exact ht) hx b0 b1 d0 d1 hj hl hc hs hxL hr p1 p2 (fun i hi => by
        by_cases z : i = j
        · rw [z]
          omega
        · have := srt_lt hs (i := i) (j := j) (by omega) (by omega)
          omega) (fun h => q2 (j + 1) (by omega) h)
      exact ⟨N', e', v', u.tr u'⟩
    · rw [le_F (by omega) (by omega) (by omega)]
      obtain ⟨N1, e1, u1, c1, c2⟩ := lt_copies (O := O) (f := f) (i := j) sN (by omega)
      rw [e1, xcl_e]
      have u1' : Un (Qn n) N N1 := u1.le (fun a q => by unfold Qn at q; (try dsimp only); omega)
      refine ih t N1 (by omega) (u.tr u1') ?_ (fun i hi => ?_) (fun i hi1 hi2 => ?_) (fun i hi1 hi2 => ?_) (by omega)
      · rw [u1.i (by (try dsimp only); omega)]
        exact hc
      · exact (p1 i (by omega)).un hn (hr _ (getD_mem (by omega))) (fun t ht => c2 t i ht (by omega)) (fun a q ha => u1.i (by (try dsimp only); omega))
      · by_cases z : i = j + 1
        · have q := p1 j (by omega)
          have r12 := hr _ (getD_mem (show j < L.length by omega))
          obtain ⟨g1, g2, g3, g4⟩ := q
          have f0 : iV N1 (n + 1) (j + 1) = iV N (n + 1) j := c1 0 (by omega)
          have f1 : iV N1 (n + 2) (j + 1) = iV N (n + 2) j := c1 1 (by omega)
          have f2 : iV N1 (n + 3) (j + 1) = iV N (n + 3) j := c1 2 (by omega)
          have f3 : iV N1 (n + 4) (j + 1) = iV N (n + 4) j := c1 3 (by omega)
          have h0 : 0 ≤ rN (L.getD j 0) := Int.emod_nonneg _ (by decide)
          rw [z, show j + 1 - 1 = j by omega]
          unfold LTa
          rw [f0, f1, f2, f3, u1.i (by (try dsimp only); omega)]
          exact ⟨g1, g2, g3, g4⟩
        · exact (p2 i (by omega) hi2).un hn (hr _ (getD_mem (by omega))) (fun t ht => c2 t i ht (by omega)) (fun a q ha => u1.i (by (try dsimp only); omega))
      · by_cases z : i = j
        · rw [z]
          have hxM : rM x = b := by rw [hx]; exact rM_e (by omega) (by omega) d0 d1
          unfold rM at hxM g
          omega
        · exact q2 i (by omega) hi2
end LIN
end
