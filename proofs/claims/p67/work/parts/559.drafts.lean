/-! draft 559.lawall -/
section
/-! ===== all of the law's dates ===== -/
section LAL
variable {O : Nat → Option va_E} {f n : Nat} {M N : xM} {Dk : Nat → Int → Prop} {lo hi : Int} {L : List Int}
/-- the rows of the first series -/
def rwF (M : xM) (Dk : Nat → Int → Prop) (m : Nat) (lo hi x : Int) : Prop := ∃ k : Nat, k < m ∧ ∃ d, Dk k d ∧ rwB M k k 0 lo hi d x
theorem lt_59 {K : Nat → Nat → Int → Int → Int → Int → xM → Option (Unit × xM)} {all : Int} {k : Nat} (h : HS O f M Dk) (hsh : LTs n M) (hth : ∀ j : Nat, j < k + 1 → iV M (29 + 6 * j) 0 = 1) (hk : k < 12) (l0 : 10000 ≤ lo) (l1 : lo ≤ hi) (l2 : hi ≤ 10000000) (l3 : hi - lo ≤ 17200) (hcov : ∀ d, Dk k d → bg M k d ≠ -1 → lo ≤ bg M k d → bg M k d < hi → 1440 * d < hi + 6000) (hf : 2000 ≤ f) : ∀ (r t : Nat) (v : Int) (N : xM) (L : List Int), Un (Qn n) M N → LTv n N L → (v = -1 ∨ Dk k v) → (v ≠ -1 → (hi + 6000) / 1440 + 1 ≤ v + r) → (∀ x, x ∈ L ↔ rwF M Dk k lo hi x ∨ ∃ d, Dk k d ∧ (v = -1 ∨ d < v) ∧ rwB M k k 0 lo hi d x) → r < t → ∃ N' L', f_LDates_ctor_59 O f K t n 1 all lo hi (k : Int) v N = K n 1 all lo hi ((k : Int) + 1) N' ∧ Un (Qn n) M N' ∧ LTv n N' L' ∧ (∀ x, x ∈ L' ↔ rwF M Dk (k + 1) lo hi x) := by
  have hn := hsh.1
  obtain ⟨sv, nx, ex⟩ := h.there hk (hth k (by omega))
  obtain ⟨zl, zv⟩ := h.zko hk (hth k (by omega))
  have fin : ∀ (v : Int) (L : List Int), (v = -1 ∨ hi + 6000 ≤ 1440 * v) → (∀ x, x ∈ L ↔ rwF M Dk k lo hi x ∨ ∃ d, Dk k d ∧ (v = -1 ∨ d < v) ∧ rwB M k k 0 lo hi d x) → ∀ x, x ∈ L ↔ rwF M Dk (k + 1) lo hi x := by
    intro v L hv hm x
    rw [hm x]
    constructor
    · rintro (⟨j, q1, q2⟩ | ⟨d, q1, -, q2⟩)
      · exact ⟨j, by omega, q2⟩
      · exact ⟨k, by omega, d, q1, q2⟩
    · rintro ⟨j, q1, d, q2, q3⟩
      by_cases e : j = k
      · subst e
        refine Or.inr ⟨d, q2, ?_, q3⟩
        rcases hv with hv | hv
        · exact Or.inl hv
        · have := hcov d q2 q3.1 (by have := q3.2.1; omega) (by have := q3.2.2.1; omega)
          exact Or.inr (by omega)
      · exact Or.inl ⟨j, by omega, d, q2, q3⟩
  intro r
  induction r with
  | zero =>
    intro t v N L u hv hD hr hm h2
    obtain ⟨t, rfl⟩ : ∃ n', t = n' + 1 := ⟨t - 1, by omega⟩
    by_cases g : v = -1
    · refine ⟨N, L, ?_, u, hv, fin v L (Or.inl g) hm⟩
      show (if yw v = yw (-1) then _ else _) = _
      rw [eq_T g]
    · have hrr := hr g
      have hd := nx.1 v (hD.resolve_left g)
      refine ⟨N, L, ?_, u, hv, fin v L (Or.inr (by omega)) hm⟩
      show (if yw v = yw (-1) then _ else _) = _
      rw [eq_F g (by omega) (by omega) (by omega) (by omega), le_T (by omega) (by omega) (by omega)]
  | succ r ih =>
    intro t v N L u hv hD hr hm h2
    obtain ⟨t, rfl⟩ : ∃ n', t = n' + 1 := ⟨t - 1, by omega⟩
    by_cases g : v = -1
    · refine ⟨N, L, ?_, u, hv, fin v L (Or.inl g) hm⟩
      show (if yw v = yw (-1) then _ else _) = _
      rw [eq_T g]
    have hrr := hr g
    have hDv := hD.resolve_left g
    have hd := nx.1 v hDv
    by_cases g2 : hi + 6000 ≤ 1440 * v
    · refine ⟨N, L, ?_, u, hv, fin v L (Or.inr g2) hm⟩
      show (if yw v = yw (-1) then _ else _) = _
      rw [eq_F g (by omega) (by omega) (by omega) (by omega), le_T g2 (by omega) (by omega)]
    -- what the class says in N
    have low : ∀ a j, a < 1044 → iV N a j = iV M a j := fun a j ha => u.i (by unfold Qn; omega)
    have hN : HS O f N Dk := h.un u (fun a h1 h2 => by unfold Qn; omega)
    have tN : iV N (29 + 6 * k) 0 = 1 := by rw [low _ _ (by omega)]; exact hth k (by omega)
    obtain ⟨svN, nxN, -⟩ := hN.there hk tN
    obtain ⟨zlN, zvN⟩ := hN.zko hk tN
    have bgN : ∀ d, bg N k d = bg M k d := fun d => bg_of hk sv.2.1.2 (fun b j h1 h2 => low b j (by omega))
    have eb := e_begin (O := O) (f := f) (kk := (k : Int)) (d := v) hN.1 rfl hk svN zvN nxN hDv (by omega)
    rw [bgN] at eb
    have bgr : -1 ≤ bg M k v ∧ bg M k v ≤ 300000000 := by
      unfold bg
      split
      · have := C0_r (d := v) sv zv
        have zv' := zv
        obtain ⟨o0, o1, s0, s1, -, -⟩ := zv'
        unfold C0 at this
        have := sv.2.2.1
        omega
      · next g5 =>
        obtain ⟨y0, y1, y2⟩ := exO_r sv.2.2.2.2.2.2.1.1 g5
        split
        · omega
        · next g6 =>
          have := (sv.2.2.2.2.2.2.2.1 (exO M k v).toNat (by omega)).2.resolve_left g6
          have := com_r (k := zk M k) (l := iV M (32 + 6 * k) (exO M k v).toNat) zv
          omega
    -- on to the next day
    have gon : ∀ (N2 : xM) (L2 : List Int), Un (Qn n) M N2 → LTv n N2 L2 → (∀ x, x ∈ L2 ↔ rwF M Dk k lo hi x ∨ ∃ d, Dk k d ∧ d < v + 1 ∧ rwB M k k 0 lo hi d x) → ∃ N' L', f_LDates_ctor_204 O f (f_LDates_ctor_59 O f K t) n 1 all lo hi (k : Int) v N2 = K n 1 all lo hi ((k : Int) + 1) N' ∧ Un (Qn n) M N' ∧ LTv n N' L' ∧ (∀ x, x ∈ L' ↔ rwF M Dk (k + 1) lo hi x) := by
      intro N2 L2 u2 v2 m2
      have low2 : ∀ a j, a < 1044 → iV N2 a j = iV M a j := fun a j ha => u2.i (by unfold Qn; omega)
      have hN2 : HS O f N2 Dk := h.un u2 (fun a h1 h2 => by unfold Qn; omega)
      have tN2 : iV N2 (29 + 6 * k) 0 = 1 := by rw [low2 _ _ (by omega)]; exact hth k (by omega)
      obtain ⟨x, e, hx⟩ := e_nextDay (O := O) (f := f) (kk := (k : Int)) (d := v + 1) hN2.1 rfl hk tN2 (hN2.there hk tN2).2.1 (by omega) (by omega)
      obtain ⟨N', L', e', z⟩ := ih t x N2 L2 u2 v2 (by
        rcases hx with ⟨q, -⟩ | ⟨-, q, -⟩
        · exact Or.inl q
        · exact Or.inr q) (by
        intro hx1
        rcases hx with ⟨q, -⟩ | ⟨q, -⟩
        · exact absurd q hx1
        · omega) (by
        intro y
        rw [m2 y]
        constructor
        · rintro (q | ⟨d, q1, q2, q3⟩)
          · exact Or.inl q
          · refine Or.inr ⟨d, q1, ?_, q3⟩
            rcases hx with ⟨q, -⟩ | ⟨q, -⟩
            · exact Or.inl q
            · exact Or.inr (by omega)
        · rintro (q | ⟨d, q1, q2, q3⟩)
          · exact Or.inl q
          · refine Or.inr ⟨d, q1, ?_, q3⟩
            rcases Int.lt_or_le d (v + 1) with z | z
            · exact z
            · exfalso
              rcases hx with ⟨-, y2⟩ | ⟨y1, -, y2⟩
              · exact y2 d z q1
              · rcases q2 with q2 | q2
                · omega
                · exact y2 d z q2 q1) (by omega)
      refine ⟨N', L', ?_, z⟩
      unfold f_LDates_ctor_204
      rw [a_Cal_is hN2.1, e, xcl_e, e']
    have same : ¬ (bg M k v ≠ -1 ∧ lo ≤ bg M k v ∧ bg M k v < hi) → ∀ x, x ∈ L ↔ rwF M Dk k lo hi x ∨ ∃ d, Dk k d ∧ d < v + 1 ∧ rwB M k k 0 lo hi d x := by
      intro hno x
      rw [hm x]
      constructor
      · rintro (q | ⟨d, q1, q2, q3⟩)
        · exact Or.inl q
        · exact Or.inr ⟨d, q1, by omega, q3⟩
      · rintro (q | ⟨d, q1, q2, q3⟩)
        · exact Or.inl q
        · refine Or.inr ⟨d, q1, Or.inr ?_, q3⟩
          by_cases z : d = v
          · exfalso
            rw [z] at q3
            exact hno ⟨q3.1, by have := q3.2.1; omega, by have := q3.2.2.1; omega⟩
          · omega
    have step : f_LDates_ctor_59 O f K (t + 1) n 1 all lo hi (k : Int) v N = if yw (bg M k v) = yw (-1) then f_LDates_ctor_204 O f (f_LDates_ctor_59 O f K t) n 1 all lo hi (k : Int) v N else if yw (bg M k v) < yw lo then f_LDates_ctor_204 O f (f_LDates_ctor_59 O f K t) n 1 all lo hi (k : Int) v N else if yw (bg M k v) < yw hi then f_LDates_ctor_118 O f (f_LDates_ctor_59 O f K t) f n 1 all lo hi (k : Int) v (bg M k v) (L.length : Int) N else f_LDates_ctor_204 O f (f_LDates_ctor_59 O f K t) n 1 all lo hi (k : Int) v N := by
      show (if yw v = yw (-1) then _ else _) = _
      rw [eq_F g (by omega) (by omega) (by omega) (by omega), le_F (by omega) (by omega) (by omega), a_Cal_is hN.1, eb, xcl_e, (hsh.sm u.1).gJ, hv.1]
    rw [step]
    by_cases c1 : bg M k v = -1
    · rw [eq_T c1]
      exact gon N L u hv (same (fun q => q.1 c1))
    rw [eq_F c1 (by omega) (by omega) (by omega) (by omega)]
    by_cases c2 : bg M k v < lo
    · rw [lt_T c2 (by omega) (by omega)]
      exact gon N L u hv (same (fun q => by omega))
    rw [lt_F (by omega) (by omega) (by omega)]
    by_cases c3 : bg M k v < hi
    · rw [lt_T c3 (by omega) (by omega)]
      obtain ⟨x, ex⟩ : ∃ x, x = rw' (bg M k v) k v := ⟨_, rfl⟩
      have hxB : rwB M k k 0 lo hi v x := ⟨c1, by omega, by omega, by rw [ex]; unfold rw'; omega⟩
      -- what is in the list
      have mem : ∀ y, y ∈ L → ∃ j : Nat, j < k + 1 ∧ ∃ d, Dk j d ∧ rwB M j j 0 lo hi d y ∧ 0 ≤ d ∧ d < 262144 ∧ (j < k ∨ d < v) := by
        intro y hy
        rcases (hm y).mp hy with ⟨j, q1, d, q2, q3⟩ | ⟨d, q1, q2, q3⟩
        · have := ((h.there (by omega) (hth j (by omega))).2.1).1 d q2
          exact ⟨j, by omega, d, q2, q3, by omega, by omega, Or.inl q1⟩
        · have := nx.1 d q1
          exact ⟨k, by omega, d, q1, q3, by omega, by omega, Or.inr (q2.resolve_left g)⟩
      have hxL : x ∉ L := by
        intro q
        obtain ⟨j, hj, d, -, q3, d0, d1, q4⟩ := mem x q
        have y1 := rwB_N (nb := j) (by omega) d0 d1 q3
        have y2 := rwB_N (nb := k) (by omega) (by omega) (by omega) hxB
        omega
      have hlen : L.length < 300 := by
        have q := count_le (O := O) (f := f) (L := ins x L) h l0 l1 (srt_ins hv.2.1 hxL) (m := k + 1) (by omega) (fun y hy => by
          rcases mem_ins.mp hy with e | e
          · rw [e]
            exact ⟨k, by omega, hth k (by omega), v, hDv, hxB⟩
          · obtain ⟨j, hj, d, q2, q3, -⟩ := mem y e
            exact ⟨j, hj, hth j hj, d, q2, q3⟩)
        rw [len_ins] at q
        have w25 : ((hi - lo) / 1440 + 13).toNat ≤ 24 := by omega
        have : (k + 1) * ((hi - lo) / 1440 + 13).toNat ≤ 12 * 24 := Nat.mul_le_mul (by omega) w25
        omega
      have rm : ∀ y, y ∈ L → -1000000 ≤ rM y ∧ rM y ≤ 1000000000 := by
        intro y hy
        obtain ⟨j, hj, d, -, q3, d0, d1, q4⟩ := mem y hy
        have y1 := rwB_N (nb := j) (by omega) d0 d1 q3
        have := q3.2.1
        have := q3.2.2.1
        omega
      obtain ⟨N', e', v', u'⟩ := lt_118 (O := O) (f := f) (K := f_LDates_ctor_59 O f K t) (all := all) (lo := lo) (hi := hi) (x := x) (b := bg M k v) (d := v) (L := L) hN.1 (hsh.sm u.1) hk tN ex (by omega) (by omega) (by omega) (by omega) hlen hv.2.1 hxL (fun y hy => by
        obtain ⟨j, hj, d, -, q3, d0, d1, q4⟩ := mem y hy
        have y1 := rwB_N (nb := j) (by omega) d0 d1 q3
        omega) (fun y hy hle => by
        obtain ⟨j, hj, d, -, q3, d0, d1, q4⟩ := mem y hy
        have y1 := rwB_N (nb := j) (by omega) d0 d1 q3
        have hy2 := q3.2.2.2
        rw [hy2, ex]
        unfold rw'
        omega) rm L.length f N (Nat.le_refl _) Un.rf hv.1 (fun i hi => hv.2.2 i hi) (fun i h1 h2 => by omega) (fun i h1 h2 => by omega) (by omega)
      rw [e']
      refine gon N' _ (u.tr u') v' (fun y => ?_)
      rw [mem_ins, hm y]
      constructor
      · rintro (q | q | ⟨d, q1, q2, q3⟩)
        · rw [q]
          exact Or.inr ⟨v, hDv, by omega, hxB⟩
        · exact Or.inl q
        · exact Or.inr ⟨d, q1, by omega, q3⟩
      · rintro (q | ⟨d, q1, q2, q3⟩)
        · exact Or.inr (Or.inl q)
        · by_cases z : d = v
          · rw [z] at q3
            refine Or.inl ?_
            rw [q3.2.2.2, hxB.2.2.2]
          · exact Or.inr (Or.inr ⟨d, q1, Or.inr (by omega), q3⟩)
    · rw [lt_F (by omega) (by omega) (by omega)]
      exact gon N L u hv (same (fun q => by omega))
theorem lt_43 {m : Nat} (h : HS O f M Dk) (hsh : LTs n M) (hm12 : m ≤ 12) (hth : ∀ j : Nat, j < m → iV M (29 + 6 * j) 0 = 1) (l0 : 10000 ≤ lo) (l1 : lo ≤ hi) (l2 : hi ≤ 10000000) (l3 : hi - lo ≤ 17200) (hcov : ∀ k, k < m → ∀ d, Dk k d → bg M k d ≠ -1 → lo ≤ bg M k d → bg M k d < hi → 1440 * d < hi + 6000) (hf : 10000 ≤ f) : ∀ (r t k : Nat) (N : xM) (L : List Int), k + r = m → Un (Qn n) M N → LTv n N L → (∀ x, x ∈ L ↔ rwF M Dk k lo hi x) → r < t → ∃ N' L', f_LDates_ctor_43 O f t n 1 (m : Int) lo hi (k : Int) N = some ((), N') ∧ Un (Qn n) M N' ∧ LTv n N' L' ∧ (∀ x, x ∈ L' ↔ rwF M Dk m lo hi x) := by
  have hn := hsh.1
  intro r
  induction r with
  | zero =>
    intro t k N L hk u hv hmm h2
    obtain ⟨t, rfl⟩ : ∃ n', t = n' + 1 := ⟨t - 1, by omega⟩
    obtain rfl : k = m := by omega
    refine ⟨N, L, ?_, u, hv, hmm⟩
    show (if yw (k : Int) ≤ yw (k : Int) then _ else _) = _
    rw [le_T (by omega) (by omega) (by omega)]
  | succ r ih =>
    intro t k N L hk u hv hmm h2
    obtain ⟨t, rfl⟩ : ∃ n', t = n' + 1 := ⟨t - 1, by omega⟩
    have low : ∀ a j, a < 1044 → iV N a j = iV M a j := fun a j ha => u.i (by unfold Qn; omega)
    have hN : HS O f N Dk := h.un u (fun a h1 h2 => by unfold Qn; omega)
    have tN : iV N (29 + 6 * k) 0 = 1 := by rw [low _ _ (by omega)]; exact hth k (by omega)
    obtain ⟨x, e, hx⟩ := e_nextDay (O := O) (f := f) (kk := (k : Int)) (d := 10) hN.1 rfl (by omega) tN (hN.there (by omega) tN).2.1 (by omega) (by omega)
    have nx := (h.there (k := k) (by omega) (hth k (by omega))).2.1
    obtain ⟨N1, L1, e1, u1, v1, m1⟩ := lt_59 (O := O) (f := f) (K := f_LDates_ctor_43 O f t) (all := (m : Int)) (k := k) (lo := lo) (hi := hi) h hsh (fun j hj => hth j (by omega)) (by omega) l0 l1 l2 l3 (hcov k (by omega)) (by omega) 7000 f x N L u hv (by
      rcases hx with ⟨q, -⟩ | ⟨-, q, -⟩
      · exact Or.inl q
      · exact Or.inr q) (by
      intro hx1
      rcases hx with ⟨q, -⟩ | ⟨q, -⟩
      · exact absurd q hx1
      · omega) (by
      intro y
      rw [hmm y]
      constructor
      · exact Or.inl
      · rintro (q | ⟨d, q1, q2, -⟩)
        · exact q
        · exfalso
          have hd := nx.1 d q1
          rcases hx with ⟨-, y2⟩ | ⟨y1, -, y2⟩
          · exact y2 d hd.1 q1
          · rcases q2 with q2 | q2
            · omega
            · exact y2 d hd.1 q2 q1) (by omega)
    obtain ⟨N', L', e', z⟩ := ih t (k + 1) N1 L1 (by omega) u1 v1 m1 (by omega)
    refine ⟨N', L', ?_, z⟩
    rw [← e', show ((k + 1 : Nat) : Int) = (k : Int) + 1 by omega, ← e1]
    show (if yw (m : Int) ≤ yw (k : Int) then _ else _) = _
    rw [le_F (by omega) (by omega) (by omega), a_Cal_is hN.1, e, xcl_e]
/-- an object with four rows -/
theorem four_rows {ci s : Nat} (hci : ∀ j : Nat, j < 4 → j < xNf ci ∧ xkR (xTy ci j) = true) (hs : s ≤ 60000000) (hM : 1044 ≤ M.1) (hb : M.1 ≤ 400000000) : ∃ N0 L4, nO M ci = some (M.1, N0) ∧ (∀ A : xM → Option (Unit × xM), (xcl (nAJ N0 0 (s : Int)) fun x1 M1 => (pR M1 M.1 ci 0 (some x1)).bind fun M2 => xcl (nAJ M2 0 (s : Int)) fun x2 M3 => (pR M3 M.1 ci 1 (some x2)).bind fun M4 => xcl (nAJ M4 0 (s : Int)) fun x3 M5 => (pR M5 M.1 ci 2 (some x3)).bind fun M6 => xcl (nAJ M6 0 (s : Int)) fun x4 M7 => (pR M7 M.1 ci 3 (some x4)).bind fun M8 => A M8) = A L4) ∧ L4.1 = M.1 + 5 ∧ L4.2.1 = M.2.1 + xNf ci + 4 * s ∧ mS L4 M.1 = .inl ci ∧ (∀ j : Nat, j < 4 → mR L4 M.1 j = some (M.1 + 1 + j) ∧ mS L4 (M.1 + 1 + j) = .inr (0, s)) ∧ (∀ j, iV L4 M.1 j = 0) ∧ Ex M L4 := by
  obtain ⟨n, en⟩ : ∃ n, n = M.1 := ⟨_, rfl⟩
  rw [← en]
  obtain ⟨N0, e0⟩ : ∃ N0, N0 = mnew M (.inl ci) (xNf ci) := ⟨_, rfl⟩
  have g0 : nO M ci = some (n, N0) := by
    unfold nO
    rw [if_pos (by omega), e0, en]
  have k0 : N0.1 = n + 1 := by rw [e0, en]; rfl
  have s0 : N0.2.1 = M.2.1 + xNf ci := by rw [e0]; rfl
  have x0 : Ex M N0 := by rw [e0]; exact Ex.new
  have sh0 : mS N0 n = .inl ci := by
    rw [e0, en]
    exact if_pos rfl
  have z0 : ∀ j, iV N0 n j = 0 := by
    intro j
    rw [e0, en]
    unfold iV
    show ((if M.1 = M.1 then fun _ => 0 else mI M M.1) j).toInt = 0
    rw [if_pos rfl]
    rfl
  have row : ∀ (j : Nat) (L : xM), j < 4 → L.1 = n + 1 + j → mS L n = .inl ci → ∃ L', (∀ A : xM → Option (Unit × xM), (xcl (nAJ L 0 (s : Int)) fun x1 M1 => (pR M1 n ci j (some x1)).bind A) = A L') ∧ L'.1 = n + 1 + (j + 1) ∧ L'.2.1 = L.2.1 + s ∧ mS L' n = .inl ci ∧ mR L' n j = some (n + 1 + j) ∧ mS L' (n + 1 + j) = .inr (0, s) ∧ (∀ a, a < L.1 → mS L' a = mS L a ∧ mI L' a = mI L a ∧ mL L' a = mL L a ∧ (a ≠ n → mR L' a = mR L a)) ∧ (∀ i, i ≠ j → mR L' n i = mR L n i) := by
    intro j L hj hL hS
    have sz : ((s : Int)).toNat = s := by omega
    obtain ⟨L1, e1⟩ : ∃ L1, L1 = mnew L (.inr (0, s)) s := ⟨_, rfl⟩
    have k1 : L1.1 = n + 1 + (j + 1) := by
      rw [e1]
      show L.1 + 1 = _
      omega
    have hs1 : mS L1 n = .inl ci := by
      rw [e1]
      exact (if_neg (by omega)).trans hS
    refine ⟨msR L1 n (mup (mR L1 n) j (some (n + 1 + j))), ?_, ?_, ?_, ?_, ?_, ?_, ?_, ?_⟩
    · intro A
      rw [x_nAJ (by omega) (by omega) (by omega), xcl_e, sz, ← e1, c_pR (by omega) (by omega) hs1 (hci j hj).1 (hci j hj).2, hL]
      rfl
    · exact k1
    · show L1.2.1 = _
      rw [e1]
      rfl
    · exact hs1
    · show (if n = n then mup (mR L1 n) j (some (n + 1 + j)) else mR L1 n) j = _
      rw [if_pos rfl]
      exact if_pos rfl
    · show mS L1 (n + 1 + j) = _
      rw [e1]
      exact if_pos hL.symm
    · intro a ha
      refine ⟨?_, ?_, ?_, fun hn => ?_⟩
      · show mS L1 a = _
        rw [e1]
        exact if_neg (by omega)
      · show mI L1 a = _
        rw [e1]
        exact if_neg (by omega)
      · show mL L1 a = _
        rw [e1]
        exact if_neg (by omega)
      · show (if a = n then mup (mR L1 n) j (some (n + 1 + j)) else mR L1 a) = _
        rw [if_neg hn, e1]
        exact if_neg (by omega)
    · intro i hi
      show (if n = n then mup (mR L1 n) j (some (n + 1 + j)) else mR L1 n) i = _
      rw [if_pos rfl]
      show (if i = j then _ else mR L1 n i) = _
      rw [if_neg hi, e1]
      show (if n = L.1 then _ else mR L n) i = _
      rw [if_neg (by omega)]
  obtain ⟨L1, a1, b1, c1, d1, r1, t1, o1, p1⟩ := row 0 N0 (by decide) k0 sh0
  obtain ⟨L2, a2, b2, c2, d2, r2, t2, o2, p2⟩ := row 1 L1 (by decide) b1 d1
  obtain ⟨L3, a3, b3, c3, d3, r3, t3, o3, p3⟩ := row 2 L2 (by decide) b2 d2
  obtain ⟨L4, a4, b4, c4, d4, r4, t4, o4, p4⟩ := row 3 L3 (by decide) b3 d3
  refine ⟨N0, L4, g0, fun A => ?_, by omega, by omega, d4, fun j hj => ?_, fun j => ?_, by omega, fun a ha => ?_⟩
  · rw [a1, a2, a3, a4]
  · have hj4 : j = 0 ∨ j = 1 ∨ j = 2 ∨ j = 3 := by omega
    rcases hj4 with rfl | rfl | rfl | rfl
    · refine ⟨by rw [p4 0 (by omega), p3 0 (by omega), p2 0 (by omega)]; exact r1, ?_⟩
      rw [(o4 (n + 1 + 0) (by omega)).1, (o3 (n + 1 + 0) (by omega)).1, (o2 (n + 1 + 0) (by omega)).1]
      exact t1
    · refine ⟨by rw [p4 1 (by omega), p3 1 (by omega)]; exact r2, ?_⟩
      rw [(o4 (n + 1 + 1) (by omega)).1, (o3 (n + 1 + 1) (by omega)).1]
      exact t2
    · refine ⟨by rw [p4 2 (by omega)]; exact r3, ?_⟩
      rw [(o4 (n + 1 + 2) (by omega)).1]
      exact t3
    · exact ⟨r4, t4⟩
  · have q : mI L4 n = mI N0 n := by rw [(o4 n (by omega)).2.1, (o3 n (by omega)).2.1, (o2 n (by omega)).2.1, (o1 n (by omega)).2.1]
    have := z0 j
    unfold iV at this ⊢
    rw [q]
    exact this
  · have q1 := o1 a (by omega)
    have q2 := o2 a (by omega)
    have q3 := o3 a (by omega)
    have q4 := o4 a (by omega)
    have q0 := x0.2 a ha
    refine ⟨?_, ?_, ?_, ?_⟩
    · rw [q4.1, q3.1, q2.1, q1.1, q0.1]
    · rw [q4.2.1, q3.2.1, q2.2.1, q1.2.1, q0.2.1]
    · rw [q4.2.2.1, q3.2.2.1, q2.2.2.1, q1.2.2.1, q0.2.2.1]
    · rw [q4.2.2.2 (by omega), q3.2.2.2 (by omega), q2.2.2.2 (by omega), q1.2.2.2 (by omega), q0.2.2.2]
/-- the law's dates are made -/
theorem ldates_ok {m : Nat} (h : HS O f M Dk) (hM : M.1 ≤ 1000000) (hm12 : m ≤ 12) (hth : ∀ j : Nat, j < m → iV M (29 + 6 * j) 0 = 1) (l0 : 10000 ≤ lo) (l1 : lo ≤ hi) (l2 : hi ≤ 10000000) (l3 : hi - lo ≤ 17200) (hcov : ∀ k, k < m → ∀ d, Dk k d → bg M k d ≠ -1 → lo ≤ bg M k d → bg M k d < hi → 1440 * d < hi + 6000) (hf : 10000 ≤ f) : ∃ N M' L, nO M 13 = some (M.1, N) ∧ f_LDates_ctor O f M.1 1 (m : Int) lo hi N = some ((), M') ∧ Ex M M' ∧ M'.1 = M.1 + 5 ∧ M'.2.1 = M.2.1 + 1205 ∧ LTs M.1 M' ∧ LTv M.1 M' L ∧ (∀ x, x ∈ L ↔ rwF M Dk m lo hi x) := by
  have hM0 := h.1.1
  obtain ⟨N, L4, e0, e1, c4, s4, k4, r4, z4, x4⟩ := four_rows (M := M) (ci := 13) (s := 300) (by decide) (by omega) hM0 (by omega)
  obtain ⟨n, en⟩ : ∃ n, n = M.1 := ⟨_, rfl⟩
  rw [← en] at e0 e1 c4 k4 r4 z4 ⊢
  have hs : LTs n L4 := ⟨by omega, by omega, by omega, k4, r4⟩
  have h4 : HS O f L4 Dk := h.of (x4.wd h.1 (by omega)) (fun a j h1 h2 => x4.i (by omega))
  have low : ∀ a j, a < 1044 → iV L4 a j = iV M a j := fun a j ha => x4.i (by omega)
  have bg4 : ∀ k, k < m → ∀ d, bg L4 k d = bg M k d := fun k hk d => bg_of (by omega) (h.there (by omega) (hth k hk)).1.2.1.2 (fun b j h1 h2 => low b j (by omega))
  have rw4 : ∀ x, rwF L4 Dk m lo hi x ↔ rwF M Dk m lo hi x := by
    intro x
    constructor
    · rintro ⟨k, q1, d, q2, q3⟩
      exact ⟨k, q1, d, q2, (rwB_of (by omega) (h.there (by omega) (hth k q1)).1.2.1.2 (fun b j h1 h2 => low b j (by omega))).mp q3⟩
    · rintro ⟨k, q1, d, q2, q3⟩
      exact ⟨k, q1, d, q2, (rwB_of (by omega) (h.there (by omega) (hth k q1)).1.2.1.2 (fun b j h1 h2 => low b j (by omega))).mpr q3⟩
  obtain ⟨M', L, e', u', v', m'⟩ := lt_43 (O := O) (f := f) (n := n) (m := m) (lo := lo) (hi := hi) h4 hs hm12 (fun j hj => by rw [low _ _ (by omega)]; exact hth j hj) l0 l1 l2 l3 (fun k hk d q1 q2 q3 q4 => hcov k hk d q1 (by rw [← bg4 k hk]; exact q2) (by rw [← bg4 k hk]; exact q3) (by rw [← bg4 k hk]; exact q4)) hf m f 0 L4 [] (by omega) Un.rf ⟨z4 4, List.Pairwise.nil, fun i hi => absurd hi (Nat.not_lt_zero _)⟩ (fun x => ⟨fun q => (by cases q), (by rintro ⟨j, q, -⟩; exact absurd q (Nat.not_lt_zero _))⟩) (by omega)
  have n13 : xNf 13 = 5 := by decide
  refine ⟨N, M', L, e0, ?_, ?_, ?_, ?_, hs.sm u'.1, v', fun x => (m' x).trans (rw4 x)⟩
  · unfold f_LDates_ctor
    refine (e1 _).trans ?_
    exact e'
  · refine ⟨by rw [u'.1.1]; omega, fun a ha => ?_⟩
    have q := x4.2 a ha
    have q2 := u'.2 a (by unfold Qn; omega)
    exact ⟨by rw [u'.1.s]; exact q.1, by rw [q2.1]; exact q.2.1, by rw [q2.2]; exact q.2.2.1, by rw [u'.1.r]; exact q.2.2.2⟩
  · rw [u'.1.1]
    exact c4
  · rw [u'.1.2.1, s4, n13]
end LAL
end
/-! draft 560.rule01 -/
section
/-! ===== rules of one day, and of days ===== -/
def RV01 (r : Nat → Int) : Prop := 10 ≤ r 0 ∧ r 0 ≤ 146000 ∧ (r 1 = 0 ∨ (r 1 = 1 ∧ 1 ≤ r 2 ∧ r 2 ≤ 99)) ∧ 10 ≤ r 7 ∧ r 7 ≤ 146000
def D01 (r : Nat → Int) (d : Int) : Prop := r 0 ≤ d ∧ d ≤ r 7 ∧ (if r 1 = 0 then d = r 0 else (d - r 0) % r 2 = 0)
section RU1
variable {O : Nat → Option va_E} {f k : Nat} {M N : xM} {d x : Int}
theorem e_next104 (h : Wd M) (hk : k < 12) (x0 : -1 ≤ x) (x1 : x ≤ 1000000) : f_Rule_next_104 O f (30 + 6 * k) x M = some ((if x ≤ iV M (30 + 6 * k) 7 then x else -1), M) := by
  have hr := iV_r M (30 + 6 * k) 7
  unfold f_Rule_next_104
  rw [a_Rule_last h hk]
  by_cases g : x ≤ iV M (30 + 6 * k) 7
  · rw [le_T g (by omega) (by omega), if_pos g]
  · rw [le_F (by omega) (by omega) (by omega), if_neg g]
theorem c_next104 (h : Wd M) (hk : k < 12) (x0 : -1 ≤ x) (x1 : x ≤ 1000000) {δ : Type} {A : _ → xM → Option δ} : xcl (f_Rule_next_104 O f (30 + 6 * k) x M) A = A ((if x ≤ iV M (30 + 6 * k) 7 then x else -1)) (M) := xc_of (e_next104 h hk x0 x1) A
theorem next01 (h : Wd M) (hk : k < 12) (hr : RV01 (iV M (30 + 6 * k))) (d0 : -100000 ≤ d) (d1 : d ≤ 200000) : ∃ x, f_Rule_next O f (30 + 6 * k) d M = some (x, M) ∧ ((x = -1 ∧ ∀ e, d ≤ e → ¬ D01 (iV M (30 + 6 * k)) e) ∨ (d ≤ x ∧ D01 (iV M (30 + 6 * k)) x ∧ ∀ e, d ≤ e → e < x → ¬ D01 (iV M (30 + 6 * k)) e)) := by
  obtain ⟨f0, f1, hkind, t0, t1⟩ := hr
  unfold f_Rule_next D01
  rw [a_Rule_first h hk, c_max (by omega) (by omega) (by omega) (by omega), a_Rule_last h hk]
  by_cases g1 : max d (iV M (30 + 6 * k) 0) ≤ iV M (30 + 6 * k) 7
  · rw [le_T g1 (by omega) (by omega), a_Rule_kind h hk]
    rcases hkind with hk0 | ⟨hk1, s0, s1⟩
    · rw [eq_T hk0]
      unfold f_Rule_next_34 f_Rule_next_50
      rw [a_Rule_first h hk]
      by_cases g2 : max d (iV M (30 + 6 * k) 0) = iV M (30 + 6 * k) 0
      · rw [eq_T g2, a_Rule_first h hk, e_next104 h hk (by omega) (by omega), if_pos (by omega)]
        refine ⟨_, rfl, Or.inr ⟨by omega, ⟨by omega, by omega, ?_⟩, fun e h1 h2 q => by omega⟩⟩
        rw [if_pos hk0]
      · rw [eq_F g2 (by omega) (by omega) (by omega) (by omega), e_next104 h hk (by omega) (by omega), if_pos (by omega)]
        refine ⟨_, rfl, Or.inl ⟨rfl, fun e h1 q => ?_⟩⟩
        rw [if_pos hk0] at q
        omega
    · rw [eq_F (a := iV M (30 + 6 * k) 1) (by omega) (by omega) (by omega) (by omega) (by omega), a_Rule_step h hk, le_T s0 (by omega) (by omega), a_Rule_kind h hk, eq_T hk1, a_Rule_first h hk, a_Rule_step h hk, c_floorMod (by omega) (by omega) (by omega) (by omega)]
      obtain ⟨fr, efr⟩ : ∃ fr, fr = max d (iV M (30 + 6 * k) 0) := ⟨_, rfl⟩
      rw [← efr] at g1 ⊢
      have q0 := Int.emod_nonneg (iV M (30 + 6 * k) 0 - fr) (show iV M (30 + 6 * k) 2 ≠ 0 by omega)
      have q1 := Int.emod_lt_of_pos (iV M (30 + 6 * k) 0 - fr) (show 0 < iV M (30 + 6 * k) 2 by omega)
      have dm := Int.emod_add_mul_ediv (iV M (30 + 6 * k) 0 - fr) (iV M (30 + 6 * k) 2)
      rw [e_next104 h hk (by omega) (by omega)]
      generalize hqq : (iV M (30 + 6 * k) 0 - fr) % iV M (30 + 6 * k) 2 = m at *
      have isd : (fr + m - iV M (30 + 6 * k) 0) % iV M (30 + 6 * k) 2 = 0 := by
        have e : fr + m - iV M (30 + 6 * k) 0 = iV M (30 + 6 * k) 2 * (-((iV M (30 + 6 * k) 0 - fr) / iV M (30 + 6 * k) 2)) := by
          rw [Int.mul_neg]
          omega
        rw [e]
        exact Int.mul_emod_right _ _
      have none : ∀ e, fr ≤ e → e < fr + m → (e - iV M (30 + 6 * k) 0) % iV M (30 + 6 * k) 2 ≠ 0 := by
        intro e h1 h2 q
        have e2 : fr + m - e = (fr + m - iV M (30 + 6 * k) 0) - (e - iV M (30 + 6 * k) 0) := by omega
        have e3 : (fr + m - e) % iV M (30 + 6 * k) 2 = 0 := by
          rw [e2]
          exact Int.emod_eq_zero_of_dvd (Int.dvd_sub (Int.dvd_of_emod_eq_zero isd) (Int.dvd_of_emod_eq_zero q))
        rw [Int.emod_eq_of_lt (by omega) (by omega)] at e3
        omega
      by_cases g3 : fr + m ≤ iV M (30 + 6 * k) 7
      · rw [if_pos g3]
        refine ⟨_, rfl, Or.inr ⟨by omega, ⟨by omega, g3, ?_⟩, fun e h1 h2 q => ?_⟩⟩
        · rw [if_neg (by omega)]
          exact isd
        · rw [if_neg (by omega)] at q
          exact none e (by omega) h2 q.2.2
      · rw [if_neg g3]
        refine ⟨_, rfl, Or.inl ⟨rfl, fun e h1 q => ?_⟩⟩
        rw [if_neg (by omega)] at q
        exact none e (by omega) (by omega) q.2.2
  · rw [le_F (by omega) (by omega) (by omega)]
    exact ⟨_, rfl, Or.inl ⟨rfl, fun e h1 q => by omega⟩⟩
theorem isDay01 (h : Wd M) (hk : k < 12) (hr : RV01 (iV M (30 + 6 * k))) (d0 : -1000000 ≤ d) (d1 : d ≤ 1000000) : ∃ b, f_Rule_isDay O f (30 + 6 * k) d M = some (b, M) ∧ ((b = 0 ∧ ¬ D01 (iV M (30 + 6 * k)) d) ∨ (b = 1 ∧ D01 (iV M (30 + 6 * k)) d)) := by
  obtain ⟨f0, f1, hkind, t0, t1⟩ := hr
  unfold f_Rule_isDay D01
  rw [a_Rule_first h hk]
  by_cases g1 : d < iV M (30 + 6 * k) 0
  · rw [lt_T g1 (by omega) (by omega)]
    exact ⟨_, rfl, Or.inl ⟨rfl, fun q => by omega⟩⟩
  rw [lt_F (by omega) (by omega) (by omega), a_Rule_last h hk]
  by_cases g2 : iV M (30 + 6 * k) 7 < d
  · rw [lt_T g2 (by omega) (by omega)]
    exact ⟨_, rfl, Or.inl ⟨rfl, fun q => by omega⟩⟩
  rw [lt_F (by omega) (by omega) (by omega), a_Rule_is h hk]
  have hh : f_Rule_holds O f (30 + 6 * k) d M = some ((if (if iV M (30 + 6 * k) 1 = 0 then d = iV M (30 + 6 * k) 0 else (d - iV M (30 + 6 * k) 0) % iV M (30 + 6 * k) 2 = 0) then 1 else 0), M) := by
    unfold f_Rule_holds f_Rule_holds_23
    rw [a_Rule_first h hk, lt_F (by omega) (by omega) (by omega), a_Rule_kind h hk]
    rcases hkind with hk0 | ⟨hk1, s0, s1⟩
    · rw [eq_T hk0, a_Rule_first h hk]
      simp only [if_pos hk0]
      by_cases g3 : d = iV M (30 + 6 * k) 0
      · rw [eq_T g3, if_pos g3]
      · rw [eq_F g3 (by omega) (by omega) (by omega) (by omega), if_neg g3]
    · rw [eq_F (a := iV M (30 + 6 * k) 1) (by omega) (by omega) (by omega) (by omega) (by omega), a_Rule_step h hk, le_T s0 (by omega) (by omega), a_Rule_kind h hk, eq_T hk1, a_Rule_first h hk, a_Rule_step h hk, eq_F (a := iV M (30 + 6 * k) 2) (by omega) (by omega) (by omega) (by omega) (by omega), xlet_e, jrem_e (by omega) (by omega) (by omega) (by omega)]
      simp only [if_neg (show ¬ iV M (30 + 6 * k) 1 = 0 by omega)]
      have q0 := Int.emod_nonneg (d - iV M (30 + 6 * k) 0) (show iV M (30 + 6 * k) 2 ≠ 0 by omega)
      have q1 := Int.emod_lt_of_pos (d - iV M (30 + 6 * k) 0) (show 0 < iV M (30 + 6 * k) 2 by omega)
      by_cases g3 : (d - iV M (30 + 6 * k) 0) % iV M (30 + 6 * k) 2 = 0
      · rw [eq_T g3, if_pos g3]
      · rw [eq_F g3 (by omega) (by omega) (by omega) (by omega), if_neg g3]
  rw [hh, xcl_e]
  by_cases g3 : (if iV M (30 + 6 * k) 1 = 0 then d = iV M (30 + 6 * k) 0 else (d - iV M (30 + 6 * k) 0) % iV M (30 + 6 * k) 2 = 0)
  · rw [if_pos g3, eq_F (by omega) (by omega) (by omega) (by omega) (by omega)]
    exact ⟨_, rfl, Or.inr ⟨rfl, by omega, by omega, g3⟩⟩
  · rw [if_neg g3, eq_T rfl]
    exact ⟨_, rfl, Or.inl ⟨rfl, fun q => g3 q.2.2⟩⟩
theorem nx01 {r : Nat → Int} (hk : k < 12) (hr : RV01 r) : NXr O f r k (D01 r) := by
  refine ⟨fun d hd => ?_, fun N hw e => ?_⟩
  · obtain ⟨a, b, c⟩ := hd
    have := hr.1
    have := hr.2.2.2.2
    omega
  · have er : iV N (30 + 6 * k) = r := funext e
    subst er
    exact ⟨fun d d0 d1 => next01 hw hk hr d0 d1, fun d d0 d1 => isDay01 hw hk hr d0 d1⟩
/-- the day by its place: some day, or none -/
theorem dbp_loop (h : Wd M) (hk : k < 12) (hr : RV01 (iV M (30 + 6 * k))) {w : Int} (w0 : -10 ≤ w) (w1 : w ≤ 1000) : ∀ (r n : Nat) (x v : Int), 0 ≤ v → v + r = max v w → (x = -1 ∨ D01 (iV M (30 + 6 * k)) x) → v ≤ 1000 → r < n → ∃ y, f_Rule_dayByPlace_11 O f n (30 + 6 * k) w x v M = some (y, M) ∧ (y = -1 ∨ D01 (iV M (30 + 6 * k)) y) := by
  have hr' := hr
  obtain ⟨f0, f1, hkind, t0, t1⟩ := hr'
  intro r
  induction r with
  | zero =>
    intro n x v h0 h1 hx h3 h2
    obtain ⟨n, rfl⟩ : ∃ n', n = n' + 1 := ⟨n - 1, by omega⟩
    refine ⟨x, ?_, hx⟩
    show (if yw w ≤ yw v then _ else _) = _
    rw [le_T (by omega) (by omega) (by omega)]
  | succ r ih =>
    intro n x v h0 h1 hx h3 h2
    obtain ⟨n, rfl⟩ : ∃ n', n = n' + 1 := ⟨n - 1, by omega⟩
    show ∃ y, (if yw w ≤ yw v then _ else _) = some (y, M) ∧ _
    rw [le_F (by omega) (by omega) (by omega)]
    by_cases g : x = -1
    · rw [eq_T g]
      exact ⟨x, rfl, hx⟩
    · have hd := hx.resolve_left g
      have hdd := hd
      obtain ⟨q1, q2, -⟩ := hdd
      rw [eq_F g (by omega) (by omega) (by omega) (by omega), a_Rule_is h hk]
      obtain ⟨y, ey, hy⟩ := next01 (O := O) (f := f) (d := x + 1) h hk hr (by omega) (by omega)
      rw [ey, xcl_e]
      refine ih n y (v + 1) (by omega) (by omega) ?_ (by omega) (by omega)
      rcases hy with ⟨q, -⟩ | ⟨-, q, -⟩
      · exact Or.inl q
      · exact Or.inr q
end RU1
end
/-! draft 561.mutate -/
section
/-! ===== series are made, and changed ===== -/
/-- all but a series, the calendar's own places and the saved halls -/
def Us (k a : Nat) : Prop := a = 0 ∨ 1044 ≤ a ∨ (1 < a ∧ a < 140 ∧ (a < 29 + 6 * k ∨ 35 + 6 * k ≤ a))
section MUT
variable {O : Nat → Option va_E} {f k : Nat} {M N : xM} {d x w : Int}
theorem e_dbp (h : Wd M) (hk : k < 12) (hr : RV01 (iV M (30 + 6 * k))) (w0 : 0 ≤ w) (w1 : w ≤ 1000) (hf : 2000 ≤ f) : ∃ y, f_Rule_dayByPlace O f (30 + 6 * k) w M = some (y, M) ∧ (y = -1 ∨ D01 (iV M (30 + 6 * k)) y) := by
  have hr' := hr
  obtain ⟨f0, f1, hkind, t0, t1⟩ := hr'
  obtain ⟨y, ey, hy⟩ := next01 (O := O) (f := f) (d := iV M (30 + 6 * k) 0) h hk hr (by omega) (by omega)
  unfold f_Rule_dayByPlace
  rw [a_Rule_first h hk, a_Rule_is h hk, ey, xcl_e]
  refine dbp_loop h hk hr (by omega) w1 w.toNat f y 0 (by omega) (by omega) ?_ (by omega) (by omega)
  rcases hy with ⟨q, -⟩ | ⟨-, q, -⟩
  · exact Or.inl q
  · exact Or.inr q
/-- the last day is found anew -/
theorem settle01 (h : Wd M) (hk : k < 12) (f0 : 10 ≤ iV M (30 + 6 * k) 0) (f1 : iV M (30 + 6 * k) 0 ≤ 146000) (hkind : iV M (30 + 6 * k) 1 = 0 ∨ (iV M (30 + 6 * k) 1 = 1 ∧ 1 ≤ iV M (30 + 6 * k) 2 ∧ iV M (30 + 6 * k) 2 ≤ 99)) (hhow : iV M (30 + 6 * k) 5 = 0 ∨ (iV M (30 + 6 * k) 5 = 1 ∧ 1 ≤ iV M (30 + 6 * k) 6 ∧ iV M (30 + 6 * k) 6 ≤ 500)) (hf : 2000 ≤ f) : ∃ M', f_Rule_settle O f (30 + 6 * k) M = some ((), M') ∧ Un (fun a => a ≠ 30 + 6 * k) M M' ∧ (∀ j, j ≠ 7 → iV M' (30 + 6 * k) j = iV M (30 + 6 * k) j) ∧ iV M (30 + 6 * k) 0 ≤ iV M' (30 + 6 * k) 7 ∧ iV M' (30 + 6 * k) 7 ≤ 146000 := by
  obtain ⟨M1, e1⟩ : ∃ M1, M1 = iS M (30 + 6 * k) 7 146000 := ⟨_, rfl⟩
  have w1 : Wd M1 := by rw [e1]; exact h
  have u1 : Un (fun a => a ≠ 30 + 6 * k) M M1 := by rw [e1]; exact Un.rf.iS (by (try dsimp only); omega)
  have v1 : ∀ j, j ≠ 7 → iV M1 (30 + 6 * k) j = iV M (30 + 6 * k) j := fun j hj => by rw [e1, iV_o (by omega)]
  have v7 : iV M1 (30 + 6 * k) 7 = 146000 := by rw [e1, iV_s (by omega) (by omega)]
  have start : f_Rule_settle O f (30 + 6 * k) M = if yw (iV M (30 + 6 * k) 5) = yw 1 then (xcl (f_Rule_dayByPlace O f (30 + 6 * k) (iV M (30 + 6 * k) 6 - 1) M1) fun x3 M2 => if yw x3 = yw (-1) then some ((), M2) else (pJ M2 (30 + 6 * k) 9 7 x3).bind fun M3 => some ((), M3)) else some ((), M1) := by
    unfold f_Rule_settle f_Rule_settle_18
    rw [a_Rule_how h hk, eq_F (by omega) (by omega) (by omega) (by omega) (by omega), p_Rule_last h hk, ← e1, a_Rule_how w1 hk, a_Rule_number w1 hk, a_Rule_is w1 hk, v1 5 (by omega), v1 6 (by omega)]
  rw [start]
  rcases hhow with q | ⟨q, n0, n1⟩
  · rw [eq_F (by omega) (by omega) (by omega) (by omega) (by omega)]
    exact ⟨M1, rfl, u1, v1, by omega, by omega⟩
  · have r1 : RV01 (iV M1 (30 + 6 * k)) := by
      unfold RV01
      rw [v1 0 (by omega), v1 1 (by omega), v1 2 (by omega), v7]
      omega
    obtain ⟨y, ey, hy⟩ := e_dbp (O := O) (f := f) (w := iV M (30 + 6 * k) 6 - 1) w1 hk r1 (by omega) (by omega) hf
    rw [eq_T q, ey, xcl_e]
    rcases hy with hy | hy
    · rw [eq_T hy]
      exact ⟨M1, rfl, u1, v1, by omega, by omega⟩
    · obtain ⟨y0, y1, -⟩ := hy
      rw [v1 0 (by omega)] at y0
      rw [v7] at y1
      rw [eq_F (by omega) (by omega) (by omega) (by omega) (by omega), p_Rule_last w1 hk]
      refine ⟨_, rfl, u1.iS (by (try dsimp only); omega), fun j hj => by rw [iV_o (by omega)]; exact v1 j hj, ?_, ?_⟩
      · rw [iV_s (by omega) (by omega)]
        exact y0
      · rw [iV_s (by omega) (by omega)]
        exact y1
theorem e_putAnswer (h : Wd M) (hk : k < 12) (x0 : 0 ≤ x) (x1 : x < 8) : f_Series_putAnswer O f (29 + 6 * k) x w M = some ((), iS M (33 + 6 * k) x.toNat w) := by
  unfold f_Series_putAnswer
  rw [lt_F x0 (by omega) (by omega), a_Series_answers h hk, n_Series_answers h hk, le_F x1 (by omega) (by omega), a_Series_answers h hk, w_Series_answers h hk x0 x1]
theorem e_putCounter (h : Wd M) (hk : k < 12) (x0 : 0 ≤ x) (x1 : x < 8) : f_Series_putCounter O f (29 + 6 * k) x w M = some ((), iS M (34 + 6 * k) x.toNat w) := by
  unfold f_Series_putCounter
  rw [lt_F x0 (by omega) (by omega), a_Series_counters h hk, n_Series_counters h hk, le_F x1 (by omega) (by omega), a_Series_counters h hk, w_Series_counters h hk x0 x1]
theorem fa_loop (hk : k < 12) : ∀ (r n : Nat) (v : Int) (M : xM), Wd M → 0 ≤ v → v + r = 8 → r < n → ∃ M', f_Series_forgetAnswers_2 O f n (29 + 6 * k) v M = some ((), M') ∧ Un (fun a => a ≠ 33 + 6 * k ∧ a ≠ 34 + 6 * k) M M' ∧ ∀ p : Nat, (v.toNat ≤ p → p < 8 → iV M' (33 + 6 * k) p = 0 ∧ iV M' (34 + 6 * k) p = -1) ∧ (p < v.toNat → iV M' (33 + 6 * k) p = iV M (33 + 6 * k) p ∧ iV M' (34 + 6 * k) p = iV M (34 + 6 * k) p) := by
  intro r
  induction r with
  | zero =>
    intro n v M h h0 h1 h2
    obtain ⟨n, rfl⟩ : ∃ n', n = n' + 1 := ⟨n - 1, by omega⟩
    refine ⟨M, ?_, Un.rf, fun p => ⟨fun h1 h2 => by omega, fun _ => ⟨rfl, rfl⟩⟩⟩
    show (if yw 8 ≤ yw v then _ else _) = _
    rw [le_T (by omega) (by omega) (by omega)]
  | succ r ih =>
    intro n v M h h0 h1 h2
    obtain ⟨n, rfl⟩ : ∃ n', n = n' + 1 := ⟨n - 1, by omega⟩
    obtain ⟨M1, e1⟩ : ∃ M1, M1 = iS M (33 + 6 * k) v.toNat 0 := ⟨_, rfl⟩
    have w1 : Wd M1 := by rw [e1]; exact h
    obtain ⟨M2, e2⟩ : ∃ M2, M2 = iS M1 (34 + 6 * k) v.toNat (-1) := ⟨_, rfl⟩
    have w2 : Wd M2 := by rw [e2]; exact w1
    have u2 : Un (fun a => a ≠ 33 + 6 * k ∧ a ≠ 34 + 6 * k) M M2 := by
      rw [e2, e1]
      exact (Un.rf.iS (by (try dsimp only); omega)).iS (by (try dsimp only); omega)
    obtain ⟨M', e', u', p'⟩ := ih n (v + 1) M2 w2 (by omega) (by omega) (by omega)
    refine ⟨M', ?_, u2.tr u', fun p => ?_⟩
    · rw [← e']
      show (if yw 8 ≤ yw v then _ else _) = _
      rw [le_F (by omega) (by omega) (by omega), a_Series_is h hk, xc_of (e_putAnswer h hk h0 (by omega)), ← e1, a_Series_is w1 hk, xc_of (e_putCounter w1 hk h0 (by omega)), ← e2]
    · obtain ⟨g1, g2⟩ := p' p
      rw [show (v + 1).toNat = v.toNat + 1 by omega] at g1 g2
      refine ⟨fun h1 h2 => ?_, fun h1 => ?_⟩
      · by_cases z : p = v.toNat
        · obtain ⟨q1, q2⟩ := g2 (by omega)
          rw [q1, q2, z, e2, iV_o (by omega), e1, iV_s (by omega) (by omega), iV_s (by omega) (by omega)]
          exact ⟨rfl, rfl⟩
        · exact g1 (by omega) h2
      · obtain ⟨q1, q2⟩ := g2 (by omega)
        rw [q1, q2, e2, iV_o (by omega), e1, iV_o (by omega), iV_o (by omega), iV_o (by omega)]
        exact ⟨rfl, rfl⟩
theorem free_loop (h : Wd M) {m : Nat} (hm : m < 12) (h1 : ∀ j, j < m → iV M (29 + 6 * j) 0 = 1) (h0 : iV M (29 + 6 * m) 0 = 0) : ∀ (r n k : Nat), k + r = m → r < n → f_Hall_freeSeries_2 O f n 2 (k : Int) M = some ((m : Int), M) := by
  intro r
  induction r with
  | zero =>
    intro n k hk h2
    obtain ⟨n, rfl⟩ : ∃ n', n = n' + 1 := ⟨n - 1, by omega⟩
    obtain rfl : k = m := by omega
    show (gR O M 2 4 3).bind _ = _
    rw [a_Hall_series h, n_Hall_series h, le_F (by omega) (by omega) (by omega), a_Hall_series h, r_Hall_series h (by omega) (by omega), show ((k : Int)).toNat = k by omega, a_Series_isThere h (by omega), eq_T h0]
  | succ r ih =>
    intro n k hk h2
    obtain ⟨n, rfl⟩ : ∃ n', n = n' + 1 := ⟨n - 1, by omega⟩
    show (gR O M 2 4 3).bind _ = _
    rw [a_Hall_series h, n_Hall_series h, le_F (by omega) (by omega) (by omega), a_Hall_series h, r_Hall_series h (by omega) (by omega), show ((k : Int)).toNat = k by omega, a_Series_isThere h (by omega), eq_F (a := iV M (29 + 6 * k) 0) (by have := h1 k (by omega); omega) (by have := h1 k (by omega); omega) (by have := h1 k (by omega); omega) (by omega) (by omega)]
    have q := ih n (k + 1) (by omega) (by omega)
    rw [show ((k + 1 : Nat) : Int) = (k : Int) + 1 by omega] at q
    exact q
/-- a new series -/
theorem add_series {z d mi le pe ne : Int} (h : Bs M) (hk : k < 12) (h1 : ∀ j, j < k → iV M (29 + 6 * j) 0 = 1) (h0 : iV M (29 + 6 * k) 0 = 0) (z0 : 0 ≤ z) (z1 : z < 3) (d0 : 10 ≤ d) (d1 : d ≤ 146000) (m0 : 0 ≤ mi) (m1 : mi ≤ 1439) (l0 : 1 ≤ le) (l1 : le ≤ 600) (p0 : 0 ≤ pe) (p1 : pe ≤ 255) (hn : ne = 0 ∨ ne = 1) (hf : 2000 ≤ f) : ∃ M', f_Calendarhall_addSeries O f 1 z d mi le pe ne M = some ((k : Int), M') ∧ Bs M' ∧ Un (Us k) M M' ∧ (iV M' (29 + 6 * k) 0 = 1 ∧ iV M' (29 + 6 * k) 1 = z ∧ iV M' (29 + 6 * k) 2 = mi ∧ iV M' (29 + 6 * k) 3 = le ∧ iV M' (29 + 6 * k) 4 = pe ∧ iV M' (29 + 6 * k) 5 = ne ∧ iV M' (29 + 6 * k) 7 = 0) ∧ (iV M' (30 + 6 * k) 0 = d ∧ iV M' (30 + 6 * k) 1 = 0 ∧ iV M' (30 + 6 * k) 2 = 0 ∧ iV M' (30 + 6 * k) 3 = 0 ∧ iV M' (30 + 6 * k) 4 = 0 ∧ iV M' (30 + 6 * k) 5 = 0 ∧ iV M' (30 + 6 * k) 6 = 0 ∧ iV M' (30 + 6 * k) 7 = 146000) ∧ (∀ p : Nat, p < 8 → iV M' (33 + 6 * k) p = 0) := by
  have hw := h.1
  obtain ⟨N, eN, uN, bN⟩ := bs_save (O := O) (f := f) h (by omega)
  have wN := bN.1
  have kz : ((k : Int)).toNat = k := by omega
  -- start
  obtain ⟨S2, e2⟩ : ∃ S2, S2 = iS (iS N (29 + 6 * k) 0 1) (29 + 6 * k) 1 z := ⟨_, rfl⟩
  have w2 : Wd S2 := by rw [e2]; exact wN
  obtain ⟨S5, e5⟩ : ∃ S5, S5 = iS (iS (iS (iS (iS (iS (iS S2 (30 + 6 * k) 1 0) (30 + 6 * k) 2 0) (30 + 6 * k) 3 0) (30 + 6 * k) 4 0) (30 + 6 * k) 5 0) (30 + 6 * k) 6 0) (30 + 6 * k) 0 d := ⟨_, rfl⟩
  have w5 : Wd S5 := by rw [e5]; exact w2
  obtain ⟨S6, e6⟩ : ∃ S6, S6 = iS S5 (29 + 6 * k) 7 0 := ⟨_, rfl⟩
  have w6 : Wd S6 := by rw [e6]; exact w5
  obtain ⟨S7, e7, u7, p7⟩ := fa_loop (O := O) (f := f) hk 8 f 0 S6 w6 (by omega) (by omega) (by omega)
  have w7 := u7.wd w6
  have st : f_Series_start O f (29 + 6 * k) z d N = some ((), S7) := by
    have x1 : Wd (iS N (29 + 6 * k) 0 1) := wN
    have put : f_Rule_put O f (30 + 6 * k) 0 0 0 0 S2 = some ((), iS (iS (iS (iS S2 (30 + 6 * k) 1 0) (30 + 6 * k) 2 0) (30 + 6 * k) 3 0) (30 + 6 * k) 4 0) := by
      unfold f_Rule_put
      rw [p_Rule_kind w2 hk, p_Rule_step (M := iS S2 (30 + 6 * k) 1 0) w2 hk, p_Rule_days (M := iS (iS S2 (30 + 6 * k) 1 0) (30 + 6 * k) 2 0) w2 hk, p_Rule_place (M := iS (iS (iS S2 (30 + 6 * k) 1 0) (30 + 6 * k) 2 0) (30 + 6 * k) 3 0) w2 hk]
    obtain ⟨S3, e3⟩ : ∃ S3, S3 = iS (iS (iS (iS S2 (30 + 6 * k) 1 0) (30 + 6 * k) 2 0) (30 + 6 * k) 3 0) (30 + 6 * k) 4 0 := ⟨_, rfl⟩
    rw [← e3] at put e5
    have w3 : Wd S3 := by rw [e3]; exact w2
    have pe : f_Rule_putEnd O f (30 + 6 * k) 0 0 S3 = some ((), iS (iS S3 (30 + 6 * k) 5 0) (30 + 6 * k) 6 0) := by
      unfold f_Rule_putEnd
      rw [p_Rule_how w3 hk, p_Rule_number (M := iS S3 (30 + 6 * k) 5 0) w3 hk]
    obtain ⟨S4, e4⟩ : ∃ S4, S4 = iS (iS S3 (30 + 6 * k) 5 0) (30 + 6 * k) 6 0 := ⟨_, rfl⟩
    rw [← e4] at pe e5
    have w4 : Wd S4 := by rw [e4]; exact w3
    unfold f_Series_start f_Series_forgetAnswers
    rw [p_Series_isThere wN hk (Or.inr rfl), p_Series_zone x1 hk, ← e2, a_Series_rule w2 hk, a_Rule_is w2 hk, put, xcl_e, a_Series_rule w3 hk, a_Rule_is w3 hk, pe, xcl_e, a_Series_rule w4 hk, p_Rule_first w4 hk, ← e5, p_Series_exceptions w5 hk, ← e6, a_Series_is w6 hk, e7, xcl_e]
  -- the rule's cells
  have r6 : ∀ j, iV S7 (30 + 6 * k) j = iV S5 (30 + 6 * k) j := fun j => by rw [u7.i (by (try dsimp only); omega), e6, iV_o (by omega)]
  have r0 : iV S5 (30 + 6 * k) 0 = d := by rw [e5, iV_s (by omega) (by omega)]
  have r16 : ∀ j, 1 ≤ j → j ≤ 6 → iV S5 (30 + 6 * k) j = 0 := by
    intro j j0 j1
    rw [e5, iV_o (by omega)]
    have hj : j = 1 ∨ j = 2 ∨ j = 3 ∨ j = 4 ∨ j = 5 ∨ j = 6 := by omega
    rcases hj with rfl | rfl | rfl | rfl | rfl | rfl
    · rw [iV_o (by omega), iV_o (by omega), iV_o (by omega), iV_o (by omega), iV_o (by omega), iV_s (by omega) (by omega)]
    · rw [iV_o (by omega), iV_o (by omega), iV_o (by omega), iV_o (by omega), iV_s (by omega) (by omega)]
    · rw [iV_o (by omega), iV_o (by omega), iV_o (by omega), iV_s (by omega) (by omega)]
    · rw [iV_o (by omega), iV_o (by omega), iV_s (by omega) (by omega)]
    · rw [iV_o (by omega), iV_s (by omega) (by omega)]
    · rw [iV_s (by omega) (by omega)]
  have h5 : iV S7 (30 + 6 * k) 5 = 0 := by rw [r6, r16 5 (by omega) (by omega)]
  obtain ⟨S8, e8⟩ : ∃ S8, S8 = iS S7 (30 + 6 * k) 7 146000 := ⟨_, rfl⟩
  have w8 : Wd S8 := by rw [e8]; exact w7
  have se : f_Rule_settle O f (30 + 6 * k) S7 = some ((), S8) := by
    have x5 : iV S8 (30 + 6 * k) 5 = 0 := by rw [e8, iV_o (by omega)]; exact h5
    unfold f_Rule_settle f_Rule_settle_18
    rw [a_Rule_how w7 hk, h5, eq_F (by omega) (by omega) (by omega) (by omega) (by omega), p_Rule_last w7 hk, ← e8, a_Rule_how w8 hk, x5, eq_F (by omega) (by omega) (by omega) (by omega) (by omega)]
  obtain ⟨S9, e9⟩ : ∃ S9, S9 = iS (iS (iS (iS S8 (29 + 6 * k) 2 mi) (29 + 6 * k) 3 le) (29 + 6 * k) 4 pe) (29 + 6 * k) 5 ne := ⟨_, rfl⟩
  have u89 : Un (fun a => a < 29 + 6 * k ∨ 35 + 6 * k ≤ a) N S9 := by
    have a6 : Un (fun a => a < 29 + 6 * k ∨ 35 + 6 * k ≤ a) N S6 := by
      rw [e6, e5, e2]
      exact (((((((((Un.rf.iS (by (try dsimp only); omega)).iS (by (try dsimp only); omega)).iS (by (try dsimp only); omega)).iS (by (try dsimp only); omega)).iS (by (try dsimp only); omega)).iS (by (try dsimp only); omega)).iS (by (try dsimp only); omega)).iS (by (try dsimp only); omega)).iS (by (try dsimp only); omega)).iS (by (try dsimp only); omega)
    have a7 : Un (fun a => a < 29 + 6 * k ∨ 35 + 6 * k ≤ a) N S7 := a6.tr (u7.le (fun a q => by (try dsimp only at q ⊢); omega))
    rw [e9, e8]
    exact ((((a7.iS (by (try dsimp only); omega)).iS (by (try dsimp only); omega)).iS (by (try dsimp only); omega)).iS (by (try dsimp only); omega)).iS (by (try dsimp only); omega)
  have hfree := free_loop (O := O) (f := f) hw (m := k) hk h1 h0 k f 0 (by omega) (by omega)
  have e0 : f_Hall_freeSeries O f 2 M = some ((k : Int), M) := hfree
  have c29 : ∀ j, iV S8 (29 + 6 * k) j = if j = 0 then 1 else if j = 1 then z else if j = 7 then 0 else iV N (29 + 6 * k) j := by
    intro j
    rw [e8, iV_o (by omega), u7.i (by (try dsimp only); omega), e6]
    by_cases z7 : j = 7
    · rw [z7, iV_s (by omega) (by omega)]
      rfl
    · rw [iV_o (by omega), e5, iV_o (by omega), iV_o (by omega), iV_o (by omega), iV_o (by omega), iV_o (by omega), iV_o (by omega), iV_o (by omega), e2]
      by_cases z1' : j = 1
      · rw [z1', iV_s (by omega) (by omega)]
        rfl
      · rw [iV_o (by omega)]
        by_cases z0' : j = 0
        · rw [z0', iV_s (by omega) (by omega)]
          rfl
        · rw [iV_o (by omega), if_neg z0', if_neg z1', if_neg z7]
  refine ⟨S9, ?_, ?_, (uN.le (fun a q => by unfold Us at q; (try dsimp only); omega)).tr (u89.le (fun a q => by unfold Us at q; (try dsimp only); omega)), ⟨?_, ?_, ?_, ?_, ?_, ?_, ?_⟩, ⟨?_, ?_, ?_, ?_, ?_, ?_, ?_, ?_⟩, fun p hp => ?_⟩
  · have x2 : Wd (iS S8 (29 + 6 * k) 2 mi) := w8
    have x3 : Wd (iS (iS S8 (29 + 6 * k) 2 mi) (29 + 6 * k) 3 le) := w8
    have x4 : Wd (iS (iS (iS S8 (29 + 6 * k) 2 mi) (29 + 6 * k) 3 le) (29 + 6 * k) 4 pe) := w8
    have any : f_Hall_anySeries O f 2 (k : Int) N = some (29 + 6 * k, N) := by
      have q := e_anySeries (O := O) (f := f) (i := (k : Int)) wN (by omega) (by omega)
      rw [kz] at q
      exact q
    unfold f_Calendarhall_addSeries
    rw [a_Cal_is hw, c_zoneNumbered hw z0 z1, c_needDay d0 d1, c_needRange m0 (by omega) (by omega) (by omega), c_needRange l0 l1 (by omega) (by omega), c_needRange p0 p1 (by omega) (by omega), a_Cal_hall hw, a_Hall_is hw, e0, xcl_e, eq_F (by omega) (by omega) (by omega) (by omega) (by omega), a_Cal_is hw, eN, xcl_e, a_Cal_hall wN, a_Hall_is wN, any, xcl_e, a_Series_is wN hk, st, xcl_e, a_Series_rule w7 hk, a_Rule_is w7 hk, se, xcl_e, p_Series_minute w8 hk, p_Series_length x2 hk, p_Series_people x3 hk, p_Series_needsRoom x4 hk hn, ← e9]
  · refine ⟨u89.wd wN, bN.2.1.un u89 (by (try dsimp only); omega), fun j hj => ?_⟩
    have e29 : 2 + (27 + 6 * j) = 29 + 6 * j := by omega
    rw [e29]
    by_cases z : j = k
    · rw [z, e9, iV_o (by omega), iV_o (by omega), iV_o (by omega), iV_o (by omega), c29, if_pos rfl, iV_s (by omega) (by omega)]
      exact ⟨Or.inr rfl, hn⟩
    · have q := bN.2.2 j hj
      rw [e29] at q
      rw [u89.i (by (try dsimp only); omega), u89.i (by (try dsimp only); omega)]
      exact q
  · rw [e9, iV_o (by omega), iV_o (by omega), iV_o (by omega), iV_o (by omega), c29]
    rfl
  · rw [e9, iV_o (by omega), iV_o (by omega), iV_o (by omega), iV_o (by omega), c29]
    rfl
  · rw [e9, iV_o (by omega), iV_o (by omega), iV_o (by omega), iV_s (by omega) (by omega)]
  · rw [e9, iV_o (by omega), iV_o (by omega), iV_s (by omega) (by omega)]
  · rw [e9, iV_o (by omega), iV_s (by omega) (by omega)]
  · rw [e9, iV_s (by omega) (by omega)]
  · rw [e9, iV_o (by omega), iV_o (by omega), iV_o (by omega), iV_o (by omega), c29]
    rfl
  · rw [e9, iV_o (by omega), iV_o (by omega), iV_o (by omega), iV_o (by omega), e8, iV_o (by omega), r6, r0]
  · rw [e9, iV_o (by omega), iV_o (by omega), iV_o (by omega), iV_o (by omega), e8, iV_o (by omega), r6, r16 1 (by omega) (by omega)]
  · rw [e9, iV_o (by omega), iV_o (by omega), iV_o (by omega), iV_o (by omega), e8, iV_o (by omega), r6, r16 2 (by omega) (by omega)]
  · rw [e9, iV_o (by omega), iV_o (by omega), iV_o (by omega), iV_o (by omega), e8, iV_o (by omega), r6, r16 3 (by omega) (by omega)]
  · rw [e9, iV_o (by omega), iV_o (by omega), iV_o (by omega), iV_o (by omega), e8, iV_o (by omega), r6, r16 4 (by omega) (by omega)]
  · rw [e9, iV_o (by omega), iV_o (by omega), iV_o (by omega), iV_o (by omega), e8, iV_o (by omega), r6, r16 5 (by omega) (by omega)]
  · rw [e9, iV_o (by omega), iV_o (by omega), iV_o (by omega), iV_o (by omega), e8, iV_o (by omega), r6, r16 6 (by omega) (by omega)]
  · rw [e9, iV_o (by omega), iV_o (by omega), iV_o (by omega), iV_o (by omega), e8, iV_s (by omega) (by omega)]
  · rw [e9, iV_o (by omega), iV_o (by omega), iV_o (by omega), iV_o (by omega), e8, iV_o (by omega)]
    exact ((p7 p).1 (by omega) hp).1
end MUT
end
