/-! draft 680.iscut -/
section
/-! ===== isCut holds ===== -/
section ICT
variable {O : Nat → Option va_E} {f k k2 T m : Nat} {M N : xM} {kk jj d x v10 c : Int} {p : Nat}
theorem next_self {y : Int} (h : Wd M) (hkk : kk = (k : Int)) (hk : k < 12) (ht : iV M (29 + 6 * k) 0 = 1) (hr : RVg (iV M (30 + 6 * k))) (hd : Dg (iV M (30 + 6 * k)) y) (hf : 10000 ≤ f) : f_Calendarhall_nextDay O f 1 kk y M = some (y, M) := by
  have nx := nxG (O := O) (f := f) hk hr hf
  have yb := nx.1 y hd
  obtain ⟨z, ez, oz⟩ := e_nextDay (O := O) (f := f) (d := y) h hkk hk ht nx yb.1 yb.2
  have zy : z = y := by
    rcases oz with ⟨q1, q2⟩ | ⟨q1, q2, q3⟩
    · exact (q2 y (Int.le_refl _) hd).elim
    · by_cases g : y < z
      · exact (q3 y (Int.le_refl _) g hd).elim
      · omega
  rw [ez, zy]
/-- every day is one of the two series' own -/
theorem ic_115 {R : Option (Int × xM)} {x5 : Int} (h : Wd M) (hkk : kk = (k : Int)) (hjj : jj = (k2 : Int)) (hk : k < 12) (hk2 : k2 < 12) (t1 : iV M (29 + 6 * k) 0 = 1) (t2 : iV M (29 + 6 * k2) 0 = 1) (r1 : RVg (iV M (30 + 6 * k))) (r2 : RVg (iV M (30 + 6 * k2))) (ip : inM M p) (sp : mS M p = .inr (0, 800)) (t8 : T ≤ 800) (lr : LRp m M) (hd : ∀ i : Nat, i < T → ((i : Int) < c → Dg (iV M (30 + 6 * k)) (iV M p i)) ∧ (c ≤ (i : Int) → Dg (iV M (30 + 6 * k2)) (iV M p i))) (c0 : 0 ≤ c) (c1 : c ≤ 800) (hf : 10000 ≤ f) (e6 : iV M m 5 = 1 → iV M (30 + 6 * k2) 6 = iV M m 6 - c) (m6 : iV M m 5 = 1 → -1000 ≤ iV M m 6 ∧ iV M m 6 ≤ 1000) (fin : f_Law_isCut_186 O f 1 kk (T : Int) m jj x5 M = R) : ∀ (r t v : Nat), v + r = T → r < t → f_Law_isCut_115 O f t 1 kk p (T : Int) m c jj x5 (v : Int) M = R := by
  intro r
  induction r with
  | zero =>
    intro t v hv ht
    obtain ⟨t, rfl⟩ : ∃ n', t = n' + 1 := ⟨t - 1, by omega⟩
    have r5 := iV_r M m 5
    show (if yw (T : Int) ≤ yw (v : Int) then _ else _) = _
    rw [le_T (by omega) (by omega) (by omega), lr.gJ (j := 5) (by decide)]
    by_cases g : iV M m 5 = 1
    · have := m6 g
      have := e6 g
      rw [eq_T g, a_Cal_is h, (atEnd_ok h hjj hk2 t2).2, xcl_e, lr.gJ (j := 6) (by decide), e6 g, eq_T rfl]
      exact fin
    · rw [eq_F g (by omega) (by omega) (by omega) (by omega)]
      exact fin
  | succ r ih =>
    intro t v hv ht
    obtain ⟨t, rfl⟩ : ∃ n', t = n' + 1 := ⟨t - 1, by omega⟩
    have vd : ((v : Int)).toNat = v := by omega
    have q := ih t (v + 1) (by omega) (by omega)
    rw [show ((v + 1 : Nat) : Int) = (v : Int) + 1 by omega] at q
    rw [← q]
    obtain ⟨g1, g2⟩ := hd v (by omega)
    show (if yw (T : Int) ≤ yw (v : Int) then _ else _) = _
    rw [le_F (by omega) (by omega) (by omega)]
    unfold f_Law_isCut_136
    by_cases g : c ≤ (v : Int)
    · rw [le_T g (by omega) (by omega), z_aJ ip sp (by omega) (by omega) (by omega), vd, a_Cal_is h, next_self h hjj hk2 t2 r2 (g2 g) hf, xcl_e, z_aJ ip sp (by omega) (by omega) (by omega), vd, eq_T rfl]
    · rw [le_F (by omega) (by omega) (by omega), z_aJ ip sp (by omega) (by omega) (by omega), vd, a_Cal_is h, next_self h hkk hk t1 r1 (g1 (by omega)) hf, xcl_e, z_aJ ip sp (by omega) (by omega) (by omega), vd, eq_T rfl]
theorem isCut_ok (hkk : kk = (k : Int)) (hk0 : k = 0) (hf : 10000 ≤ f) (bo : Bs M) (h : AQ M k T p) (h7 : iV M (29 + 6 * k) 7 = 0) (ab : ∀ j, j < 12 → j ≠ k → iV M (29 + 6 * j) 0 = 0) (so : SO (iV M (30 + 6 * k))) (sd : sdA (iV M (30 + 6 * k) 1) (iV M (30 + 6 * k) 2) (iV M (30 + 6 * k) 3) (iV M (30 + 6 * k) 4)) (en : enA (iV M (30 + 6 * k) 0) (iV M (30 + 6 * k) 5) (iV M (30 + 6 * k) 6)) (lr : LRp m M) (m0 : 1044 ≤ m) (m5 : iV M m 5 = iV M (30 + 6 * k) 5) (m6 : iV M m 6 = iV M (30 + 6 * k) 6) (eT : T = nD (Dg (iV M (30 + 6 * k))) (iV M (30 + 6 * k) 0) v10) (dl : dyL (iV M p) (Dg (iV M (30 + 6 * k))) (iV M (30 + 6 * k) 0) T v10) : ∃ N, f_Law_isCut O f 1 0 kk p (T : Int) m M = some (1, N) ∧ N.1 = M.1 ∧ N.2.1 = M.2.1 := by
  have hk : k < 12 := by omega
  have w := bo.1
  have t8 := h.2.2.2.2.2.2.2.1
  have p0 := h.2.2.2.2.2.2.1
  unfold f_Law_isCut
  by_cases T2 : T < 2
  · rw [le_F (by omega) (by omega) (by omega)]
    exact ⟨M, rfl, rfl, rfl⟩
  obtain ⟨y, E, eE, y0, y1, wE, uE, iE⟩ := dn_ok (O := O) (f := f) (m := (T : Int) - 1) w (by omega) (by omega)
  have im : ∀ a, iV E a = iV M a := fun a => funext (iE a)
  have boE : Bs E := bo.un uE (by (try dsimp only); omega) (fun j hj => by (try dsimp only); omega)
  have aqE : AQ E k T p := h.un hk uE (fun a a0 a1 => by (try dsimp only); omega) (by (try dsimp only); omega)
  have rv := h.2.2.2.1
  have f0 := rv.1
  have lst := rv.2.2.2.2.2.2.2.2.1
  -- the days
  obtain ⟨r, er⟩ : ∃ r, r = iV M (30 + 6 * k) := ⟨_, rfl⟩
  have r0b : 10 ≤ r 0 ∧ r 0 ≤ 146000 := by rw [er]; exact f0
  obtain ⟨c, ec⟩ : ∃ c : Nat, (c : Int) = 1 + y := ⟨(1 + y).toNat, by omega⟩
  obtain ⟨a1, a2, a3, a4⟩ := dl c (by omega)
  obtain ⟨z1, z2, z3, z4⟩ := dl (T - 1) (by omega)
  obtain ⟨b1, b2, b3, b4⟩ := dl 0 (by omega)
  obtain ⟨d, ed⟩ : ∃ d, d = iV M p c := ⟨_, rfl⟩
  obtain ⟨x5, ex5⟩ : ∃ x, x = iV M p (T - 1) := ⟨_, rfl⟩
  rw [← ed] at a1 a2 a3 a4
  rw [← ex5] at z1 z2 z3 z4
  have d0 : iV M p 0 < d := by rw [ed]; exact dy_mono dl (by omega) (by omega)
  have dx : d ≤ x5 := by
    by_cases g : c = T - 1
    · rw [ed, ex5, g]
      exact Int.le_refl _
    · have := dy_mono dl (show c < T - 1 by omega) (by omega)
      omega
  have k0 : r 1 ≠ 0 := fun z => by
    have g1 := b3.2.2
    have g2 := a3.2.2
    rw [← er] at g1 g2
    unfold hol at g1 g2
    rw [if_pos z] at g1 g2
    omega
  have cb : nD (Dg r) (r 0) (d - 1) = c := by
    have q := (nD_last (P := Dg r) (a := r 0) (b := d) (by rw [er]; exact a1)).1 (by rw [er]; exact a3)
    rw [← er] at a4
    omega
  have cx : nD (Dg r) (r 0) x5 = T := by
    rw [er, z4]
    omega
  have xb : 10 ≤ x5 ∧ x5 ≤ 146000 := by
    have := z3.2.1
    have := z3.1
    omega
  -- cut
  have free : f_Hall_freeSeries O f 2 E = some (((1 : Nat) : Int), E) := free_loop wE (m := 1) (by decide) (fun j hj => by
    rw [iE, show j = k by omega]
    exact h.2.1.1) (by rw [iE]; exact ab 1 (by decide) (by omega)) 1 f 0 (by omega) (by omega)
  have r6b : iV M (30 + 6 * k) 5 = 1 → 1 ≤ iV M (30 + 6 * k) 6 ∧ iV M (30 + 6 * k) 6 ≤ 500 := fun z => by
    unfold enA at en
    omega
  have mi := h.2.1.2.2.1
  obtain ⟨L, eL, bL, dL, uL, ⟨tk, t1⟩, ⟨rk, sk, rk0, rk5, rk6, dk⟩, ⟨r1, s1, r16, d1⟩⟩ := fromHere_ok (O := O) (f := f) (n := 0) (F := fun _ => E) (k := k) (k2 := 1) (kk := kk) (d := d) (mi := iV M (29 + 6 * k) 2) (le := 30) (e0 := iV M p 0) boE (UD.nil boE.2.1) (by omega) hkk hk (by decide) (by omega) free (by rw [iE]; exact h.2.1.1) (by rw [iE]; exact h.2.1.2.2.2.2.2.1) (by rw [iE]; exact h7) (by rw [im]; exact rv) (by rw [im]; exact so) (by rw [im]; exact sd) (by rw [im, ← er]; exact k0) (by rw [im]; exact r6b) (by rw [im]; exact a3) (by rw [im]; exact b3) d0 mi.1 mi.2 (by omega) (by omega) hf
  rw [im, ← er] at rk0 dk d1 r16
  rw [cb] at r16
  have wL := bL.1
  have pL : ∀ j, iV L p j = iV M p j := fun j => by rw [uL.i (by (try dsimp only); omega), iE]
  have mL : ∀ j, iV L m j = iV M m j := fun j => by rw [uL.i (by (try dsimp only); omega), iE]
  have ipL : inM L p := uL.1.inM aqE.2.2.2.2.1
  have spL : mS L p = .inr (0, 800) := by rw [uL.1.s]; exact aqE.2.2.2.2.2.1
  have lrL : LRp m L := (lr.sm uE.1).sm uL.1
  have at2 := e_seriesAt (O := O) (f := f) (kk := kk) (w := 2) (j := 2) wE hkk hk (by rw [iE]; exact h.2.1.1) (Or.inl ⟨rfl, rfl⟩)
  rw [iE] at at2
  have cdk := countDays_ok (O := O) (f := f) (kk := kk) (a := 10) (b := x5) wL hkk hk tk rk (by omega) xb.1 xb.2 hf
  have cd1 := countDays_ok (O := O) (f := f) (kk := ((1 : Nat) : Int)) (k := 1) (a := 10) (b := x5) wL rfl (by decide) t1 r1 (by omega) xb.1 xb.2 hf
  have nk : nD (Dg (iV L (30 + 6 * k))) 10 x5 = c := by
    rw [nD_add (P := Dg (iV L (30 + 6 * k))) (a := 10) (b := x5) (c := d - 1) (by rw [er] at *; omega) (by omega), nD_0 (P := Dg (iV L (30 + 6 * k))) (a := d - 1 + 1) (b := x5) (fun e e0 e1 z => by have := ((dk e (by omega)).mp z).2; omega), nD_add (P := Dg (iV L (30 + 6 * k))) (a := 10) (b := d - 1) (c := r 0 - 1) (by rw [er]; omega) (by rw [er]; omega), nD_0 (P := Dg (iV L (30 + 6 * k))) (a := 10) (b := r 0 - 1) (fun e e0 e1 z => by have := ((dk e (by omega)).mp z).1.1; omega), show r 0 - 1 + 1 = r 0 by omega, nD_of (P := Dg (iV L (30 + 6 * k))) (Q := Dg r) (a := r 0) (b := d - 1) (fun e e0 e1 => by rw [dk e (by omega)]; exact ⟨fun z => z.1, fun z => ⟨z, by omega⟩⟩), cb]
    omega
  have n1 : ((nD (Dg (iV L (30 + 6 * 1))) 10 x5 : Nat) : Int) = (T : Int) - c := by
    have q := nD_add (P := Dg r) (a := r 0) (b := x5) (c := d - 1) (by rw [er]; omega) (by omega)
    rw [cx, cb, show d - 1 + 1 = d by omega] at q
    rw [nD_add (P := Dg (iV L (30 + 6 * 1))) (a := 10) (b := x5) (c := d - 1) (by rw [er] at *; omega) (by omega), nD_0 (P := Dg (iV L (30 + 6 * 1))) (a := 10) (b := d - 1) (fun e e0 e1 z => by have := ((d1 e).mp z).1; omega), show d - 1 + 1 = d by omega, nD_of (P := Dg (iV L (30 + 6 * 1))) (Q := Dg r) (a := d) (b := x5) (fun e e0 e1 => by rw [d1 e]; exact ⟨fun z => z.2, fun z => ⟨e0, z⟩⟩)]
    omega
  rw [nk] at cdk
  rw [n1] at cd1
  -- undone
  obtain ⟨Q, yq, eQ, yq0, uQ, cQ, bQ, dQ⟩ := undo_ok (O := O) (f := f) (n := 0) bL dL (by omega)
  rw [show psh E (fun _ => E) 0 = E from if_pos rfl] at cQ
  have kQ : ∀ j, j < 12 → kEq E Q j := fun j hj => cQ.ke hj
  have rQ : ∀ j, j < 8 → iV Q (30 + 6 * k) j = iV M (30 + 6 * k) j := fun j hj => by rw [(kQ k hk).fs.2.1 j hj, iE]
  have r8Q := r8 rQ
  have tQ : iV Q (29 + 6 * k) 0 = 1 := by rw [(kQ k hk).fs.1 0 (by decide) (by decide), iE]; exact h.2.1.1
  have cdQ := countDays_ok (O := O) (f := f) (kk := kk) (a := 10) (b := x5) bQ.1 hkk hk tQ (r8Q.2.2.1 rv) (by omega) xb.1 xb.2 hf
  have nQ : nD (Dg (iV Q (30 + 6 * k))) 10 x5 = T := by
    rw [r8Q.2.1, ← er, nD_add (P := Dg r) (a := 10) (b := x5) (c := r 0 - 1) (by rw [er]; omega) (by rw [er]; omega), nD_0 (P := Dg r) (a := 10) (b := r 0 - 1) (fun e e0 e1 z => by have := z.1; omega), show r 0 - 1 + 1 = r 0 by omega, cx]
    omega
  rw [nQ] at cdQ
  have erQ := errorsG_ok (O := O) (f := f) bQ.1 (fun z hz => (cQ.ze hz).zv (aqE.2.2.1 z hz)) (fun j hj => by
    by_cases g : j = k
    · rw [g]
      exact Or.inr ⟨tQ, r8Q.2.2.1 rv, r8Q.2.2.2 so⟩
    · rw [(kQ j hj).fs.1 0 (by decide) (by decide), iE]
      exact Or.inl (ab j hj g)) hf
  have t213 : f_Law_isCut_213 O f 1 kk (T : Int) x5 L = some (1, Q) := by
    unfold f_Law_isCut_213
    rw [a_Cal_is wL, eQ, xcl_e, lt_F yq0.1 (by omega) (by omega), a_Cal_is bQ.1, cdQ, xcl_e, eq_T rfl, a_Cal_is bQ.1, erQ, xcl_e, eq_T rfl]
  have r5b := iV_r M m 5
  have r16n : iV M m 5 = 2 → iV L (30 + 6 * 1) 6 = iV M m 6 := fun z => by
    rw [r16, er, ← m5, if_neg (by omega), m6]
  have t186 : f_Law_isCut_186 O f 1 kk (T : Int) m (((1 : Nat) : Int)) x5 L = some (1, Q) := by
    unfold f_Law_isCut_186
    rw [lrL.gJ (j := 5) (by decide), mL]
    by_cases g : iV M m 5 = 2
    · rw [eq_T g, a_Cal_is wL, (atEnd_ok (k := 1) wL rfl (by decide) t1).2, xcl_e, lrL.gJ (j := 6) (by decide), mL, r16n g, eq_T rfl]
      exact t213
    · rw [eq_F g (by omega) (by omega) (by omega) (by omega)]
      exact t213
  have t115 := ic_115 (O := O) (f := f) (R := some (1, Q)) (x5 := x5) (c := (c : Int)) wL hkk rfl hk (by decide) tk t1 rk r1 ipL spL t8 lrL (fun i hi => by
    obtain ⟨i1, i2, i3, i4⟩ := dl i hi
    rw [pL]
    rw [← er] at i3
    constructor
    · intro g
      have lt : iV M p i < d := by rw [ed]; exact dy_mono dl (by omega) (by omega)
      exact (dk _ (by omega)).mpr ⟨i3, lt⟩
    · intro g
      refine (d1 _).mpr ⟨?_, i3⟩
      by_cases g2 : i = c
      · rw [g2, ed]
        exact Int.le_refl _
      · have := dy_mono dl (show c < i by omega) hi
        omega) (by omega) (by omega) hf (fun z => by
    rw [mL] at z ⊢
    rw [r16, if_pos (by rw [er, ← m5]; exact z), er, m6]) (fun z => by
    rw [mL] at z ⊢
    have := r6b (by rw [← m5]; exact z)
    omega) t186 T f 0 (by omega) (by omega)
  rw [show ((0 : Nat) : Int) = 0 from rfl] at t115
  refine ⟨Q, ?_, by rw [uQ.1.1, uL.1.1, uE.1.1], by rw [uQ.1.2.1, uL.1.2.1, uE.1.2.1]⟩
  have yt : (1 + y).toNat = c := by omega
  rw [le_T (by omega) (by omega) (by omega), w.is (k := 0) (ci := 15) (by decide) (by decide), eE, xcl_e, z_aJ aqE.2.2.2.2.1 aqE.2.2.2.2.2.1 (by omega) (by omega) (by omega), yt, iE, ← ed, a_Cal_is wE, at2, xcl_e, a_Cal_is wE, eL, xcl_e, z_aJ ipL spL (by omega) (by omega) (by omega), show ((T : Int) - 1).toNat = T - 1 by omega, pL, ← ex5, a_Cal_is wL, cdk, xcl_e, ← ec, eq_T rfl, a_Cal_is wL, cd1, xcl_e, eq_T rfl, a_Cal_is wL, (atEnd_ok wL hkk hk tk).1, xcl_e, rk5, eq_T rfl, a_Cal_is wL, (atEnd_ok wL hkk hk tk).2, xcl_e, z_aJ ipL spL (by omega) (by omega) (by omega), Int.toNat_natCast, pL, ← ed, rk6, eq_T rfl]
  exact t115
end ICT
end
/-! draft 681.strings -/
section
/-! ===== strings: what they hold ===== -/
/-- a string of these signs: its bytes lie right behind it -/
def SG (O : Nat → Option va_E) (M : xM) (s : Nat) (L : List Int) : Prop := (∃ fs, xrd O (hp M) s = some (.inr (0, fs)) ∧ fs[0]? = some (.ref (s + 1)) ∧ fs[1]? = some (.int 0)) ∧ (∃ f : Nat → Int32, xrd O (hp M) (s + 1) = some (.inl (3, L.length, .inl f)) ∧ ∀ i : Nat, i < L.length → (f i).toInt = L.getD i 0) ∧ (∀ x, x ∈ L → 0 ≤ x ∧ x ≤ 127) ∧ L.length ≤ 1000 ∧ (s + 1 < 1000000000 ∨ 1000000000 ≤ s)
section STG2
variable {O : Nat → Option va_E} {f s b k ci n : Nat} {M N : xM} {L : List Int} {i : Int} {γ : Type}
theorem o_is {fs : List Value} (h : xrd O (hp M) k = some (.inr (ci, fs))) {A : Unit → Option γ} : (isO O M k ci).bind A = A () := by
  unfold isO
  rw [h]
  show (if ci = ci then some () else none).bind A = _
  rw [if_pos rfl]
  rfl
theorem o_gR {fs : List Value} {j r : Nat} (h : xrd O (hp M) k = some (.inr (ci, fs))) (hj : fs[j]? = some (.ref r)) {A : Nat → Option γ} : (gR O M k ci j).bind A = A r := by
  unfold gR
  rw [h]
  dsimp only
  rw [if_pos rfl, hj]
  rfl
theorem o_gJ {fs : List Value} {j : Nat} {x : Int32} (h : xrd O (hp M) k = some (.inr (ci, fs))) (hj : fs[j]? = some (.int x)) {A : Int → Option γ} : (gJ O M k ci j).bind A = A x.toInt := by
  unfold gJ gI
  rw [h]
  dsimp only
  rw [if_pos rfl, hj]
  rfl
theorem o_aN {t : Nat} {y : (Nat → Int32) ⊕ ((Nat → Int64) ⊕ _)} (h : xrd O (hp M) k = some (.inl (t, n, y))) (ht : t < 12) (hn : n ≤ 2147483647) {A : Int → Option γ} : (aJN O M k).bind A = A (n : Int) := by
  unfold aJN aN
  rw [h]
  dsimp only
  rw [if_pos ht]
  show A (Int32.ofNat n).toInt = _
  rw [show (Int32.ofNat n).toInt = (n : Int) from Int32.toInt_ofNat_of_lt (by omega)]
theorem o_aJB {g : Nat → Int32} (h : xrd O (hp M) k = some (.inl (3, n, .inl g))) (h0 : 0 ≤ i) (h1 : i < n) (h2 : i ≤ 2147483647) {A : Int → Option γ} : (aJB O M k i).bind A = A (g i.toNat).toInt := by
  unfold aJB aB
  rw [h]
  dsimp only
  rw [if_pos (Or.inr rfl), yw_nat ⟨by omega, h2⟩, if_neg (ix_in2 h0 h1 ⟨by omega, h2⟩)]
  rfl
theorem asc : ∀ n : Nat, n < 128 → ji2c (jand (n : Int) 255) = (n : Int) ∧ xfit .char (.int (yw (n : Int))) = true ∧ xfit .byte (.int (yw (n : Int))) = true ∧ ji2b (n : Int) = (n : Int) := by decide +kernel
theorem SG.is (h : SG O M s L) {A : Unit → Option γ} : (isO O M s 0).bind A = A () := by
  obtain ⟨⟨fs, e1, e2, e3⟩, -⟩ := h
  exact o_is e1
theorem SG.gR (h : SG O M s L) {A : Nat → Option γ} : (gR O M s 0 0).bind A = A (s + 1) := by
  obtain ⟨⟨fs, e1, e2, e3⟩, -⟩ := h
  exact o_gR e1 e2
theorem SG.gJ (h : SG O M s L) {A : Int → Option γ} : (gJ O M s 0 1).bind A = A 0 := by
  obtain ⟨⟨fs, e1, e2, e3⟩, -⟩ := h
  exact o_gJ e1 e3
theorem SG.aN (h : SG O M s L) {A : Int → Option γ} : (aJN O M (s + 1)).bind A = A (L.length : Int) := by
  obtain ⟨-, ⟨g, e1, e2⟩, -, l, -⟩ := h
  exact o_aN e1 (by decide) (by omega)
theorem SG.at (h : SG O M s L) (h0 : 0 ≤ i) (h1 : i < L.length) {A : Int → Option γ} : (aJB O M (s + 1) i).bind A = A (L.getD i.toNat 0) := by
  obtain ⟨-, ⟨g, e1, e2⟩, -, l, -⟩ := h
  rw [o_aJB e1 h0 h1 (by omega), e2 i.toNat (by omega)]
theorem SG.chr (h : SG O M s L) {j : Nat} (hj : j < L.length) : 0 ≤ L.getD j 0 ∧ L.getD j 0 ≤ 127 := h.2.2.1 _ (getD_mem hj)
theorem coder_ok (h : SG O M s L) : f_String_coder O f s M = some (0, M) := by
  unfold f_String_coder
  rw [eq_F (by omega) (by omega) (by omega) (by omega) (by omega), h.gJ]
  rfl
theorem length_ok (h : SG O M s L) : f_String_length O f s M = some ((L.length : Int), M) := by
  have l := h.2.2.2.1
  unfold f_String_length
  rw [h.gR, h.aN, h.is, coder_ok h, xcl_e, sh_amt (by omega) (by omega), jshr_e (by omega) (by omega) (by omega) (by omega)]
  show some ((((L.length : Int).toNat / 2 ^ (0 : Int).toNat : Nat) : Int), M) = _
  rw [show (L.length : Int).toNat / 2 ^ (0 : Int).toNat = L.length from by show (L.length : Int).toNat / 1 = _; omega]
theorem charAt_ok (h : SG O M s L) (h0 : 0 ≤ i) (h1 : i < L.length) : f_String_charAt O f s i M = some (L.getD i.toNat 0, M) := by
  have l := h.2.2.2.1
  obtain ⟨c0, c1⟩ := h.chr (j := i.toNat) (by omega)
  obtain ⟨n, en⟩ := Int.eq_ofNat_of_zero_le c0
  have a := asc n (by omega)
  unfold f_String_charAt f_String_isLatin1
  rw [h.is, eq_F (by omega) (by omega) (by omega) (by omega) (by omega), h.gJ, eq_T rfl, xcl_e, eq_F (by omega) (by omega) (by omega) (by omega) (by omega), h.gR]
  unfold f_StringLatin1_charAt f_String_checkIndex f_Preconditions_checkIndex
  rw [h.aN, lt_F h0 (by omega) (by omega), lt_T h1 (by omega) (by omega), xcl_e, xcl_e, h.at h0 h1, en, a.1, if_pos a.2.1, xcl_e, if_pos a.2.1]
theorem xrd_kp {P : Nat → Prop} (u : Kp P M N) (hk : k < M.1 ∨ 1000000000 ≤ k) (hN : N.1 ≤ 500000000) (hq : k < 1000000000 → P k) : xrd O (hp N) k = xrd O (hp M) k := by
  unfold xrd
  by_cases g : k < 1000000000
  · have km : k < M.1 := by omega
    have k1 : k < (hp M).1 := km
    have k2 : k < (hp N).1 := Nat.lt_of_lt_of_le km u.1
    rw [if_pos g, if_pos g, if_pos k1, if_pos k2, hp_cell, hp_cell, (u.2.1 k km).1, (u.2.1 k km).2, (u.2.2 k km (hq g)).1, (u.2.2 k km (hq g)).2]
  · rw [if_neg g, if_neg g]
theorem SG.lt (h : SG O M s L) : s + 1 < M.1 ∨ 1000000000 ≤ s := by
  obtain ⟨-, ⟨g, e1, -⟩, -, -, q⟩ := h
  rcases q with q | q
  · left
    unfold xrd at e1
    rw [if_pos q] at e1
    by_cases z : s + 1 < (hp M).1
    · exact z
    · rw [if_neg z] at e1
      cases e1
  · exact Or.inr q
theorem SG.kp {P : Nat → Prop} (h : SG O M s L) (u : Kp P M N) (hN : N.1 ≤ 500000000) (hq : s + 1 < M.1 → P s ∧ P (s + 1)) : SG O N s L := by
  have lt := h.lt
  obtain ⟨a, c, d, e, q⟩ := h
  unfold SG
  rw [xrd_kp u (k := s) (by omega) hN (fun z => (hq (by omega)).1), xrd_kp u (k := s + 1) (by omega) hN (fun z => (hq (by omega)).2)]
  exact ⟨a, c, d, e, q⟩
end STG2
end
/-! draft 682.bytes -/
section
/-! ===== bytes copied; builders ===== -/
section BYT
variable {O : Nat → Option va_E} {f s b k ci n x A m : Nat} {M N : xM} {L L2 : List Int} {i : Int} {γ : Type}
theorem fit_b {y : Int32} (h0 : -128 ≤ y.toInt) (h1 : y.toInt ≤ 127) : xfit .byte (.int y) = true := by
  have e0 : (-128 : Int32) ≤ y := Int32.le_iff_toInt_le.mpr (by exact h0)
  have e1 : y ≤ (127 : Int32) := Int32.le_iff_toInt_le.mpr (by exact h1)
  show (decide ((-128 : Int32) ≤ y) && decide (y ≤ 127)) = true
  rw [decide_eq_true e0, decide_eq_true e1]
  rfl
theorem z_cB {a0 a1 n0 n1 : Nat} {sp dp c : Int} {g : Nat → Int32} {A : xM → Option γ} (e : xrd O (hp M) a0 = some (.inl (3, n0, .inl g))) (hb1 : inM M a1) (hs1 : mS M a1 = .inr (3, n1)) (h0 : 0 ≤ sp) (h1 : 0 ≤ dp) (h2 : 0 ≤ c) (h3 : sp + c ≤ n0) (h4 : dp + c ≤ n1) (h5 : n0 ≤ 2147483647) (h6 : n1 ≤ 2147483647) (fit : ∀ j : Nat, (j : Int) < c → -128 ≤ (g (sp.toNat + j)).toInt ∧ (g (sp.toNat + j)).toInt ≤ 127) : (cpJ O M a0 sp a1 dp c).bind A = A (msI M a1 (va_cpy g (mI M a1) sp.toNat dp.toNat c.toNat)) := by
  have e1 := yw_nat (a := sp) ⟨by omega, by omega⟩
  have e2 := yw_nat (a := dp) ⟨by omega, by omega⟩
  have e3 := yw_nat (a := c) ⟨by omega, by omega⟩
  have q1 : ¬ yw sp < 0 := fun q => by have := (yw_lt (a := sp) (b := 0) ⟨by omega, by omega⟩ (by decide)).mp q; omega
  have q2 : ¬ yw dp < 0 := fun q => by have := (yw_lt (a := dp) (b := 0) ⟨by omega, by omega⟩ (by decide)).mp q; omega
  have q3 : ¬ yw c < 0 := fun q => by have := (yw_lt (a := c) (b := 0) ⟨by omega, by omega⟩ (by decide)).mp q; omega
  unfold cpJ cpY
  rw [e, hs1]
  dsimp only
  rw [e1, e2, e3, if_pos ⟨rfl, rfl, q1, q2, q3, by omega, by omega, fun j hj => fit_b (fit j (by omega)).1 (fit j (by omega)).2, hb1.1, hb1.2⟩]
  rfl
theorem iV_cB {a1 sp dp c : Nat} {g : Nat → Int32} {j : Nat} : iV (msI M a1 (va_cpy g (mI M a1) sp dp c)) a1 j = if dp ≤ j ∧ j < dp + c then (g (sp + (j - dp))).toInt else iV M a1 j := by
  show ((if a1 = a1 then va_cpy g (mI M a1) sp dp c else mI M a1) j).toInt = _
  rw [if_pos rfl]
  unfold va_cpy
  by_cases q : dp ≤ j ∧ j < dp + c
  · rw [if_pos q, if_pos q]
  · rw [if_neg q, if_neg q]
    rfl
theorem un_cB {a1 : Nat} {G : Nat → Int32} : Un (fun a => a ≠ a1) M (msI M a1 G) := ⟨Sm.rf, fun a p => ⟨if_neg p, rfl⟩⟩
theorem xrd_new (hb : inM M k) (hs : mS M k = .inr (3, n)) : xrd O (hp M) k = some (.inl (3, n, .inl (mI M k))) := by
  have hb2 : k < (hp M).1 := hb.2
  unfold xrd
  rw [if_pos hb.1, if_pos hb2, mrow_cI hs (by decide) (by decide)]
theorem jshl0 {a : Int} (h0 : -2147483648 ≤ a) (h1 : a ≤ 2147483647) : jshl a (jand 0 31) = a := by
  rw [sh_amt (by omega) (by omega)]
  unfold jshl
  rw [show yw 0 = 0 from rfl, Int32.shiftLeft_zero, yw_to ⟨h0, h1⟩]
theorem jshr0 {a : Int} (h0 : 0 ≤ a) (h1 : a ≤ 2147483647) : jshr a (jand 0 31) = a := by
  rw [sh_amt (by omega) (by omega), jshr_e h0 h1 (by omega) (by omega)]
  show (((a.toNat / 1 : Nat)) : Int) = a
  omega
/-- a builder, its row, the row's length, what it holds -/
def BD (M : xM) (x A n : Nat) (L : List Int) : Prop := inM M x ∧ mS M x = .inl 1 ∧ mR M x 0 = some A ∧ iV M x 1 = 0 ∧ iV M x 3 = L.length ∧ inM M A ∧ mS M A = .inr (3, n) ∧ L.length ≤ n ∧ n ≤ 5000 ∧ (∀ j : Nat, j < L.length → iV M A j = L.getD j 0) ∧ (∀ y, y ∈ L → 0 ≤ y ∧ y ≤ 127) ∧ ∀ j : Nat, j < n → -128 ≤ iV M A j ∧ iV M A j ≤ 127
theorem BD.is (h : BD M x A n L) {B : Unit → Option γ} : (isO O M x 1).bind B = B () := z_is h.1 h.2.1
theorem BD.v (h : BD M x A n L) {B : Nat → Option γ} : (gR O M x 1 0).bind B = B A := z_gR h.1 h.2.1 (by decide) (by decide) h.2.2.1
theorem BD.co (h : BD M x A n L) {B : Int → Option γ} : (gJ O M x 1 1).bind B = B 0 := by
  rw [z_gJ h.1 h.2.1 (by decide) (by decide), h.2.2.2.1]
theorem BD.ct (h : BD M x A n L) {B : Int → Option γ} : (gJ O M x 1 3).bind B = B L.length := by
  rw [z_gJ h.1 h.2.1 (by decide) (by decide), h.2.2.2.2.1]
theorem BD.aN (h : BD M x A n L) {B : Int → Option γ} : (aJN O M A).bind B = B n := z_aN h.2.2.2.2.2.1 h.2.2.2.2.2.2.1 (by decide) (by have := h.2.2.2.2.2.2.2.2.1; omega)
theorem BD.ne (h : BD M x A n L) : x ≠ A := fun e => by
  have h1 := h.2.1
  have h2 := h.2.2.2.2.2.2.1
  rw [e, h2] at h1
  cases h1
theorem BD.un {P : Nat → Prop} (h : BD M x A n L) (u : Un P M N) (hx : P x) (hA : P A) : BD N x A n L := by
  obtain ⟨a1, a2, a3, a4, a5, a6, a7, a8, a9, a10, a11, a12⟩ := h
  refine ⟨u.1.inM a1, by rw [u.1.s]; exact a2, by rw [u.1.r]; exact a3, by rw [u.i hx]; exact a4, by rw [u.i hx]; exact a5, u.1.inM a6, by rw [u.1.s]; exact a7, a8, a9, fun j hj => by rw [u.i hA]; exact a10 j hj, a11, fun j hj => by rw [u.i hA]; exact a12 j hj⟩
theorem BD.kp {P : Nat → Prop} (h : BD M x A n L) (u : Kp P M N) (hN : N.1 ≤ 500000000) (hx : P x) (hA : P A) : BD N x A n L := by
  obtain ⟨a1, a2, a3, a4, a5, a6, a7, a8, a9, a10, a11, a12⟩ := h
  have u1 := u.1
  have b1 := a1.2
  have b6 := a6.2
  refine ⟨⟨by omega, by omega⟩, by rw [(u.2.1 x b1).1]; exact a2, by rw [(u.2.1 x b1).2]; exact a3, by rw [u.i b1 hx]; exact a4, by rw [u.i b1 hx]; exact a5, ⟨by omega, by omega⟩, by rw [(u.2.1 A b6).1]; exact a7, a8, a9, fun j hj => by rw [u.i b6 hA]; exact a10 j hj, a11, fun j hj => by rw [u.i b6 hA]; exact a12 j hj⟩
end BYT
/-! a heap that goes on, where references too may change -/
def Kq (P : Nat → Prop) (M N : xM) : Prop := M.1 ≤ N.1 ∧ (∀ a, a < M.1 → mS N a = mS M a) ∧ ∀ a, a < M.1 → P a → mI N a = mI M a ∧ mL N a = mL M a ∧ mR N a = mR M a
section KQS
variable {O : Nat → Option va_E} {s x A n a j : Nat} {M N K : xM} {L : List Int} {P Q : Nat → Prop}
theorem Kq.rf : Kq P M M := ⟨Nat.le_refl _, fun _ _ => rfl, fun _ _ _ => ⟨rfl, rfl, rfl⟩⟩
theorem Kq.tr (h : Kq P M N) (g : Kq P N K) : Kq P M K := ⟨Nat.le_trans h.1 g.1, fun a ha => (g.2.1 a (Nat.lt_of_lt_of_le ha h.1)).trans (h.2.1 a ha), fun a ha p => by
  obtain ⟨a1, a2, a3⟩ := h.2.2 a ha p
  obtain ⟨b1, b2, b3⟩ := g.2.2 a (Nat.lt_of_lt_of_le ha h.1) p
  exact ⟨b1.trans a1, b2.trans a2, b3.trans a3⟩⟩
theorem Kq.le (h : Kq P M N) (g : ∀ a, Q a → P a) : Kq Q M N := ⟨h.1, h.2.1, fun a ha q => h.2.2 a ha (g a q)⟩
theorem Kp.kq (h : Kp P M N) : Kq P M N := ⟨h.1, fun a ha => (h.2.1 a ha).1, fun a ha p => ⟨(h.2.2 a ha p).1, (h.2.2 a ha p).2, (h.2.1 a ha).2⟩⟩
theorem Un.kq (h : Un P M N) : Kq P M N := h.kp.kq
theorem Ex.kq (h : Ex M N) : Kq P M N := (Ex.kp h).kq
theorem Kq.i (h : Kq P M N) (ha : a < M.1) (p : P a) : iV N a j = iV M a j := by
  unfold iV
  rw [(h.2.2 a ha p).1]
theorem Kq.l (h : Kq P M N) (ha : a < M.1) (p : P a) : lV N a j = lV M a j := by
  unfold lV
  rw [(h.2.2 a ha p).2.1]
theorem Kq.ex (h : Kq P M N) (p : ∀ a, a < M.1 → P a) : Ex M N := ⟨h.1, fun a ha => ⟨h.2.1 a ha, (h.2.2 a ha (p a ha)).1, (h.2.2 a ha (p a ha)).2.1, (h.2.2 a ha (p a ha)).2.2⟩⟩
theorem xrd_kq (u : Kq P M N) {k : Nat} (hk : k < M.1 ∨ 1000000000 ≤ k) (hq : k < 1000000000 → P k) : xrd O (hp N) k = xrd O (hp M) k := by
  unfold xrd
  by_cases g : k < 1000000000
  · have km : k < M.1 := by omega
    have k1 : k < (hp M).1 := km
    have k2 : k < (hp N).1 := Nat.lt_of_lt_of_le km u.1
    rw [if_pos g, if_pos g, if_pos k1, if_pos k2, hp_cell, hp_cell, u.2.1 k km, (u.2.2 k km (hq g)).1, (u.2.2 k km (hq g)).2.1, (u.2.2 k km (hq g)).2.2]
  · rw [if_neg g, if_neg g]
theorem SG.kq (h : SG O M s L) (u : Kq P M N) (hq : s + 1 < M.1 → P s ∧ P (s + 1)) : SG O N s L := by
  have lt := h.lt
  obtain ⟨a, c, d, e, q⟩ := h
  unfold SG
  rw [xrd_kq u (k := s) (by omega) (fun z => (hq (by omega)).1), xrd_kq u (k := s + 1) (by omega) (fun z => (hq (by omega)).2)]
  exact ⟨a, c, d, e, q⟩
theorem BD.kq (h : BD M x A n L) (u : Kq P M N) (hN : N.1 ≤ 500000000) (hx : P x) (hA : P A) : BD N x A n L := by
  obtain ⟨a1, a2, a3, a4, a5, a6, a7, a8, a9, a10, a11, a12⟩ := h
  have u1 := u.1
  have b1 := a1.2
  have b6 := a6.2
  refine ⟨⟨by omega, by omega⟩, by rw [u.2.1 x b1]; exact a2, by rw [(u.2.2 x b1 hx).2.2]; exact a3, by rw [u.i b1 hx]; exact a4, by rw [u.i b1 hx]; exact a5, ⟨by omega, by omega⟩, by rw [u.2.1 A b6]; exact a7, a8, a9, fun j hj => by rw [u.i b6 hA]; exact a10 j hj, a11, fun j hj => by rw [u.i b6 hA]; exact a12 j hj⟩
end KQS
end
/-! draft 683.builder -/
section
/-! ===== builders are made and filled ===== -/
section BLD
variable {O : Nat → Option va_E} {f s x A n : Nat} {M N : xM} {L L2 : List Int} {m : Int} {γ : Type}
/-- a new row of bytes -/
theorem ba_new {w : Int} (h0 : 0 ≤ w) (h1 : w ≤ 5000) (hM : M.1 ≤ 400000000) : ∃ N, nAJ M 3 w = some (M.1, N) ∧ Ex M N ∧ inM N M.1 ∧ mS N M.1 = .inr (3, w.toNat) ∧ (∀ j, iV N M.1 j = 0) ∧ N.1 = M.1 + 1 ∧ N.2.1 = M.2.1 + w.toNat := by
  refine ⟨_, x_nAJ h0 (by omega) (by omega), Ex.new, ⟨by omega, Nat.lt_succ_self _⟩, if_pos rfl, fun j => ?_, rfl, rfl⟩
  unfold iV
  show ((if M.1 = M.1 then fun _ => 0 else mI M M.1) j).toInt = 0
  rw [if_pos rfl]
  rfl
/-- an object's reference is put -/
theorem pR_ok {ci j r : Nat} (hb : inM M x) (hs : mS M x = .inl ci) (hj : j < xNf ci) (ht : xkR (xTy ci j) = true) : ∃ N, (∀ {B : xM → Option γ}, (pR M x ci j (some r)).bind B = B N) ∧ N.1 = M.1 ∧ N.2.1 = M.2.1 ∧ mS N = mS M ∧ mR N x j = some r ∧ (∀ i, i ≠ j → mR N x i = mR M x i) ∧ (∀ a, a ≠ x → mR N a = mR M a) ∧ mI N = mI M ∧ mL N = mL M := by
  refine ⟨msR M x (mup (mR M x) j (some r)), fun {B} => ?_, rfl, rfl, rfl, ?_, fun i hi => ?_, fun a ha => if_neg ha, rfl, rfl⟩
  · rw [c_pR hb.1 hb.2 hs hj ht]
    rfl
  · show (if x = x then mup (mR M x) j (some r) else mR M x) j = _
    rw [if_pos rfl]
    exact if_pos rfl
  · show (if x = x then mup (mR M x) j (some r) else mR M x) i = _
    rw [if_pos rfl]
    exact if_neg hi
theorem sb_new (hM : M.1 ≤ 300000000) : ∃ N, (∀ {B : Nat → xM → Option γ}, (xcl (nO M 1) fun x1 M1 => xcl (f_StringBuilder_ctor O f x1 M1) fun _ M2 => B x1 M2) = B M.1 N) ∧ BD N M.1 (M.1 + 1) 16 [] ∧ Kp (fun _ => True) M N ∧ N.1 = M.1 + 2 ∧ N.2.1 = M.2.1 + 20 := by
  obtain ⟨A1, e1⟩ : ∃ A1, A1 = mnew M (.inl 1) (xNf 1) := ⟨_, rfl⟩
  have g1 : nO M 1 = some (M.1, A1) := by
    unfold nO
    rw [if_pos (by omega), e1]
  have x1 : Ex M A1 := by rw [e1]; exact Ex.new
  have n1 : A1.1 = M.1 + 1 := by rw [e1]; rfl
  have s1 : mS A1 M.1 = .inl 1 := by rw [e1]; exact if_pos rfl
  have w1 : A1.2.1 = M.2.1 + 4 := by rw [e1]; rfl
  have z1 : ∀ j, iV A1 M.1 j = 0 := fun j => by
    rw [e1]
    unfold iV
    show ((if M.1 = M.1 then fun _ => 0 else mI M M.1) j).toInt = 0
    rw [if_pos rfl]
    rfl
  obtain ⟨A2, g2, x2, b2, s2, z2, n2, w2⟩ := ba_new (M := A1) (w := 16) (by omega) (by omega) (by omega)
  have i2 : inM A2 M.1 := ⟨by omega, by omega⟩
  have sx : mS A2 M.1 = .inl 1 := by rw [(x2.2 M.1 (by omega)).1]; exact s1
  obtain ⟨A3, g3, n3, w3, s3, r3, ro3, ra3, I3, L3⟩ := pR_ok (γ := Unit × xM) (x := M.1) (r := A1.1) (j := 0) i2 sx (by decide) (by decide)
  have i3 : inM A3 M.1 := ⟨by omega, by omega⟩
  have sx3 : mS A3 M.1 = .inl 1 := by rw [s3]; exact sx
  have v3 : ∀ a j, iV A3 a j = iV A2 a j := fun a j => by
    unfold iV
    rw [I3]
  obtain ⟨A4, e4⟩ : ∃ A4, A4 = iS A3 M.1 1 0 := ⟨_, rfl⟩
  have u4 : Un (fun a => a ≠ M.1) A3 A4 := by rw [e4]; exact Un.rf.iS (fun q => q rfl)
  have v4 : ∀ j, iV A4 M.1 j = 0 := fun j => by
    by_cases c : j = 1
    · rw [e4, c, iV_s (by omega) (by omega)]
    · rw [e4, iV_o (by omega), v3, x2.i (by omega), z1]
  refine ⟨A4, fun {B} => ?_, ⟨⟨by omega, by rw [u4.1.1]; omega⟩, by rw [u4.1.s]; exact sx3, by rw [u4.1.r, r3, n1], v4 1, v4 3, ⟨by omega, by rw [u4.1.1]; omega⟩, ?_, by show 0 ≤ 16; omega, by omega, fun j hj => absurd hj (Nat.not_lt_zero _), fun y hy => absurd hy (List.not_mem_nil), fun j hj => ?_⟩, ⟨by rw [u4.1.1]; omega, fun a ha => ?_, fun a ha _ => ?_⟩, by rw [u4.1.1]; omega, by rw [u4.1.2.1]; omega⟩
  · unfold f_StringBuilder_ctor f_AbstractStringBuilder_ctor
    rw [g1, xcl_e, eq_F (by omega) (by omega) (by omega) (by omega) (by omega), g2, xcl_e, g3, z_pJ i3 sx3 (by decide) (by decide) rfl, ← e4, xcl_e, xcl_e]
  · rw [u4.1.s, s3, ← n1]
    exact s2
  · rw [u4.i (by (try dsimp only); omega), v3, ← n1, z2]
    omega
  · have q2 := x2.2 a (by omega)
    have q1 := x1.2 a ha
    rw [u4.1.s, u4.1.r, s3, ra3 a (by omega), q2.1, q2.2.2.2, q1.1, q1.2.2.2]
    exact ⟨rfl, rfl⟩
  · have q2 := x2.2 a (by omega)
    have q1 := x1.2 a ha
    have q4 := u4.2 a (by (try dsimp only); omega)
    rw [q4.1, q4.2, I3, L3, q2.2.1, q2.2.2.1, q1.2.1, q1.2.2.1]
    exact ⟨rfl, rfl⟩
end BLD
end
/-! draft 684.append -/
section
/-! ===== a string is appended ===== -/
section APD
variable {O : Nat → Option va_E} {f s x A n : Nat} {M N : xM} {L L2 : List Int} {m : Int} {γ : Type}
/-- a builder after a change of itself alone: its row may be a new one; what is made is paid by the row's growth -/
def BG (M N : xM) (x A A' n n' : Nat) : Prop := Kq (fun a => a ≠ x ∧ a ≠ A) M N ∧ (A' = A ∨ (M.1 ≤ A' ∧ A' < N.1)) ∧ N.1 ≤ M.1 + 1 ∧ M.1 ≤ N.1 ∧ N.2.1 + 2 * n ≤ M.2.1 + 2 * n' ∧ n ≤ n'
theorem ens_ok (h : BD M x A n L) (hM : M.1 ≤ 300000000) (n2 : n ≤ 1000) (m0 : 0 ≤ m) (m1 : m ≤ 1000) : ∃ A' n' N, f_AbstractStringBuilder_ensureCapacityInternal O f x m M = some ((), N) ∧ BD N x A' n' L ∧ m ≤ n' ∧ (n' : Int) ≤ max (n : Int) (2 * m) ∧ BG M N x A A' n n' := by
  have h' := h
  obtain ⟨a1, a2, a3, a4, a5, a6, a7, a8, a9, a10, a11, a12⟩ := h'
  have ne := h.ne
  unfold f_AbstractStringBuilder_ensureCapacityInternal
  rw [h.v, h.aN, h.co, jshr0 (by omega) (by omega)]
  by_cases c : m - n ≤ 0
  · rw [le_T c (by omega) (by omega)]
    exact ⟨A, n, M, rfl, h, by omega, by omega, Kq.rf, Or.inl rfl, by omega, by omega, by omega, by omega⟩
  rw [le_F (by omega) (by omega) (by omega), h.v, h.is]
  obtain ⟨w, ew⟩ : ∃ w, w = max (m - n) ((n : Int) + 2) := ⟨_, rfl⟩
  have nc : f_AbstractStringBuilder_newCapacity O f x m M = some ((n : Int) + w, M) := by
    unfold f_AbstractStringBuilder_newCapacity
    rw [h.v, h.aN, h.co, jshl0 (by omega) (by omega), xlet_e, h.co, jshl0 (by omega) (by omega)]
    unfold f_ArraysSupport_newLength
    rw [xc_of (e_max (by omega) (by omega) (by omega) (by omega)), ← ew, le_F (by omega) (by omega) (by omega), lt_F (by omega) (by omega) (by omega), xcl_e, eq_F (by omega) (by omega) (by omega) (by omega) (by omega), h.co, jshr0 (by omega) (by omega)]
  rw [nc, xcl_e, h.co, jshl0 (by omega) (by omega)]
  -- the new row
  obtain ⟨A1, e1, x1, b1, s1, z1, k1, l1⟩ := ba_new (M := M) (w := (n : Int) + w) (by omega) (by omega) (by omega)
  have bA : inM A1 A := ⟨a6.1, by have := a6.2; omega⟩
  have hA1 : mS A1 A = .inr (3, n) := by rw [(x1.2 A a6.2).1]; exact a7
  obtain ⟨A2, e2⟩ : ∃ A2, A2 = msI A1 M.1 (va_cpy (mI A1 A) (mI A1 M.1) (0 : Int).toNat (0 : Int).toNat (n : Int).toNat) := ⟨_, rfl⟩
  have u2 : Un (fun a => a ≠ M.1) A1 A2 := by rw [e2]; exact un_cB
  have cp : ∀ {B : xM → Option (Nat × xM)}, (cpJ O A1 A 0 M.1 0 (n : Int)).bind B = B A2 := fun {B} => by
    rw [e2]
    exact z_cB (xrd_new bA hA1) b1 s1 (by omega) (by omega) (by omega) (by omega) (by omega) (by omega) (by omega) (fun j hj => by
      have := a12 j (by omega)
      have q : iV A1 A j = iV M A j := x1.i a6.2
      rw [show (0 : Int).toNat + j = j by omega]
      show -128 ≤ iV A1 A j ∧ iV A1 A j ≤ 127
      rw [q]
      exact this)
  have co : f_Arrays_copyOf O f A ((n : Int) + w) M = some (M.1, A2) := by
    unfold f_Arrays_copyOf
    rw [h.aN, eq_F (by omega) (by omega) (by omega) (by omega) (by omega), e1, xcl_e, z_aN bA hA1 (by decide) (by omega), xc_of (e_min (by omega) (by omega) (by omega) (by omega)), show min (n : Int) (n + w) = n by omega, cp]
  have xA2 : inM A2 x := u2.1.inM ⟨by have := a1.1; omega, by have := a1.2; omega⟩
  have sA2 : mS A2 x = .inl 1 := by rw [u2.1.s, (x1.2 x a1.2).1]; exact a2
  obtain ⟨A3, g3, k3, l3, s3, r3, ro3, ra3, I3, L3⟩ := pR_ok (γ := Unit × xM) (x := x) (r := M.1) (j := 0) xA2 sA2 (by decide) (by decide)
  have v3 : ∀ a j, iV A3 a j = iV A2 a j := fun a j => by
    unfold iV
    rw [I3]
  have aM := a1.2
  have AM := a6.2
  have k2 : A2.1 = M.1 + 1 := by rw [u2.1.1, k1]
  have at2 : ∀ j, iV A2 M.1 j = if j < n then iV M A j else 0 := fun j => by
    rw [e2, iV_cB]
    by_cases q : j < n
    · rw [if_pos q, if_pos ⟨by omega, by omega⟩]
      show iV A1 A ((0 : Int).toNat + (j - (0 : Int).toNat)) = _
      rw [show (0 : Int).toNat + (j - (0 : Int).toNat) = j by omega]
      exact x1.i AM
    · rw [if_neg q, if_neg (by omega), z1]
  have old : ∀ a j, a < M.1 → iV A3 a j = iV M a j := fun a j ha => by rw [v3, u2.i (by (try dsimp only); omega), x1.i ha]
  refine ⟨M.1, ((n : Int) + w).toNat, A3, by rw [co, xcl_e, g3], ⟨⟨by omega, by omega⟩, by rw [s3]; exact sA2, r3, by rw [old _ _ aM]; exact a4, by rw [old _ _ aM]; exact a5, ⟨by omega, by omega⟩, by rw [s3, u2.1.s]; exact s1, by omega, by omega, fun j hj => ?_, a11, fun j hj => ?_⟩, by omega, by omega, ⟨by omega, fun a ha => ?_, fun a ha p => ?_⟩, Or.inr ⟨by omega, by omega⟩, by omega, by omega, ?_, by omega⟩
  · rw [v3, at2, if_pos (by omega)]
    exact a10 j hj
  · rw [v3, at2]
    split
    · exact a12 j (by omega)
    · omega
  · rw [s3, u2.1.s, (x1.2 a ha).1]
  · have q2 := u2.2 a (by (try dsimp only); omega)
    have q1 := x1.2 a ha
    rw [I3, L3, q2.1, q2.2, ra3 a p.1, u2.1.r, q1.2.1, q1.2.2.1, q1.2.2.2]
    exact ⟨rfl, rfl, rfl⟩
  · rw [l3, u2.1.2.1, l1]
    omega
theorem gd_app {j : Nat} : (L ++ L2).getD j 0 = if j < L.length then L.getD j 0 else L2.getD (j - L.length) 0 := by
  by_cases q : j < L.length
  · rw [if_pos q, List.getD_eq_getElem?_getD, List.getD_eq_getElem?_getD, List.getElem?_append_left q]
  · rw [if_neg q, List.getD_eq_getElem?_getD, List.getD_eq_getElem?_getD, List.getElem?_append_right (by omega)]
/-- a string is put behind what the builder holds -/
theorem app_ok (h : BD M x A n L) (hs : SG O M s L2) (sA : s + 1 ≠ A) (hM : M.1 ≤ 300000000) (n2 : n ≤ 1000) (m1 : L.length + L2.length ≤ 300) : ∃ A' n' N, f_StringBuilder_append_256 O f x s M = some (x, N) ∧ BD N x A' n' (L ++ L2) ∧ n' ≤ max n 600 ∧ BG M N x A A' n n' := by
  have hc := h.2.2.2.2.1
  obtain ⟨A', n', E, eE, bE, m2, n3, gE⟩ := ens_ok (O := O) (f := f) (m := (L.length : Int) + (L2.length : Int)) h hM n2 (by omega) (by omega)
  obtain ⟨kE, rA, k1, k2, k3, k4⟩ := gE
  have lt := hs.lt
  have hx := h.1.2
  have hA := h.2.2.2.2.2.1.2
  -- the string stays
  have sx : s ≠ x := fun e => by
    obtain ⟨⟨fs, e1, -⟩, -⟩ := hs
    have hx2 : x < (hp M).1 := hx
    unfold xrd at e1
    rw [e, if_pos h.1.1, if_pos hx2, hp_cell, h.2.1] at e1
    cases e1
  have sx2 : s + 1 ≠ x := fun e => by
    obtain ⟨-, ⟨g, e1, -⟩, -⟩ := hs
    have hx2 : x < (hp M).1 := hx
    unfold xrd at e1
    rw [e, if_pos h.1.1, if_pos hx2, hp_cell, h.2.1] at e1
    cases e1
  have sA2 : s ≠ A := fun e => by
    obtain ⟨⟨fs, e1, -⟩, -⟩ := hs
    rw [e, xrd_new h.2.2.2.2.2.1 h.2.2.2.2.2.2.1] at e1
    cases e1
  have sE : SG O E s L2 := hs.kq kE (fun _ => ⟨⟨sx, sA2⟩, ⟨sx2, sA⟩⟩)
  have ltE := sE.lt
  have l2 := hs.2.2.2.1
  have bE' := bE
  obtain ⟨a1, a2, a3, a4, a5, a6, a7, a8, a9, a10, a11, a12⟩ := bE'
  obtain ⟨-, ⟨g, eg, vg⟩, cg, -, -⟩ := sE
  -- the bytes
  obtain ⟨G, eG⟩ : ∃ G, G = msI E A' (va_cpy g (mI E A') (0 : Int).toNat (L.length : Int).toNat (L2.length : Int).toNat) := ⟨_, rfl⟩
  have uG : Un (fun a => a ≠ A') E G := by rw [eG]; exact un_cB
  have cp : ∀ {B : xM → Option (Unit × xM)}, (cpJ O E (s + 1) 0 A' (L.length : Int) (L2.length : Int)).bind B = B G := fun {B} => by
    rw [eG]
    exact z_cB eg a6 a7 (by omega) (by omega) (by omega) (by omega) (by omega) (by omega) (by omega) (fun j hj => by
      rw [show (0 : Int).toNat + j = j by omega, vg j (by omega)]
      have := cg _ (getD_mem (show j < L2.length by omega))
      omega)
  have xG : inM G x := uG.1.inM a1
  have tG : mS G x = .inl 1 := by rw [uG.1.s]; exact a2
  have neE := bE.ne
  have cG : iV G x 3 = L.length := by rw [uG.i (by (try dsimp only); exact neE)]; exact a5
  obtain ⟨K, eK⟩ : ∃ K, K = iS G x 3 ((L.length : Int) + (L2.length : Int)) := ⟨_, rfl⟩
  have uK : Un (fun a => a ≠ x) G K := by rw [eK]; exact Un.rf.iS (fun q => q rfl)
  have sE2 : SG O E s L2 := hs.kq kE (fun _ => ⟨⟨sx, sA2⟩, ⟨sx2, sA⟩⟩)
  have row : ∀ j : Nat, iV K A' j = if L.length ≤ j ∧ j < L.length + L2.length then L2.getD (j - L.length) 0 else iV E A' j := fun j => by
    rw [uK.i (by (try dsimp only); exact fun z => neE z.symm), eG, iV_cB]
    by_cases q : L.length ≤ j ∧ j < L.length + L2.length
    · rw [if_pos q, if_pos ⟨by omega, by omega⟩, show (0 : Int).toNat + (j - (L.length : Int).toNat) = j - L.length by omega]
      exact vg _ (by omega)
    · rw [if_neg q, if_neg (by omega)]
  have put : f_AbstractStringBuilder_putStringAt O f x (L.length : Int) s E = some ((), G) := by
    unfold f_AbstractStringBuilder_putStringAt f_AbstractStringBuilder_inflateIfNeededFor
    rw [bE.is, eq_F (by omega) (by omega) (by omega) (by omega) (by omega), bE.co, sE2.is, coder_ok sE2, xcl_e, eq_T rfl, xcl_e, bE.v, bE.co, sE2.is]
    unfold f_String_getBytes
    rw [sE2.is, coder_ok sE2, xcl_e, eq_T rfl, sE2.gR, sE2.gR, sE2.aN, jshl0 (by omega) (by omega), cp, xcl_e]
  have kF : Kq (fun a => a ≠ x ∧ a ≠ A) M K := ⟨by rw [uK.1.1, uG.1.1]; omega, fun a ha => by rw [uK.1.s, uG.1.s]; exact kE.2.1 a ha, fun a ha p => by
    have q0 := kE.2.2 a ha p
    have q1 := uG.2 a (by (try dsimp only); omega)
    have q2 := uK.2 a p.1
    rw [q2.1, q2.2, q1.1, q1.2, uK.1.r, uG.1.r]
    exact q0⟩
  refine ⟨A', n', K, ?_, ⟨uK.1.inM xG, by rw [uK.1.s]; exact tG, by rw [uK.1.r, uG.1.r]; exact a3, ?_, ?_, uK.1.inM (uG.1.inM a6), by rw [uK.1.s, uG.1.s]; exact a7, by rw [List.length_append]; omega, a9, fun j hj => ?_, fun y hy => ?_, fun j hj => ?_⟩, by omega, ⟨kF, by rw [uK.1.1, uG.1.1]; exact rA, by rw [uK.1.1, uG.1.1]; omega, by rw [uK.1.1, uG.1.1]; omega, by rw [uK.1.2.1, uG.1.2.1]; omega, k4⟩⟩
  · unfold f_StringBuilder_append_256 f_AbstractStringBuilder_append_257
    rw [h.is, hs.is, length_ok hs, xcl_e, h.ct, h.is, eE, xcl_e, bE.ct, bE.is, put, xcl_e, z_gJ xG tG (by decide) (by decide), cG, z_pJ xG tG (by decide) (by decide) rfl, ← eK, xcl_e]
  · rw [eK, iV_o (by omega), uG.i (by (try dsimp only); exact neE)]
    exact a4
  · rw [eK, iV_s (by omega) (by omega), List.length_append]
    omega
  · rw [List.length_append] at hj
    rw [row, gd_app]
    by_cases q : j < L.length
    · rw [if_neg (by omega), if_pos q]
      exact a10 j q
    · rw [if_pos ⟨by omega, by omega⟩, if_neg q]
  · rcases List.mem_append.mp hy with z | z
    · exact a11 y z
    · exact cg y z
  · rw [row]
    split
    · next q =>
      have := cg _ (getD_mem (show j - L.length < L2.length by omega))
      omega
    · exact a12 j hj
end APD
end
/-! draft 685.tostring -/
section
/-! ===== a builder's string ===== -/
section TOS
variable {O : Nat → Option va_E} {f s x A n : Nat} {M N : xM} {L L2 : List Int} {m : Int} {γ : Type}
/-- a string of new cells -/
theorem sg_new (hb : inM N s) (hs : mS N s = .inl 0) (hr : mR N s 0 = some (s + 1)) (hc : iV N s 1 = 0) (hb2 : inM N (s + 1)) (hs2 : mS N (s + 1) = .inr (3, L.length)) (hv : ∀ j : Nat, j < L.length → iV N (s + 1) j = L.getD j 0) (ha : ∀ y, y ∈ L → 0 ≤ y ∧ y ≤ 127) (hl : L.length ≤ 1000) : SG O N s L := by
  have k1 : s < (hp N).1 := hb.2
  have hc0 : mI N s 1 = 0 := by
    have q : (mI N s 1).toInt = 0 := hc
    exact Int32.toInt_inj.mp q
  refine ⟨⟨_, by unfold xrd; rw [if_pos hb.1, if_pos k1, hp_cell, hs]; rfl, ?_, ?_⟩, ⟨mI N (s + 1), xrd_new hb2 hs2, hv⟩, ha, hl, Or.inl hb2.1⟩
  · simp only [List.getElem?_map, List.getElem?_range (show 0 < xNf 0 by decide), Option.map_some, xfv_R (show xkR (xTy 0 0) = true by decide), hr]
    rfl
  · simp only [List.getElem?_map, List.getElem?_range (show 1 < xNf 0 by decide), Option.map_some, xfv_I (show xkI (xTy 0 1) = true by decide), hc0]
/-- a row of bytes copied whole -/
theorem cl_ok (hb : inM M A) (hs : mS M A = .inr (3, n)) (fit : ∀ j : Nat, j < n → -128 ≤ iV M A j ∧ iV M A j ≤ 127) (hM : M.1 ≤ 400000000) : ∃ N, clX M A = some (M.1, N) ∧ Ex M N ∧ inM N M.1 ∧ mS N M.1 = .inr (3, n) ∧ (∀ j, iV N M.1 j = iV M A j) ∧ N.1 = M.1 + 1 ∧ N.2.1 = M.2.1 + n := by
  refine ⟨(M.1 + 1, M.2.1 + n, fun a => if a = M.1 then .inr (3, n) else mS M a, fun a => if a = M.1 then mI M A else mI M a, mL M, mR M), ?_, ⟨Nat.le_succ _, fun a ha => ⟨if_neg (by omega), if_neg (by omega), rfl, rfl⟩⟩, ⟨by omega, Nat.lt_succ_self _⟩, if_pos rfl, fun j => ?_, rfl, rfl⟩
  · unfold clX
    rw [hs]
    dsimp only
    rw [if_pos ⟨hb.1, hb.2, by omega, rfl, fun j hj => fit_b (fit j hj).1 (fit j hj).2⟩]
  · unfold iV
    show ((if M.1 = M.1 then mI M A else mI M M.1) j).toInt = _
    rw [if_pos rfl]
theorem toString_ok (h : BD M x A n L) (hM : M.1 ≤ 300000000) (hn : L.length ≤ 1000) : ∃ N, f_StringBuilder_toString O f x M = some (M.1, N) ∧ SG O N M.1 L ∧ Ex M N ∧ N.1 = M.1 + 2 ∧ N.2.1 = M.2.1 + (4 + L.length) := by
  obtain ⟨E, eE⟩ : ∃ E, E = mnew M (.inl 0) (xNf 0) := ⟨_, rfl⟩
  have g1 : nO M 0 = some (M.1, E) := by
    unfold nO
    rw [if_pos (by omega), eE]
  have xE : Ex M E := by rw [eE]; exact Ex.new
  have E1 : E.1 = M.1 + 1 := by rw [eE]; rfl
  have E2 : E.2.1 = M.2.1 + 4 := by rw [eE]; rfl
  have sE : mS E M.1 = .inl 0 := by rw [eE]; exact if_pos rfl
  have bE : inM E M.1 := ⟨by omega, by omega⟩
  have hE : BD E x A n L := h.kp xE.kp (P := fun _ => True) (by omega) trivial trivial
  have ne := h.ne
  have xl := h.1.2
  have Al := h.2.2.2.2.2.1.2
  obtain ⟨a1, a2, a3, a4, a5, a6, a7, a8, a9, a10, a11, a12⟩ := hE
  have hE : BD E x A n L := ⟨a1, a2, a3, a4, a5, a6, a7, a8, a9, a10, a11, a12⟩
  obtain ⟨G, eG⟩ : ∃ G, G = iS E M.1 1 0 := ⟨_, rfl⟩
  have uG : Un (fun a => a ≠ M.1) E G := by rw [eG]; exact Un.rf.iS (fun q => q rfl)
  have hG : BD G x A n L := hE.un uG (by (try dsimp only); omega) (by (try dsimp only); omega)
  have G1 : G.1 = M.1 + 1 := by rw [uG.1.1, E1]
  have bG : inM G M.1 := uG.1.inM bE
  have sG : mS G M.1 = .inl 0 := by rw [uG.1.s]; exact sE
  have b0 := hG
  obtain ⟨b1, b2, b3, b4, b5, b6, b7, b8, b9, b10, b11, b12⟩ := b0
  -- the bytes' own row
  have cr : ∃ K, f_Arrays_copyOfRange O f A 0 (L.length : Int) G = some (M.1 + 1, K) ∧ Ex G K ∧ inM K (M.1 + 1) ∧ mS K (M.1 + 1) = .inr (3, L.length) ∧ (∀ j : Nat, j < L.length → iV K (M.1 + 1) j = L.getD j 0) ∧ K.1 = M.1 + 2 ∧ K.2.1 = M.2.1 + (4 + L.length) := by
    unfold f_Arrays_copyOfRange
    rw [eq_T rfl, hG.aN]
    by_cases c : (L.length : Int) = n
    · obtain ⟨K, e1, xK, iK, sK, vK, k1, k2⟩ := cl_ok (M := G) b6 b7 b12 (by omega)
      have ck : ∀ {B : Unit → Option (Nat × xM)}, (ckB K G.1).bind B = B () := fun {B} => by
        unfold ckB
        rw [sK]
        dsimp only
        rw [if_pos ⟨iK.1, iK.2, rfl⟩]
        rfl
      rw [eq_T c, e1, xcl_e, ck, G1]
      rw [G1] at iK sK vK
      exact ⟨K, rfl, xK, iK, by rw [sK, show n = L.length by omega], fun j hj => by rw [vK, b10 j hj], by omega, by rw [k2, uG.1.2.1, E2]; omega⟩
    · rw [eq_F c (by omega) (by omega) (by omega) (by omega)]
      unfold f_Arrays_copyOfRange_10 f_Arrays_copyOfRangeByte f_Arrays_checkLength
      obtain ⟨K, e1, xK, iK, sK, vK, k1, k2⟩ := ba_new (M := G) (w := (L.length : Int) - 0) (by omega) (by omega) (by omega)
      have bA : inM K A := ⟨b6.1, by have := b6.2; omega⟩
      have tA : mS K A = .inr (3, n) := by rw [(xK.2 A b6.2).1]; exact b7
      obtain ⟨R, eR⟩ : ∃ R, R = msI K G.1 (va_cpy (mI K A) (mI K G.1) (0 : Int).toNat (0 : Int).toNat (L.length : Int).toNat) := ⟨_, rfl⟩
      have uR : Un (fun a => a ≠ G.1) K R := by rw [eR]; exact un_cB
      have cp : ∀ {B : xM → Option (Nat × xM)}, (cpJ O K A 0 G.1 0 (L.length : Int)).bind B = B R := fun {B} => by
        rw [eR]
        exact z_cB (xrd_new bA tA) iK sK (by omega) (by omega) (by omega) (by omega) (by omega) (by omega) (by omega) (fun j hj => by
          have := b12 j (by omega)
          have q : iV K A j = iV G A j := xK.i b6.2
          rw [show (0 : Int).toNat + j = j by omega]
          show -128 ≤ iV K A j ∧ iV K A j ≤ 127
          rw [q]
          exact this)
      rw [le_T (by omega) (by omega) (by omega), xcl_e, e1, xcl_e, z_aN bA tA (by decide) (by omega), xc_of (e_min (by omega) (by omega) (by omega) (by omega)), show min ((n : Int) - 0) ((L.length : Int) - 0) = (L.length : Int) by omega, cp, xcl_e]
      refine ⟨R, by rw [G1], ⟨by rw [uR.1.1]; exact xK.1, fun a ha => ?_⟩, by rw [← G1]; exact uR.1.inM iK, by rw [uR.1.s, ← G1, sK, show ((L.length : Int) - 0).toNat = L.length by omega], fun j hj => ?_, by rw [uR.1.1]; omega, by rw [uR.1.2.1, k2, uG.1.2.1, E2]; omega⟩
      · have q1 := xK.2 a ha
        have q2 := uR.2 a (by (try dsimp only); omega)
        rw [uR.1.s, uR.1.r, q2.1, q2.2]
        exact q1
      · rw [← G1, eR, iV_cB, if_pos ⟨by omega, by omega⟩]
        show iV K A ((0 : Int).toNat + (j - (0 : Int).toNat)) = _
        rw [show (0 : Int).toNat + (j - (0 : Int).toNat) = j by omega, xK.i b6.2, b10 j hj]
  obtain ⟨K, eK, xK, iK, sK, vK, k1, k2⟩ := cr
  have bK : inM K M.1 := ⟨by omega, by omega⟩
  have tK : mS K M.1 = .inl 0 := by rw [(xK.2 M.1 (by omega)).1]; exact sG
  obtain ⟨R, gR, n3, w3, s3, r3, ro3, ra3, I3, L3⟩ := pR_ok (γ := Unit × xM) (x := M.1) (r := M.1 + 1) (j := 0) bK tK (by decide) (by decide)
  have v3 : ∀ a j, iV R a j = iV K a j := fun a j => by
    unfold iV
    rw [I3]
  refine ⟨R, ?_, sg_new ⟨by omega, by omega⟩ (by rw [s3]; exact tK) r3 (by rw [v3, xK.i (by omega), eG, iV_s (by omega) (by omega)]) ⟨by omega, by omega⟩ (by rw [s3]; exact sK) (fun j hj => by rw [v3]; exact vK j hj) b11 hn, ⟨by omega, fun a ha => ?_⟩, by omega, by omega⟩
  · unfold f_StringBuilder_toString f_String_ctor_277 f_String_ctor_278 f_AbstractStringBuilder_getValue f_StringBuilder_length f_AbstractStringBuilder_length f_AbstractStringBuilder_isLatin1
    rw [g1, xcl_e, hE.is, hE.v, xcl_e, hE.is, hE.is, hE.ct, xcl_e, xcl_e, hE.is, eq_F (by omega) (by omega) (by omega) (by omega) (by omega), hE.co, eq_T rfl, xcl_e, eq_F (by omega) (by omega) (by omega) (by omega) (by omega), z_pJ bE sE (by decide) (by decide) (by decide), ← eG, eK, xcl_e, gR, xcl_e, xcl_e]
  · have q0 := xE.2 a ha
    have q1 := uG.2 a (by (try dsimp only); omega)
    have q2 := xK.2 a (by omega)
    rw [s3, I3, L3, ra3 a (by omega), q2.1, q2.2.1, q2.2.2.1, q2.2.2.2, uG.1.s, uG.1.r, q1.1, q1.2]
    exact q0
end TOS
end
/-! draft 686.digits -/
section
/-! ===== numbers written ===== -/
/-- the old rows of digits -/
def DGo (O : Nat → Option va_E) : Prop := ∃ g2 g3 : Nat → Int32, O 2 = some (.inl (3, 100, .inl g2)) ∧ O 3 = some (.inl (3, 100, .inl g3)) ∧ ∀ i : Nat, i < 100 → (g2 i).toInt = 48 + ((i / 10 : Nat) : Int) ∧ (g3 i).toInt = 48 + ((i % 10 : Nat) : Int)
/-- a number's signs -/
def dgs (v : Nat) : List Int := if v < 10 then [48 + (v : Int)] else if v < 100 then [48 + ((v / 10 : Nat) : Int), 48 + ((v % 10 : Nat) : Int)] else if v < 1000 then [48 + ((v / 100 : Nat) : Int), 48 + ((v / 10 % 10 : Nat) : Int), 48 + ((v % 10 : Nat) : Int)] else [48 + ((v / 1000 : Nat) : Int), 48 + ((v / 100 % 10 : Nat) : Int), 48 + ((v / 10 % 10 : Nat) : Int), 48 + ((v % 10 : Nat) : Int)]
section DGT
variable {O : Nat → Option va_E} {f s x A n k : Nat} {M N : xM} {L L2 : List Int} {i y : Int} {γ : Type}
theorem nar_b : ∀ n : Nat, n < 128 → vp_nar .byte (yw (n : Int)) = yw (n : Int) := by decide +kernel
theorem z_wB {B : xM → Option γ} (hb : inM M k) (hs : mS M k = .inr (3, n)) (h0 : 0 ≤ i) (h1 : i < n) (h2 : i ≤ 2147483647) (y0 : 0 ≤ y) (y1 : y ≤ 127) : (wJB M k i y).bind B = B (iS M k i.toNat y) := by
  obtain ⟨c, ec⟩ := Int.eq_ofNat_of_zero_le y0
  have q := nar_b c (by omega)
  have w2 : wX M k 2 (yw i) = false := by
    unfold wX
    rw [hs]
    simp
  have w3 : wX M k 3 (yw i) = true := by
    have e0 := ix_in h0 h1 ⟨by omega, h2⟩
    unfold wX
    rw [hs]
    dsimp only
    rw [decide_eq_true hb.1, decide_eq_true hb.2, decide_eq_true rfl, decide_eq_false (fun z => e0 (Or.inl z)), decide_eq_false (fun z => e0 (Or.inr z))]
    rfl
  unfold wJB wB
  rw [w2, w3, if_neg (by decide), if_pos rfl, ec, q, yw_nat ⟨by omega, h2⟩]
  rfl
theorem dgs_r {v : Nat} : ∀ z, z ∈ dgs v → v < 10000 → 48 ≤ z ∧ z ≤ 57 := by
  intro z hz hv
  unfold dgs at hz
  split at hz
  · simp only [List.mem_cons, List.not_mem_nil, or_false] at hz
    omega
  · split at hz
    · simp only [List.mem_cons, List.not_mem_nil, or_false] at hz
      omega
    · split at hz
      · simp only [List.mem_cons, List.not_mem_nil, or_false] at hz
        omega
      · simp only [List.mem_cons, List.not_mem_nil, or_false] at hz
        omega
theorem DGo.at (h : DGo O) {r : Int} (h0 : 0 ≤ r) (h1 : r < 100) : (∀ {B : Int → Option γ}, (aJB O M 1000000002 r).bind B = B (48 + r / 10)) ∧ (∀ {B : Int → Option γ}, (aJB O M 1000000003 r).bind B = B (48 + r % 10)) := by
  obtain ⟨g2, g3, e2, e3, v⟩ := h
  obtain ⟨v2, v3⟩ := v r.toNat (by omega)
  have x2 : xrd O (hp M) 1000000002 = some (.inl (3, 100, .inl g2)) := e2
  have x3 : xrd O (hp M) 1000000003 = some (.inl (3, 100, .inl g3)) := e3
  refine ⟨fun {B} => ?_, fun {B} => ?_⟩
  · rw [o_aJB x2 h0 (by omega) (by omega), v2]
    congr 1
    omega
  · rw [o_aJB x3 h0 (by omega) (by omega), v3]
    congr 1
    omega
/-- how many signs -/
theorem size_ok {v : Nat} (hv : v < 10000) (hf : 10 ≤ f) : f_Integer_stringSize O f (v : Int) M = some (((dgs v).length : Int), M) := by
  obtain ⟨t, rfl⟩ : ∃ t, f = t + 1 + 1 + 1 + 1 := ⟨f - 4, by omega⟩
  unfold f_Integer_stringSize f_Integer_stringSize_11
  rw [lt_F (by omega) (by omega) (by omega)]
  show (if yw 10 ≤ yw 1 then _ else if yw (-(v : Int)) ≤ yw (-10) then _ else _) = _
  rw [le_F (by omega) (by omega) (by omega)]
  unfold dgs
  by_cases c1 : v < 10
  · rw [if_pos c1, le_F (by omega) (by omega) (by omega)]
    rfl
  rw [if_neg c1, le_T (by omega) (by omega) (by omega)]
  show (if yw 10 ≤ yw (1 + 1) then _ else if yw (-(v : Int)) ≤ yw (10 * -10) then _ else _) = _
  rw [le_F (by omega) (by omega) (by omega)]
  by_cases c2 : v < 100
  · rw [if_pos c2, le_F (by omega) (by omega) (by omega)]
    rfl
  rw [if_neg c2, le_T (by omega) (by omega) (by omega)]
  show (if yw 10 ≤ yw (1 + 1 + 1) then _ else if yw (-(v : Int)) ≤ yw (10 * (10 * -10)) then _ else _) = _
  rw [le_F (by omega) (by omega) (by omega)]
  by_cases c3 : v < 1000
  · rw [if_pos c3, le_F (by omega) (by omega) (by omega)]
    rfl
  rw [if_neg c3, le_T (by omega) (by omega) (by omega)]
  show (if yw 10 ≤ yw (1 + 1 + 1 + 1) then _ else if yw (-(v : Int)) ≤ yw (10 * (10 * (10 * -10))) then _ else _) = _
  rw [le_F (by omega) (by omega) (by omega), le_F (by omega) (by omega) (by omega)]
  rfl
end DGT
end
