/-! draft 572.arerung -/
section
/-! ===== the law of rings ===== -/
def cnF (p : Int → Bool) (L : List Int) : Nat → Nat
  | 0 => 0
  | n + 1 => cnF p L n + (if p (L.getD n 0) = true then 1 else 0)
theorem cnF_cons {p : Int → Bool} {a : Int} {l : List Int} : ∀ n, cnF p (a :: l) (n + 1) = (if p a = true then 1 else 0) + cnF p l n
  | 0 => by
    show 0 + (if p a = true then 1 else 0) = _
    unfold cnF
    omega
  | n + 1 => by
    have h := cnF_cons (p := p) (a := a) (l := l) n
    show cnF p (a :: l) (n + 1) + (if p (l.getD n 0) = true then 1 else 0) = _
    rw [h]
    show _ = _ + (cnF p l n + (if p (l.getD n 0) = true then 1 else 0))
    omega
theorem cnF_all {p : Int → Bool} : ∀ L : List Int, cnF p L L.length = (L.filter p).length
  | [] => rfl
  | a :: l => by
    have h := cnF_all (p := p) l
    rw [List.length_cons, cnF_cons, h]
    by_cases q : p a = true
    · rw [if_pos q, List.filter_cons_of_pos q, List.length_cons]
      omega
    · rw [if_neg q, List.filter_cons_of_neg q]
      omega
def sumN (a : Nat → Nat) : Nat → Nat
  | 0 => 0
  | n + 1 => sumN a n + a n
theorem sumN_of {a b : Nat → Nat} : ∀ n, (∀ i, i < n → a i = b i) → sumN a n = sumN b n
  | 0, _ => rfl
  | n + 1, h => by
    unfold sumN
    rw [sumN_of n (fun i hi => h i (by omega)), h n (by omega)]
theorem sumN_one {c : Nat} {n : Nat} (h : c < n) : sumN (fun j => if j = c then 1 else 0) n = 1 := by
  induction n with
  | zero => exact absurd h (Nat.not_lt_zero _)
  | succ n ih =>
    unfold sumN
    by_cases z : n = c
    · subst z
      have : ∀ m, m ≤ n → sumN (fun j => if j = n then 1 else 0) m = 0 := by
        intro m
        induction m with
        | zero => intro _; rfl
        | succ m im =>
          intro hm
          unfold sumN
          rw [im (by omega), if_neg (by omega)]
      rw [this n (Nat.le_refl _), if_pos rfl]
    · rw [ih (by omega), if_neg z]
theorem sumN_add {a b : Nat → Nat} : ∀ n, sumN (fun j => a j + b j) n = sumN a n + sumN b n
  | 0 => rfl
  | n + 1 => by
    unfold sumN
    rw [sumN_add n]
    omega
/-- rows by their numbers -/
theorem split_len {m : Nat} : ∀ L : List Int, (∀ x, x ∈ L → rN x < m) → sumN (fun j => (L.filter (fun x => decide (rN x = (j : Int)))).length) m = L.length
  | [], _ => by
    have : ∀ n, sumN (fun _ => 0) n = 0 := by
      intro n
      induction n with
      | zero => rfl
      | succ n ih => unfold sumN; rw [ih]
    exact this m
  | a :: l, h => by
    have ih := split_len l (fun x hx => h x (List.mem_cons_of_mem _ hx))
    have ha := h a List.mem_cons_self
    have h0 : 0 ≤ rN a := Int.emod_nonneg _ (by decide)
    have e : ∀ j : Nat, ((a :: l).filter (fun x => decide (rN x = (j : Int)))).length = (if j = (rN a).toNat then 1 else 0) + (l.filter (fun x => decide (rN x = (j : Int)))).length := by
      intro j
      by_cases q : rN a = (j : Int)
      · rw [List.filter_cons_of_pos (by exact decide_eq_true q), List.length_cons, if_pos (by omega)]
        omega
      · rw [List.filter_cons_of_neg (by rw [decide_eq_true_eq]; exact q), if_neg (by omega)]
        omega
    rw [sumN_of m (fun j _ => e j), sumN_add, ih, sumN_one (by omega), List.length_cons]
    omega
section ARU
variable {O : Nat → Option va_E} {f k m rc n : Nat} {M N : xM} {w fd T : Int} {L : List Int}
theorem e_now (h : Wd M) : f_Calendarhall_now O f 1 M = some (iV M 2 5, M) := by
  unfold f_Calendarhall_now
  rw [a_Cal_hall h, a_Hall_clock h]
theorem c_now (h : Wd M) {δ : Type} {A : _ → xM → Option δ} : xcl (f_Calendarhall_now O f 1 M) A = A (iV M 2 5) (M) := xc_of (e_now h) A
theorem e_rings (h : Wd M) : f_Calendarhall_rings O f 1 M = some (iV M 2 9, M) := by
  unfold f_Calendarhall_rings
  rw [a_Cal_hall h, a_Hall_ringCount h]
theorem c_rings (h : Wd M) {δ : Type} {A : _ → xM → Option δ} : xcl (f_Calendarhall_rings O f 1 M) A = A (iV M 2 9) (M) := xc_of (e_rings h) A
theorem e_ringAt {i wh : Int} (h : Wd M) (i0 : 0 ≤ i) (i1 : i < iV M 2 9) (g : iV M 2 9 ≤ 30) (x0 : 0 ≤ lV M 10 i.toNat) (x1 : lV M 10 i.toNat < 9000000000000000) (hw : wh = 0 ∨ wh = 1 ∨ wh = 2) : f_Calendarhall_ringAt O f 1 i wh M = some ((if wh = 0 then rN (lV M 10 i.toNat) else if wh = 1 then rD (lV M 10 i.toNat) else rM (lV M 10 i.toNat)), M) := by
  have rg : f_Hall_ringNumbered O f 2 i M = some (lV M 10 i.toNat, M) := by
    unfold f_Hall_ringNumbered
    rw [lt_F i0 (by omega) (by omega), a_Hall_rings h, n_Hall_rings h, le_F (by omega) (by omega) (by omega), a_Hall_rings h, r_Hall_rings h i0 (by omega)]
  unfold f_Calendarhall_ringAt
  rw [lt_F i0 (by omega) (by omega), a_Cal_hall h, a_Hall_ringCount h, lt_T i1 (by omega) (by omega), c_needRange (by omega) (by omega) (by omega) (by omega), a_Cal_hall h, a_Hall_is h, rg, xcl_e]
  rcases hw with rfl | rfl | rfl
  · rw [eq_T rfl, xc_of (e_numberOf x0 x1), if_pos rfl]
  · rw [eq_F (by omega) (by omega) (by omega) (by omega) (by omega), eq_T rfl, xc_of (e_dayIn x0 x1), if_neg (by omega), if_pos rfl]
  · rw [eq_F (by omega) (by omega) (by omega) (by omega) (by omega), eq_F (by omega) (by omega) (by omega) (by omega) (by omega), eq_T rfl, xc_of (e_minuteOf x0 x1), if_neg (by omega), if_neg (by omega)]
theorem c_ringAt {i wh : Int} (h : Wd M) (i0 : 0 ≤ i) (i1 : i < iV M 2 9) (g : iV M 2 9 ≤ 30) (x0 : 0 ≤ lV M 10 i.toNat) (x1 : lV M 10 i.toNat < 9000000000000000) (hw : wh = 0 ∨ wh = 1 ∨ wh = 2) {δ : Type} {A : _ → xM → Option δ} : xcl (f_Calendarhall_ringAt O f 1 i wh M) A = A ((if wh = 0 then rN (lV M 10 i.toNat) else if wh = 1 then rD (lV M 10 i.toNat) else rM (lV M 10 i.toNat))) (M) := xc_of (e_ringAt h i0 i1 g x0 x1 hw) A
/-- days lie not far behind their begins -/
theorem hcov_ok {d : Int} (h : SR M m fd) (hm : m ≤ 12) (hk : k < m) (hd : D01 (iV M (30 + 6 * k)) d) (hb : bg M k d ≠ -1) : 1440 * d ≤ bg M k d + 5280 := by
  have s := h.2.2.1 k hk
  have hzl : zk M k < 3 := by have := s.1.2.1; unfold zk; omega
  have zv := h.2.1 _ hzl
  by_cases z : exO M k d = -1
  · have eb : bg M k d = C0 M k d := if_pos z
    have cr := C0_r (d := d) s.1 zv
    have zv' := zv
    obtain ⟨o0, o1, s0, s1, -, -⟩ := zv'
    have := s.1.2.2.1
    omega
  · obtain ⟨y0, y1, y2⟩ := exO_r s.1.2.2.2.2.2.2.1.1 z
    have eb0 : bg M k d = if iV M (32 + 6 * k) (exO M k d).toNat = -1 then -1 else com M (zk M k) (iV M (32 + 6 * k) (exO M k d).toNat) := if_neg z
    by_cases y3 : iV M (32 + 6 * k) (exO M k d).toNat = -1
    · rw [if_pos y3] at eb0
      exact absurd eb0 hb
    · rw [if_neg y3] at eb0
      have q := (s.2.2.2.1 (exO M k d).toNat (by omega)).2 y3
      rw [y2] at q
      have := com_r (k := zk M k) (l := iV M (32 + 6 * k) (exO M k d).toNat) zv
      omega
/-- where the turns stand -/
def Rs (M : xM) (m rc : Nat) : Prop := SR M m 11 ∧ RM M rc m ∧ Ar 1044 rc M ∧ Ar 1045 rc M ∧ (∀ j : Nat, j < rc → iV M 1044 j = iV M 8 j ∧ iV M 1045 j = iV M 9 j) ∧ (14400 ≤ iV M 2 5 ∧ 0 ≤ iV M 2 9 ∧ iV M 2 9 ≤ 30 ∧ iV M 2 11 = 0)
theorem Rs.kp {P : Nat → Prop} (h : Rs M m rc) (hm : m ≤ 12) (u : Kp P M N) (hb : N.1 ≤ 500000000) (p : ∀ a, 1 ≤ a → a < 116 → P a) (p2 : P 1044 ∧ P 1045) : Rs N m rc := by
  obtain ⟨a, b, c, d, e, g⟩ := h
  have hM := a.1.1.1
  have hv : ∀ x j, 1 ≤ x → x < 116 → iV N x j = iV M x j := fun x j h1 h2 => u.i (by omega) (p x h1 h2)
  refine ⟨a.kp hm u (a.1.kp u hb (p 1 (by omega) (by omega)) (fun j hj => p _ (by omega) (by omega))) (fun x h1 h2 => p x (by omega) (by omega)), b.of (fun j => hv 8 j (by omega) (by omega)) (fun j => hv 9 j (by omega) (by omega)), c.kp u hb, d.kp u hb, fun j hj => ?_, ?_⟩
  · rw [u.i c.1 p2.1, u.i d.1 p2.2, hv 8 _ (by omega) (by omega), hv 9 _ (by omega) (by omega)]
    exact e j hj
  · rw [hv 2 _ (by omega) (by omega), hv 2 _ (by omega) (by omega), hv 2 _ (by omega) (by omega)]
    exact g
/-- the next ring of the first reminder -/
def nxR (M : xM) (x : Int) : Prop := ∀ d, D01 (iV M (30 + 6 * (iV M 8 0).toNat)) d → bg M (iV M 8 0).toNat d ≠ -1 → iV M 2 5 + 1 + iV M 9 0 ≤ bg M (iV M 8 0).toNat d → x ≠ -1 ∧ x ≤ bg M (iV M 8 0).toNat d - iV M 9 0
theorem nextRing_ok (h : Rs M m rc) (hm : m ≤ 12) (hrc : 1 ≤ rc) (c1 : iV M 2 5 ≤ 1000000) (hf : 2000 ≤ f) : ∃ x, f_Calendarhall_nextRing O f 1 0 M = some (x, M) ∧ nxR M x ∧ -1 ≤ x ∧ x ≤ 1000000000 := by
  obtain ⟨hs, hr, -, -, -, c0, -, -, -⟩ := h
  have hw := hs.1.1
  obtain ⟨q0, q1, q2, q3⟩ := hr.2.1 0 (by omega)
  obtain ⟨k, ek⟩ : ∃ k, k = (iV M 8 0).toNat := ⟨_, rfl⟩
  have hk : k < m := by omega
  have ss := hs.2.2.1 k hk
  have HSs := hs.hs (O := O) (f := f)
  obtain ⟨zl, zv⟩ := HSs.zko (k := k) (by omega) ss.1.1
  obtain ⟨sv, nx, ex⟩ := HSs.there (k := k) (by omega) ss.1.1
  obtain ⟨y, ey, hy⟩ := firstRow_ok (O := O) (f := f) (c := iV M 2 5 + 1 + iV M 9 0) hw (by omega) sv zv nx ex (by omega) (by omega) hf
  have isr : f_Hall_isReminder O f 2 0 M = some (1, M) := by
    have r0 : ∀ {A : Int → Option (Int × xM)}, (aJ O M 8 0).bind A = A (iV M 8 0) := r_Hall_reminderSeries hw (by decide) (by decide)
    unfold f_Hall_isReminder
    rw [lt_F (by omega) (by omega) (by omega), a_Hall_reminderSeries hw, n_Hall_reminderSeries hw, le_F (by omega) (by omega) (by omega), a_Hall_reminderSeries hw, r0, eq_F (by omega) (by omega) (by omega) (by omega) (by omega)]
  have any : f_Hall_anySeries O f 2 (iV M 8 0) M = some (29 + 6 * k, M) := by
    have q := e_anySeries (O := O) (f := f) (i := iV M 8 0) hw q0 (by omega)
    rw [← ek] at q
    exact q
  have zz := e_zoneOf (O := O) (f := f) (k := k) hw (by omega) ss.1.2.1.1 ss.1.2.1.2
  have body : f_Calendarhall_nextRing O f 1 0 M = if yw (kcmp y (-1)) = yw 0 then some (-1, M) else xcl (f_Dates_minuteOf O f y M) fun x13 M5 => some (x13 - iV M 9 0, M5) := by
    have r0 : ∀ {A : Int → Option (Int × xM)}, (aJ O M 8 0).bind A = A (iV M 8 0) := r_Hall_reminderSeries hw (by decide) (by decide)
    have r9 : ∀ {A : Int → Option (Int × xM)}, (aJ O M 9 0).bind A = A (iV M 9 0) := r_Hall_reminderAheads hw (by decide) (by decide)
    have rb : f_Hall_ringBehindClock O f 2 0 M = if yw (kcmp y (-1)) = yw 0 then some (-1, M) else xcl (f_Dates_minuteOf O f y M) fun x13 M5 => some (x13 - iV M 9 0, M5) := by
      unfold f_Hall_ringBehindClock
      rw [a_Hall_is hw, isr, xcl_e, eq_F (by omega) (by omega) (by omega) (by omega) (by omega), a_Hall_reminderAheads hw, n_Hall_reminderAheads hw, lt_T (by omega) (by omega) (by omega), a_Hall_reminderSeries hw, r0, a_Hall_is hw, any, xcl_e, a_Series_isThere hw (by omega), ss.1.1, eq_F (by omega) (by omega) (by omega) (by omega) (by omega), a_Hall_reminderAheads hw, r9, a_Hall_is hw, zz, xcl_e, a_Hall_clock hw, a_Series_is hw (by omega), ey, xcl_e]
    unfold f_Calendarhall_nextRing
    rw [a_Cal_hall hw, a_Hall_is hw, isr, xcl_e, eq_F (by omega) (by omega) (by omega) (by omega) (by omega), a_Cal_hall hw, a_Hall_is hw, rb]
    by_cases g : yw (kcmp y (-1)) = yw 0
    · rw [if_pos g, xcl_e]
    · rw [if_neg g]
      show xcl (xcl (some _) _) _ = xcl (some _) _
      rfl
  rw [body]
  rcases hy with ⟨rfl, q⟩ | ⟨d, hd, hb, hc, he, hmin⟩
  · have : kcmp (-1) (-1) = 0 := by decide
    rw [this, eq_T rfl]
    refine ⟨-1, rfl, fun d hd hb hc => ?_, by omega, by omega⟩
    rw [← ek] at hd hb hc
    have := q d hd hb
    omega
  · have hd2 := nx.1 d hd
    have bmax : bg M k d ≤ 400000000 := by
      unfold bg
      split
      · have := com_r (k := zk M k) (l := d * 1440 + iV M (29 + 6 * k) 2) zv
        have := sv.2.2.1
        omega
      · next g5 =>
        obtain ⟨y0, y1, y2⟩ := exO_r sv.2.2.2.2.2.2.1.1 g5
        split
        · omega
        · next g6 =>
          have := (sv.2.2.2.2.2.2.2.1 (exO M k d).toNat (by omega)).2.resolve_left g6
          have := com_r (k := zk M k) (l := iV M (32 + 6 * k) (exO M k d).toNat) zv
          omega
    have rr := rw_r (m := bg M k d) (n := 0) (d := d) (by omega) (by omega) (by omega) (by omega) (by omega) (by omega)
    have rm := rM_e (m := bg M k d) (n := 0) (d := d) (by omega) (by omega) (by omega) (by omega)
    have : kcmp y (-1) = 1 := kcmp_T (by omega) (by omega) (by omega)
    rw [this, eq_F (by omega) (by omega) (by omega) (by omega) (by omega), xc_of (e_minuteOf (by omega) (by omega)), he, rm]
    refine ⟨_, rfl, fun e h1 h2 h3 => ?_, by omega, by omega⟩
    rw [← ek] at h1 h2 h3 ⊢
    have h4 := hmin e h1 h2 h3
    have he2 := nx.1 e h1
    rw [he] at h4
    unfold rw' at h4
    omega
/-- the law counts those of a reminder's series -/
theorem ru_194 {K : Nat → Nat → Int → Int → Nat → Nat → Int → Int → Int → Int → Int → Int → xM → Option (Int × xM)} {all v6 v7 v8 v9 : Int} {q : Nat} (a4 : Ar 1044 rc M) (a5 : Ar 1045 rc M) (hq : q < rc) (hs : LTs n M) (hv : LTv n M L) (hl : L.length < 300) (hof : ∀ j, j < rc → -2147483648 ≤ iV M 1044 j) (h0 : q = 0 → ∀ x, x ∈ L → rN x = iV M 1044 0 → v9 ≠ -1 ∧ v9 ≤ rM x - iV M 1045 0 ∧ rM x - iV M 1045 0 ≤ 2147483647) (h9 : -1 ≤ v9) (h91 : v9 ≤ 2147483647) : ∀ (r t i : Nat) (c : Int), i + r = L.length → r < t → f_Law_areRung_194 O f K t 1 0 all (rc : Int) 1044 1045 v6 v7 v8 v9 (c + cnF (fun x => decide (rN x = iV M 1044 q)) L i) (q : Int) n (i : Int) M = K 1 0 all (rc : Int) 1044 1045 v6 v7 v8 v9 (c + cnF (fun x => decide (rN x = iV M 1044 q)) L L.length) ((q : Int) + 1) M := by
  intro r
  induction r with
  | zero =>
    intro t i c hi h2
    obtain ⟨t, rfl⟩ : ∃ n', t = n' + 1 := ⟨t - 1, by omega⟩
    obtain rfl : i = L.length := by omega
    show (gJ O M n 13 4).bind _ = _
    rw [hs.gJ, hv.1, le_T (by omega) (by omega) (by omega)]
  | succ r ih =>
    intro t i c hi h2
    obtain ⟨t, rfl⟩ : ∃ n', t = n' + 1 := ⟨t - 1, by omega⟩
    obtain ⟨l1, l2, l3, l4⟩ := hv.2.2 i (by omega)
    have iz : ((i : Int)).toNat = i := by omega
    have qz : ((q : Int)).toNat = q := by omega
    have l1' : iV M (n + 1 + 0) i = rN (L.getD i 0) := l1
    have l3' : iV M (n + 1 + 2) i = rM (L.getD i 0) := l3
    have hN0 : 0 ≤ rN (L.getD i 0) ∧ rN (L.getD i 0) < 16 := ⟨Int.emod_nonneg _ (by decide), Int.emod_lt_of_pos _ (by decide)⟩
    have oq := iV_r M 1044 q
    have o0 := iV_r M 1044 0
    have nxt := ih t (i + 1) c (by omega) (by omega)
    rw [show ((i + 1 : Nat) : Int) = (i : Int) + 1 by omega] at nxt
    have t227 : ∀ s1 : Int, (c + cnF (fun x => decide (rN x = iV M 1044 q)) L i) + s1 = c + cnF (fun x => decide (rN x = iV M 1044 q)) L (i + 1) → f_Law_areRung_227 O f (f_Law_areRung_194 O f K t) 1 0 all (rc : Int) 1044 1045 v6 v7 v8 v9 (q : Int) n (i : Int) (c + cnF (fun x => decide (rN x = iV M 1044 q)) L i) s1 M = K 1 0 all (rc : Int) 1044 1045 v6 v7 v8 v9 (c + cnF (fun x => decide (rN x = iV M 1044 q)) L L.length) ((q : Int) + 1) M := by
      intro s1 es
      unfold f_Law_areRung_227
      rw [es]
      by_cases g : q = 0
      · have x40 : ∀ {A : Int → Option (Int × xM)}, (aJ O M 1044 0).bind A = A (iV M 1044 0) := a4.aJ (by decide) (by omega)
        have x50 : ∀ {A : Int → Option (Int × xM)}, (aJ O M 1045 0).bind A = A (iV M 1045 0) := a5.aJ (by decide) (by omega)
        rw [eq_T (a := (q : Int)) (by omega), hs.gR (j := 0) (by decide), hs.aJ (j := 0) (by decide) (by omega) (by omega), iz, l1', x40]
        by_cases g2 : rN (L.getD i 0) = iV M 1044 0
        · obtain ⟨z1, z2, z3⟩ := h0 g _ (getD_mem (show i < L.length by omega)) g2
          rw [eq_T g2, eq_F z1 (by omega) (by omega) (by omega) (by omega), hs.gR (j := 2) (by decide), hs.aJ (j := 2) (by decide) (by omega) (by omega), iz, l3', x50, le_T z2 (by omega) (by omega)]
          exact nxt
        · rw [eq_F g2 (by omega) (by omega) (by omega) (by omega)]
          exact nxt
      · rw [eq_F (a := (q : Int)) (by omega) (by have := a4.2.2.2; omega) (by have := a4.2.2.2; omega) (by omega) (by omega)]
        exact nxt
    show (gJ O M n 13 4).bind _ = _
    rw [hs.gJ, hv.1, le_F (by omega) (by omega) (by omega), hs.gR (j := 0) (by decide), hs.aJ (j := 0) (by decide) (by omega) (by omega), iz, l1', a4.aJ (by omega) (by omega), qz]
    by_cases g : rN (L.getD i 0) = iV M 1044 q
    · rw [eq_T g]
      refine t227 1 ?_
      have : cnF (fun x => decide (rN x = iV M 1044 q)) L (i + 1) = cnF (fun x => decide (rN x = iV M 1044 q)) L i + 1 := by
        show _ + (if decide (rN (L.getD i 0) = iV M 1044 q) = true then 1 else 0) = _
        rw [if_pos (decide_eq_true g)]
      omega
    · rw [eq_F g (by omega) (by omega) (by omega) (by omega)]
      refine t227 0 ?_
      have : cnF (fun x => decide (rN x = iV M 1044 q)) L (i + 1) = cnF (fun x => decide (rN x = iV M 1044 q)) L i := by
        show _ + (if decide (rN (L.getD i 0) = iV M 1044 q) = true then 1 else 0) = _
        rw [if_neg (by rw [decide_eq_true_eq]; exact g)]
        omega
      omega
end ARU
end
/-! draft 573.rungall -/
section
/-! ===== the law of rings holds ===== -/
section ARV
variable {O : Nat → Option va_E} {f k m rc n : Nat} {M N : xM} {w fd T : Int} {L : List Int}
/-- so many rings the law counts for a reminder -/
def cA (M : xM) (m : Nat) (w : Int) (j a : Nat) : Prop := ∃ A : List Int, srt A ∧ (∀ x, x ∈ A ↔ rwF M (fun k => D01 (iV M (30 + 6 * k))) m (iV M 2 5 + iV M 9 j + 1) (iV M 2 5 + w + iV M 9 j + 1) x) ∧ a = (A.filter (fun x => decide (rN x = iV M 8 j))).length
theorem rwB_form {k nb : Nat} {a lo hi d x : Int} (hnb : nb < 16) (d0 : 0 ≤ d) (d1 : d < 262144) (q : rwB M k nb a lo hi d x) : x = rw' (rM x) (rN x) (rD x) := by
  obtain ⟨g1, g2, g3⟩ := rwB_N hnb d0 d1 q
  rw [g1, g2, g3]
  exact q.2.2.2
theorem ru_count (h : SR M m 11) (hm : m ≤ 12) (hr : RM M rc m) {a : Nat → Nat} (ha : ∀ j, j < rc → cA M m w j (a j)) (hs : srt L) (hL : ∀ x, x ∈ L ↔ ∃ i, i < rc ∧ rgR M (iV M 2 5 + 1) (iV M 2 5 + w + 1) i x) : L.length = sumN a rc := by
  have day : ∀ k, k < m → ∀ d, D01 (iV M (30 + 6 * k)) d → 0 ≤ d ∧ d < 262144 := by
    intro k hk d hd
    have := (h.2.2.1 k hk).2.1
    obtain ⟨y0, y1, -⟩ := hd
    obtain ⟨z0, z1, z2, z3, z4⟩ := this
    omega
  have rc5 := hr.1
  rw [← split_len (m := rc) L (fun x hx => by
    obtain ⟨i, hi, d, hd, q⟩ := (hL x).mp hx
    obtain ⟨q0, q1, -⟩ := hr.2.1 i hi
    obtain ⟨d0, d1⟩ := day _ (by omega) d hd
    have := (rwB_N (by omega) d0 d1 q).1
    omega)]
  refine sumN_of rc (fun j hj => ?_)
  obtain ⟨A, sA, mA, eA⟩ := ha j hj
  obtain ⟨q0, q1, q2, q3⟩ := hr.2.1 j hj
  rw [eA]
  have e : L.filter (fun x => decide (rN x = (j : Int))) = (A.filter (fun x => decide (rN x = iV M 8 j))).map (fun x => rw' (rM x - iV M 9 j) j (rD x)) := by
    refine srt_uniq (List.Pairwise.filter _ hs) ?_ (fun z => ?_)
    · unfold srt
      rw [List.pairwise_map]
      refine List.Pairwise.imp_of_mem (fun {x y} hx hy hxy => ?_) (List.Pairwise.filter _ sA)
      obtain ⟨hx1, hx2⟩ := List.mem_filter.mp hx
      obtain ⟨hy1, hy2⟩ := List.mem_filter.mp hy
      have hx2 := of_decide_eq_true hx2
      have hy2 := of_decide_eq_true hy2
      obtain ⟨k1, kk1, d1, hd1, r1⟩ := (mA x).mp hx1
      obtain ⟨k2, kk2, d2, hd2, r2⟩ := (mA y).mp hy1
      obtain ⟨b1, b2⟩ := day k1 kk1 d1 hd1
      obtain ⟨b3, b4⟩ := day k2 kk2 d2 hd2
      have fx := rwB_form (by omega) b1 b2 r1
      have fy := rwB_form (by omega) b3 b4 r2
      have g1 := (rwB_N (by omega) b1 b2 r1).2.1
      have g2 := (rwB_N (by omega) b3 b4 r2).2.1
      rw [hx2] at fx
      rw [hy2] at fy
      rw [fx, fy] at hxy
      unfold rw' at hxy ⊢
      omega
    · rw [List.mem_filter, List.mem_map, hL z]
      constructor
      · rintro ⟨⟨i, hi, d, hd, q⟩, hz⟩
        have hz := of_decide_eq_true hz
        obtain ⟨p0, p1, -⟩ := hr.2.1 i hi
        obtain ⟨b1, b2⟩ := day _ (by omega) d hd
        have hi2 := (rwB_N (by omega) b1 b2 q).1
        have : i = j := by omega
        subst this
        obtain ⟨c1, c2, c3, c4⟩ := q
        have xB : rwB M (iV M 8 i).toNat (iV M 8 i).toNat 0 (iV M 2 5 + iV M 9 i + 1) (iV M 2 5 + w + iV M 9 i + 1) d (rw' (bg M (iV M 8 i).toNat d - 0) ((iV M 8 i).toNat : Nat) d) := ⟨c1, by omega, by omega, rfl⟩
        obtain ⟨n1, n2, n3⟩ := rwB_N (by omega) b1 b2 xB
        refine ⟨_, List.mem_filter.mpr ⟨(mA _).mpr ⟨(iV M 8 i).toNat, by omega, d, hd, xB⟩, decide_eq_true (by rw [n1]; omega)⟩, ?_⟩
        rw [n2, n3, c4, Int.sub_zero]
      · rintro ⟨x, hx, rfl⟩
        obtain ⟨hx1, hx2⟩ := List.mem_filter.mp hx
        have hx2 := of_decide_eq_true hx2
        obtain ⟨k1, kk1, d1, hd1, r1⟩ := (mA x).mp hx1
        obtain ⟨b1, b2⟩ := day k1 kk1 d1 hd1
        obtain ⟨n1, n2, n3⟩ := rwB_N (by omega) b1 b2 r1
        have hk1 : k1 = (iV M 8 j).toNat := by omega
        subst hk1
        obtain ⟨c1, c2, c3, c4⟩ := r1
        have hb : rM x = bg M (iV M 8 j).toNat d1 := by omega
        have jB : rwB M (iV M 8 j).toNat j (iV M 9 j) (iV M 2 5 + 1) (iV M 2 5 + w + 1) d1 (rw' (rM x - iV M 9 j) j (rD x)) := ⟨c1, by omega, by omega, by rw [hb, n2]⟩
        refine ⟨⟨j, hj, d1, hd1, jB⟩, decide_eq_true ?_⟩
        exact (rwB_N (by omega) b1 b2 jB).1
  rw [e, List.length_map]
theorem ru_151 {K : Nat → Nat → Int → Int → Nat → Nat → Int → xM → Option (Int × xM)} {v6 x : Int} (h : Rs M m rc) (hm : m ≤ 4) (hrc : 1 ≤ rc) (hM : M.1 ≤ 100000) (hT : iV M 2 5 = T) (T1 : T ≤ 200000) (w0 : 1 ≤ w) (w1 : w ≤ 1440) (hx : nxR M x) (x0 : -1 ≤ x) (x1 : x ≤ 1000000000) (hf : 10000 ≤ f) : ∀ (r t q : Nat) (N : xM) (a : Nat → Nat), q + r = rc → Kp (fun _ => True) M N → N.1 = M.1 + 5 * q → N.2.1 = M.2.1 + 1205 * q → (∀ j, j < q → cA M m w j (a j)) → r < t → ∃ (N' : xM) (a' : Nat → Nat) (t' : Nat), f_Law_areRung_151 O f K t 1 0 (m : Int) (rc : Int) 1044 1045 v6 T w x (sumN a q : Int) (q : Int) N = f_Law_areRung_151 O f K (t' + 1) 1 0 (m : Int) (rc : Int) 1044 1045 v6 T w x (sumN a' rc : Int) (rc : Int) N' ∧ Kp (fun _ => True) M N' ∧ N'.1 = M.1 + 5 * rc ∧ N'.2.1 = M.2.1 + 1205 * rc ∧ (∀ j, j < rc → cA M m w j (a' j)) := by
  have rc5 := h.2.1.1
  have T0 := h.2.2.2.2.2.1
  have hM46 : 1045 < M.1 := h.2.2.2.1.1
  intro r
  induction r with
  | zero =>
    intro t q N a hq u c1 c2 ha h2
    obtain ⟨t, rfl⟩ : ∃ n', t = n' + 1 := ⟨t - 1, by omega⟩
    obtain rfl : q = rc := by omega
    exact ⟨N, a, t, rfl, u, c1, c2, ha⟩
  | succ r ih =>
    intro t q N a hq u c1 c2 ha h2
    obtain ⟨t, rfl⟩ : ∃ n', t = n' + 1 := ⟨t - 1, by omega⟩
    have hqr : q < rc := by omega
    have hN : Rs N m rc := h.kp (by omega) u (by omega) (fun _ _ _ => trivial) ⟨trivial, trivial⟩
    have eqN : ∀ b j, b < M.1 → iV N b j = iV M b j := fun b j hb => u.i hb trivial
    have hM0 := h.1.1.1.1
    obtain ⟨q0, q1, q2, q3⟩ := h.2.1.2.1 q hqr
    obtain ⟨o1, o2⟩ := hN.2.2.2.2.1 q hqr
    have a9 : iV N 9 q = iV M 9 q := eqN _ _ (by omega)
    have HSN := hN.1.hs (O := O) (f := f)
    have cvN : ∀ k, k < m → ∀ d, bg N k d = bg M k d := fun k hk d => bg_of (by omega) (h.1.2.2.1 k hk).1.2.1.2 (fun b j h1 h2 => eqN b j (by omega))
    have erN : ∀ k, k < m → iV N (30 + 6 * k) = iV M (30 + 6 * k) := fun k hk => funext (fun j => eqN _ _ (by omega))
    obtain ⟨N0, N1, L, e0, e1, xN, k1, s1, lts, ltv, mL⟩ := ldates_ok (O := O) (f := f) (m := m) (lo := T + iV M 9 q + 1) (hi := T + w + iV M 9 q + 1) HSN (by omega) (by omega) (fun j hj => (hN.1.2.2.1 j hj).1.1) (by omega) (by omega) (by omega) (by omega) (fun k hk d hd hb h3 h4 => by
      have := hcov_ok hN.1 (by omega) hk hd hb
      omega) hf
    have R1 : Rs N1 m rc := hN.kp (by omega) (P := fun _ => True) xN.kp (by omega) (fun _ _ _ => trivial) ⟨trivial, trivial⟩
    have mL2 : ∀ x, x ∈ L ↔ rwF M (fun k => D01 (iV M (30 + 6 * k))) m (T + iV M 9 q + 1) (T + w + iV M 9 q + 1) x := by
      intro x
      rw [mL x]
      constructor
      · rintro ⟨k, y1, d, y2, y3⟩
        rw [erN k y1] at y2
        exact ⟨k, y1, d, y2, (rwB_of (by omega) (h.1.2.2.1 k y1).1.2.1.2 (fun b j h1 h2 => eqN b j (by omega))).mp y3⟩
      · rintro ⟨k, y1, d, y2, y3⟩
        refine ⟨k, y1, d, ?_, (rwB_of (by omega) (h.1.2.2.1 k y1).1.2.1.2 (fun b j h1 h2 => eqN b j (by omega))).mpr y3⟩
        show D01 (iV N (30 + 6 * k)) d
        rw [erN k y1]
        exact y2
    have hl : L.length < 300 := by
      have hcl := count_le (O := O) (f := f) (L := L) (lo := T + iV M 9 q + 1) (hi := T + w + iV M 9 q + 1) HSN (by omega) (by omega) ltv.2.1 (m := m) (by omega) (fun y hy => by
        obtain ⟨k, y1, d, y2, y3⟩ := (mL y).mp hy
        exact ⟨k, y1, (hN.1.2.2.1 k y1).1.1, d, y2, y3⟩)
      have w25 : ((T + w + iV M 9 q + 1 - (T + iV M 9 q + 1)) / 1440 + 13).toNat ≤ 14 := by omega
      have : m * ((T + w + iV M 9 q + 1 - (T + iV M 9 q + 1)) / 1440 + 13).toNat ≤ 4 * 14 := Nat.mul_le_mul (by omega) w25
      omega
    have v44 : ∀ j, iV N1 1044 j = iV N 1044 j := fun j => xN.i (by omega)
    have v45 : ∀ j, iV N1 1045 j = iV N 1045 j := fun j => xN.i (by omega)
    have o8 : iV N1 1044 q = iV M 8 q := by rw [v44, o1]; exact eqN _ _ (by omega)
    have cnt := ru_194 (O := O) (f := f) (K := f_Law_areRung_151 O f K t) (all := (m : Int)) (v6 := v6) (v7 := T) (v8 := w) (v9 := x) (q := q) R1.2.2.1 R1.2.2.2.1 hqr lts ltv hl (fun j hj => (iV_r _ _ _).1) (by
      intro hq0 y hy hy2
      subst hq0
      obtain ⟨k, y1, d, y2, y3⟩ := (mL2 y).mp hy
      have hd := (h.1.2.2.1 k y1).2.1
      have hdr : 0 ≤ d ∧ d < 262144 := by
        obtain ⟨z0, z1, z2, z3, z4⟩ := hd
        obtain ⟨g0, g1, -⟩ := y2
        omega
      obtain ⟨n1, n2, n3⟩ := rwB_N (by omega) hdr.1 hdr.2 y3
      have e45 : iV N1 1045 0 = iV M 9 0 := by rw [v45, o2]; exact eqN _ _ (by omega)
      have hk : (iV M 8 0).toNat = k := by
        rw [o8, n1] at hy2
        omega
      have g := hx d (by rw [hk]; exact y2) (by rw [hk]; exact y3.1) (by rw [hk]; have := y3.2.1; omega)
      rw [hk] at g
      have := y3.2.2.1
      rw [e45]
      omega) x0 (by omega) L.length f 0 (sumN a q) (by omega) (by omega)
    have fl : cnF (fun x => decide (rN x = iV N1 1044 q)) L L.length = (L.filter (fun x => decide (rN x = iV M 8 q))).length := by
      rw [cnF_all, o8]
    rw [fl] at cnt
    obtain ⟨a2, a2q, a2o⟩ : ∃ a2 : Nat → Nat, a2 q = (L.filter (fun x => decide (rN x = iV M 8 q))).length ∧ ∀ j, j ≠ q → a2 j = a j := ⟨fun j => if j = q then (L.filter (fun x => decide (rN x = iV M 8 q))).length else a j, if_pos rfl, fun j hj => if_neg hj⟩
    have s2 : sumN a2 (q + 1) = sumN a q + (L.filter (fun x => decide (rN x = iV M 8 q))).length := by
      show sumN a2 q + a2 q = _
      rw [sumN_of q (b := a) (fun i hi => a2o i (by omega)), a2q]
    have hsl : N1.2.1 = M.2.1 + 1205 * (q + 1) := by rw [s1, c2, Nat.mul_add, Nat.mul_one, Nat.add_assoc]
    have hcl1 : N1.1 = M.1 + 5 * (q + 1) := by rw [k1, c1, Nat.mul_add, Nat.mul_one, Nat.add_assoc]
    have hqq : q + 1 + r = rc := by omega
    have q' := ih t (q + 1) N1 a2 hqq (u.tr xN.kp) hcl1 hsl (fun j hj => by
      by_cases z : j = q
      · rw [z]
        refine ⟨L, ltv.2.1, ?_, a2q⟩
        rw [hT]
        exact mL2
      · rw [a2o j z]
        exact ha j (by omega)) (by omega)
    obtain ⟨N', a', t', e', z⟩ := q'
    refine ⟨N', a', t', ?_, z⟩
    rw [← e', s2, show ((q + 1 : Nat) : Int) = (q : Int) + 1 by omega, show ((sumN a q + (L.filter (fun x => decide (rN x = iV M 8 q))).length : Nat) : Int) = (sumN a q : Int) + ((L.filter (fun x => decide (rN x = iV M 8 q))).length : Int) by omega, ← cnt]
    have wN := hN.1.1.1
    have h44 : ∀ {A : Int → Option (Int × xM)}, (aJ O N0 1045 (q : Int)).bind A = A (iV M 9 q) := by
      intro A
      have eN0 : N0 = mnew N (.inl 13) (xNf 13) := by
        unfold nO at e0
        rw [if_pos (by omega)] at e0
        exact (Prod.mk.inj (Option.some.inj e0)).2.symm
      have xx : Ex N N0 := by rw [eN0]; exact Ex.new
      have c0 : N0.1 = N.1 + 1 := by rw [eN0]; rfl
      have ar : Ar 1045 rc N0 := hN.2.2.2.1.kp (P := fun _ => True) xx.kp (by omega)
      have v : iV N0 1045 q = iV M 9 q := by rw [xx.i (by omega), o2]; exact a9
      rw [ar.aJ (by omega) (by omega), show ((q : Int)).toNat = q by omega, v]
    show (if yw (rc : Int) ≤ yw (q : Int) then _ else _) = _
    rw [le_F (by omega) (by omega) (by omega), e0, xcl_e, h44, h44, e1, xcl_e]
    show f_Law_areRung_194 O f _ f 1 0 _ _ 1044 1045 v6 T w x (sumN a q : Int) (q : Int) N.1 0 N1 = f_Law_areRung_194 O f _ f 1 0 _ _ 1044 1045 v6 T w x ((sumN a q : Int) + (0 : Nat)) (q : Int) N.1 ((0 : Nat) : Int) N1
    rw [show ((sumN a q : Int) + ((0 : Nat) : Int)) = (sumN a q : Int) by omega]
    rfl
/-- each ring told back -/
theorem ru_357 {K : Nat → Nat → Int → Int → Nat → Nat → Int → xM → Option (Int × xM)} {P : xM} {v6 : Int} (h : Rs M m rc) (hP : Rs P m rc) (hm : m ≤ 4) (hT : iV M 2 5 = T) (T1 : T ≤ 200000) (w0 : 1 ≤ w) (w1 : w ≤ 1440) (e : ∀ b j, 2 < b → b < 116 → b ≠ 10 → iV P b j = iV M b j) (hs : srt L) (hL : ∀ x, x ∈ L ↔ ∃ i, i < rc ∧ rgR M (T + 1) (T + w + 1) i x) (rg : RG P L L.length) (hf : 2000 ≤ f) : ∀ (r t : Nat) (i last : Int), max 0 (iV P 2 9 - L.length) ≤ i → i + r = iV P 2 9 → (last = T ∨ (0 < i ∧ max 0 (iV P 2 9 - L.length) ≤ i - 1 ∧ last = rM (lV P 10 (i - 1).toNat))) → r < t → f_Law_areRung_357 O f K t 1 0 (m : Int) (rc : Int) 1044 1045 v6 T w last i P = K 1 0 (m : Int) (rc : Int) 1044 1045 (v6 + 1) P := by
  have wP := hP.1.1.1
  obtain ⟨rg0, rg1, rg2⟩ := rg
  have rc5 := h.2.1.1
  have T0 := h.2.2.2.2.2.1
  rw [hT] at T0
  have rowAt : ∀ i : Int, max 0 (iV P 2 9 - L.length) ≤ i → i < iV P 2 9 → lV P 10 i.toNat = L.getD ((L.length : Int) - iV P 2 9 + i).toNat 0 ∧ ((L.length : Int) - iV P 2 9 + i).toNat < L.length := by
    intro i i0 i1
    have q := rg2 ((iV P 2 9).toNat - 1 - i.toNat) (by omega) (by omega)
    rw [show (iV P 2 9).toNat - 1 - ((iV P 2 9).toNat - 1 - i.toNat) = i.toNat by omega] at q
    refine ⟨?_, by omega⟩
    rw [q]
    congr 1
    omega
  intro r
  induction r with
  | zero =>
    intro t i last i0 i1 hlast h2
    obtain ⟨t, rfl⟩ : ∃ n', t = n' + 1 := ⟨t - 1, by omega⟩
    show (isO O P 1 12).bind _ = _
    rw [a_Cal_is wP, xc_of (e_rings wP), le_T (by omega) (by omega) (by omega)]
  | succ r ih =>
    intro t i last i0 i1 hlast h2
    obtain ⟨t, rfl⟩ : ∃ n', t = n' + 1 := ⟨t - 1, by omega⟩
    obtain ⟨re, rlt⟩ := rowAt i i0 (by omega)
    have hmem := getD_mem rlt
    rw [← re] at hmem
    obtain ⟨j, hj, d, hd, q⟩ := (hL _).mp hmem
    obtain ⟨q0, q1, q2, q3⟩ := h.2.1.2.1 j hj
    obtain ⟨k, ek⟩ : ∃ k, k = (iV M 8 j).toNat := ⟨_, rfl⟩
    rw [← ek] at hd q
    have hk : k < m := by omega
    have s := h.1.2.2.1 k hk
    have hdr : 0 ≤ d ∧ d < 262144 := by
      obtain ⟨z0, z1, z2, z3, z4⟩ := s.2.1
      obtain ⟨g0, g1, -⟩ := hd
      omega
    obtain ⟨n1, n2, n3⟩ := rwB_N (by omega) hdr.1 hdr.2 q
    obtain ⟨c1, c2, c3, c4⟩ := q
    have xr := rw_r (m := bg M k d - iV M 9 j) (n := j) (d := d) (by omega) (by omega) (by omega) (by omega) hdr.1 hdr.2
    rw [← c4] at xr
    have g2 := e_ringAt (O := O) (f := f) (i := i) (wh := 2) wP (by omega) (by omega) rg1 xr.1 (by omega) (by omega)
    have g0 := e_ringAt (O := O) (f := f) (i := i) (wh := 0) wP (by omega) (by omega) rg1 xr.1 (by omega) (by omega)
    have g1 := e_ringAt (O := O) (f := f) (i := i) (wh := 1) wP (by omega) (by omega) rg1 xr.1 (by omega) (by omega)
    rw [if_neg (by omega), if_neg (by omega)] at g2
    rw [if_pos rfl] at g0
    rw [if_neg (by omega), if_pos rfl] at g1
    have sP := hP.1.2.2.1 k hk
    have HP := hP.1.hs (O := O) (f := f)
    obtain ⟨zl, zv⟩ := HP.zko (k := k) (by omega) sP.1.1
    obtain ⟨svP, nxP, -⟩ := HP.there (k := k) (by omega) sP.1.1
    have erP : iV P (30 + 6 * k) = iV M (30 + 6 * k) := funext (fun j => e _ _ (by omega) (by omega) (by omega))
    have bP : bg P k d = bg M k d := bg_of (by omega) s.1.2.1.2 (fun b j h1 h2 => e b j (by omega) (by omega) (by omega))
    obtain ⟨o1, o2⟩ := hP.2.2.2.2.1 j hj
    rw [e 8 _ (by omega) (by omega) (by omega)] at o1
    rw [e 9 _ (by omega) (by omega) (by omega)] at o2
    have eb := e_begin (O := O) (f := f) (kk := iV M 8 j) (k := k) (d := d) wP (by omega) (by omega) svP zv nxP (by rw [erP]; exact hd) (by omega)
    rw [bP] at eb
    have hlast2 : last ≤ rM (lV P 10 i.toNat) ∧ -2147483648 ≤ last := by
      rcases hlast with hl | ⟨l0, l1, l2⟩
      · omega
      · obtain ⟨re2, rlt2⟩ := rowAt (i - 1) l1 (by omega)
        have lt := srt_lt hs (i := ((L.length : Int) - iV P 2 9 + (i - 1)).toNat) (j := ((L.length : Int) - iV P 2 9 + i).toNat) (by omega) rlt
        rw [← re, ← re2] at lt
        have hm2 := getD_mem rlt2
        rw [← re2] at hm2
        obtain ⟨j', hj', d', hd', q'⟩ := (hL _).mp hm2
        obtain ⟨p0, p1, p2, p3⟩ := h.2.1.2.1 j' hj'
        have s' := h.1.2.2.1 (iV M 8 j').toNat (by omega)
        have hdr' : 0 ≤ d' ∧ d' < 262144 := by
          obtain ⟨z0, z1, z2, z3, z4⟩ := s'.2.1
          obtain ⟨g0, g1, -⟩ := hd'
          omega
        have n3' := (rwB_N (by omega) hdr'.1 hdr'.2 q').2.2
        have := q'.2.1
        rw [l2]
        unfold rM at *
        omega
    show (isO O P 1 12).bind _ = _
    rw [a_Cal_is wP, xc_of (e_rings wP), le_F (by omega) (by omega) (by omega), a_Cal_is wP, g2, xcl_e, a_Cal_is wP, g0, xcl_e, lt_F hlast2.1 hlast2.2 (by omega), le_F (by omega) (by omega) (by omega), lt_F (by omega) (by omega) (by omega), n1, hP.2.2.1.aJ (by omega) (by omega), show ((j : Nat) : Int).toNat = j by omega, o1, a_Cal_is wP, g1, xcl_e, n2, a_Cal_is wP, eb, xcl_e, hP.2.2.2.1.aJ (by omega) (by omega), show ((j : Nat) : Int).toNat = j by omega, o2, eq_T (by omega)]
    exact ih t (i + 1) _ (by omega) (by omega) (Or.inr ⟨by omega, by omega, by rw [show (i + 1 - 1) = i by omega]⟩) (by omega)
end ARV
end
/-! draft 574.rungend -/
section
/-! ===== the law of rings, from its beginning ===== -/
section ARW
variable {O : Nat → Option va_E} {f k m rc n : Nat} {M N : xM} {w fd T : Int} {L : List Int}
theorem rgR_of {lo hi x : Int} {i : Nat} (h : SR M m 11) (hm : m ≤ 12) (hr : RM M rc m) (hi2 : i < rc) (e : ∀ b j, 2 < b → b < 116 → b ≠ 10 → iV N b j = iV M b j) : rgR N lo hi i x ↔ rgR M lo hi i x := by
  obtain ⟨q0, q1, q2, q3⟩ := hr.2.1 i hi2
  have sv := (h.2.2.1 (iV M 8 i).toNat (by omega)).1
  unfold rgR
  rw [e 8 _ (by omega) (by omega) (by omega), e 9 _ (by omega) (by omega) (by omega)]
  have er : iV N (30 + 6 * (iV M 8 i).toNat) = iV M (30 + 6 * (iV M 8 i).toNat) := funext (fun j => e _ _ (by omega) (by omega) (by omega))
  rw [er]
  constructor
  · rintro ⟨d, y1, y2⟩
    exact ⟨d, y1, (rwB_of (by omega) sv.2.1.2 (fun b j h2 h3 => e b j (by omega) (by omega) (by omega))).mp y2⟩
  · rintro ⟨d, y1, y2⟩
    exact ⟨d, y1, (rwB_of (by omega) sv.2.1.2 (fun b j h2 h3 => e b j (by omega) (by omega) (by omega))).mpr y2⟩
theorem ru_114 (hm : m ≤ 4) (hrc : 1 ≤ rc) (hf : 10000 ≤ f) : ∀ (r n : Nat) (v : Int) (M : xM), Rs M m rc → 0 ≤ v → v + r = 6 → iV M 2 5 ≤ 14400 + 1440 * v → M.1 ≤ 1100 + 25 * v.toNat → M.2.1 ≤ 40000 + 6025 * v.toNat → r < n → ∃ M', f_Law_areRung_114 O f n 1 0 (m : Int) (rc : Int) 1044 1045 v M = some (1, M') ∧ M'.1 ≤ 2000 ∧ M'.2.1 ≤ 200000 := by
  intro r
  induction r with
  | zero =>
    intro n v M h v0 hv hc h1 h2 h3
    obtain ⟨n, rfl⟩ : ∃ n', n = n' + 1 := ⟨n - 1, by omega⟩
    refine ⟨M, ?_, by omega, by omega⟩
    show (if yw 6 ≤ yw v then _ else _) = _
    rw [le_T (by omega) (by omega) (by omega)]
  | succ r ih =>
    intro n v M h v0 hv hc h1 h2 h3
    obtain ⟨n, rfl⟩ : ∃ n', n = n' + 1 := ⟨n - 1, by omega⟩
    have hw := h.1.1.1
    have rc5 := h.2.1.1
    obtain ⟨x2, M2, e2, x20, x21, w2, u2, i2⟩ := dn_ok (O := O) (f := f) (m := 1440) hw (by omega) (by omega)
    have R2 : Rs M2 m rc := h.kp (by omega) u2.kp (by rw [u2.1.1]; omega) (fun a h1 h2 => by (try dsimp only); omega) (by (try dsimp only); omega)
    have T0 := R2.2.2.2.2.2.1
    have cT : iV M2 2 5 = iV M 2 5 := i2 _ _
    obtain ⟨x, ex, hx, x0, x1⟩ := nextRing_ok (O := O) (f := f) R2 (by omega) hrc (by omega) (by omega)
    obtain ⟨N', a', t', e', k', c1', c2', ha'⟩ := ru_151 (O := O) (f := f) (K := f_Law_areRung_114 O f n) (v6 := v) (w := 1 + x2) (T := iV M 2 5) R2 hm hrc (by rw [u2.1.1]; omega) cT (by omega) (by omega) (by omega) hx x0 x1 hf rc f 0 M2 (fun _ => 0) (by omega) Kp.rf (by omega) (by omega) (fun j hj => absurd hj (Nat.not_lt_zero _)) (by omega)
    have hM2 := w2.1
    have Rn : Rs N' m rc := R2.kp (by omega) k' (by rw [c1', u2.1.1]; omega) (fun _ _ _ => trivial) ⟨trivial, trivial⟩
    have eqN : ∀ b j, b < M2.1 → iV N' b j = iV M2 b j := fun b j hb => k'.i hb trivial
    have cN : iV N' 2 5 = iV M 2 5 := by rw [eqN _ _ (by omega)]; exact cT
    have wN := Rn.1.1.1
    obtain ⟨g0, g1, g2, g3⟩ := Rn.2.2.2.2.2
    obtain ⟨P, L, eP, bP, uP, sL, mL, rgL, c9, c5, c11, l320⟩ := pass_ok (O := O) (f := f) (w := 1 + x2) Rn.1 (by omega) Rn.2.1 g0 (by omega) (by omega) (by omega) g1 g2 g3 (by omega)
    have wP := bP.1
    have hcount : L.length = sumN a' rc := by
      refine ru_count (M := M2) (w := 1 + x2) R2.1 (by omega) R2.2.1 ha' sL (fun y => ?_)
      rw [mL y, cN, cT]
      constructor
      · rintro ⟨i, q1, q2⟩
        exact ⟨i, q1, (rgR_of R2.1 (by omega) R2.2.1 q1 (fun b j h1 h2 h3 => eqN b j (by omega))).mp q2⟩
      · rintro ⟨i, q1, q2⟩
        exact ⟨i, q1, (rgR_of R2.1 (by omega) R2.2.1 q1 (fun b j h1 h2 h3 => eqN b j (by omega))).mpr q2⟩
    have eP2 : ∀ b j, 2 < b → b < 116 → b ≠ 10 → iV P b j = iV N' b j := fun b j h1 h2 h3 => uP.i (by (try dsimp only); omega)
    have RP : Rs P m rc := by
      refine ⟨Rn.1.un (by omega) uP bP (fun a h1 h2 => by (try dsimp only); omega), Rn.2.1.of (fun j => eP2 8 j (by omega) (by omega) (by omega)) (fun j => eP2 9 j (by omega) (by omega) (by omega)), Rn.2.2.1.un uP, Rn.2.2.2.1.un uP, fun j hj => ?_, by omega, rgL.1, rgL.2.1, c11⟩
      have p1 : iV P 1044 j = iV N' 1044 j := uP.i (by (try dsimp only); omega)
      have p2 : iV P 1045 j = iV N' 1045 j := uP.i (by (try dsimp only); omega)
      rw [p1, p2, eP2 8 _ (by omega) (by omega) (by omega), eP2 9 _ (by omega) (by omega) (by omega)]
      exact Rn.2.2.2.2.1 j hj
    have e357 := ru_357 (O := O) (f := f) (K := f_Law_areRung_114 O f n) (P := P) (v6 := v) (w := 1 + x2) (T := iV M 2 5) Rn RP hm cN (by omega) (by omega) (by omega) eP2 sL (fun y => by rw [mL y, cN]) rgL (by omega) (iV P 2 9 - max 0 (iV P 2 9 - L.length)).toNat f (max 0 (iV P 2 9 - L.length)) (iV M 2 5) (Int.le_refl _) (by omega) (Or.inl rfl) (by omega)
    obtain ⟨M', e'', z⟩ := ih n (v + 1) P RP (by omega) (by omega) (by omega) (by rw [uP.1.1, c1', u2.1.1]; omega) (by rw [uP.1.2.1, c2', u2.1.2.1]; omega) (by omega)
    refine ⟨M', ?_, z⟩
    have fin : f_Law_areRung_151 O f (f_Law_areRung_114 O f n) (t' + 1) 1 0 (m : Int) (rc : Int) 1044 1045 v (iV M 2 5) (1 + x2) x (sumN a' rc : Int) (rc : Int) N' = some (1, M') := by
      show (if yw (rc : Int) ≤ yw (rc : Int) then _ else _) = _
      rw [le_T (by omega) (by omega) (by omega), a_Cal_is wN, xc_of (e_rings wN), a_Cal_is wN, eP, xcl_e, hcount, eq_T rfl, a_Cal_is wP, xc_of (e_now wP), c5, cN, eq_T rfl, a_Cal_is wP, xc_of (e_rings wP), c_min (by omega) (by omega) (by omega) (by omega), c9, hcount, eq_T rfl, a_Cal_is wP, xc_of (e_rings wP), c9, hcount, c_max (by omega) (by omega) (by omega) (by omega)]
      rw [c9, hcount] at e357
      rw [e357]
      exact e''
    show (if yw 6 ≤ yw v then _ else _) = _
    rw [le_F (by omega) (by omega) (by omega), a_Cal_is hw, xc_of (e_now hw), hw.is (k := 0) (ci := 15) (by decide) (by decide), e2, xcl_e, a_Cal_is w2, ex, xcl_e]
    refine Eq.trans ?_ fin
    exact e'
theorem ru_37 (hm : m ≤ 4) (hm1 : 1 ≤ m) (hrc : 1 ≤ rc) (hrc5 : rc ≤ 5) (hf : 10000 ≤ f) : ∀ (r n j : Nat) (M : xM), SR M m 11 → RM M j m → Ar 1044 rc M → Ar 1045 rc M → (∀ i : Nat, i < j → iV M 1044 i = iV M 8 i ∧ iV M 1045 i = iV M 9 i) → (iV M 2 5 = 14400 ∧ iV M 2 9 = 0 ∧ iV M 2 11 = 0) → j + r = rc → M.1 ≤ 1100 → M.2.1 ≤ 40000 → r < n → ∃ M', f_Law_areRung_37 O f n 1 0 (m : Int) (rc : Int) 1044 1045 (j : Int) M = some (1, M') ∧ M'.1 ≤ 2000 ∧ M'.2.1 ≤ 200000 := by
  intro r
  induction r with
  | zero =>
    intro n j M h hr a4 a5 he hc hj h1 h2 h3
    obtain ⟨n, rfl⟩ : ∃ n', n = n' + 1 := ⟨n - 1, by omega⟩
    obtain rfl : j = rc := by omega
    obtain ⟨M', e', z⟩ := ru_114 (O := O) (f := f) (m := m) (rc := j) hm hrc hf 6 f 0 M ⟨h, hr, a4, a5, he, by omega, by omega, by omega, hc.2.2⟩ (by omega) (by omega) (by omega) (by omega) (by omega) (by omega)
    refine ⟨M', ?_, z⟩
    show (if yw (j : Int) ≤ yw (j : Int) then _ else _) = _
    rw [le_T (by omega) (by omega) (by omega)]
    exact e'
  | succ r ih =>
    intro n j M h hr a4 a5 he hc hj h1 h2 h3
    obtain ⟨n, rfl⟩ : ∃ n', n = n' + 1 := ⟨n - 1, by omega⟩
    have hw := h.1.1
    have jz : ((j : Int)).toNat = j := by omega
    obtain ⟨x1, M1, e1, x10, x11, w1, u1, i1⟩ := dn_ok (O := O) (f := f) (m := (m : Int)) hw (by omega) (by omega)
    have b1 : Bs M1 := h.1.un u1 (by (try dsimp only); omega) (fun j hj => by (try dsimp only); omega)
    obtain ⟨M2, e2⟩ : ∃ M2, M2 = iS M1 1044 j x1 := ⟨_, rfl⟩
    have u2 : Un (fun a => a ≠ 1044) M1 M2 := by rw [e2]; exact Un.rf.iS (fun q => q rfl)
    have b2 : Bs M2 := b1.un u2 (by (try dsimp only); omega) (fun j hj => by (try dsimp only); omega)
    obtain ⟨x2, M3, e3, hx2, w3, u3, i3⟩ := di_ok (O := O) (f := f) (m := 3) b2.1 (by omega) (by omega)
    have b3 : Bs M3 := b2.un u3 (by (try dsimp only); omega) (fun j hj => by (try dsimp only); omega)
    have w1J : ∀ {A : xM → Option (Int × xM)}, (wJ M1 1044 (j : Int) x1).bind A = A M2 := by
      intro A
      have := (a4.un u1).wJ (ix := (j : Int)) (x := x1) (A := A) (by omega) (by omega)
      rw [jz] at this
      rw [e2]
      exact this
    -- from the ahead on
    have t83 : ∀ (P : xM) (y : Int), Un (fun a => a ≠ 0) M3 P → 0 ≤ y → y ≤ 1440 → ∃ M', f_Law_areRung_83 O f (f_Law_areRung_37 O f n) 1 0 (m : Int) (rc : Int) 1044 1045 (j : Int) 1045 (j : Int) y P = some (1, M') ∧ M'.1 ≤ 2000 ∧ M'.2.1 ≤ 200000 := by
      intro P y uP y0 y1
      have bP : Bs P := b3.un uP (by (try dsimp only); omega) (fun j hj => by (try dsimp only); omega)
      obtain ⟨Q, eQ⟩ : ∃ Q, Q = iS P 1045 j y := ⟨_, rfl⟩
      have uQ : Un (fun a => a ≠ 1045) P Q := by rw [eQ]; exact Un.rf.iS (fun q => q rfl)
      have bQ : Bs Q := bP.un uQ (by (try dsimp only); omega) (fun j hj => by (try dsimp only); omega)
      have uu : Un (fun a => a ≠ 0 ∧ a ≠ 1044 ∧ a ≠ 1045) M Q := ((((u1.le (fun a q => q.1)).tr (u2.le (fun a q => q.2.1))).tr (u3.le (fun a q => q.1))).tr (uP.le (fun a q => q.1))).tr (uQ.le (fun a q => q.2.2))
      have hQ : SR Q m 11 := h.un (by omega) uu bQ (fun a h1 h2 => by (try dsimp only); omega)
      have rQ : RM Q j m := hr.of (fun i => uu.i (by (try dsimp only); omega)) (fun i => uu.i (by (try dsimp only); omega))
      have a4Q : Ar 1044 rc Q := a4.un uu
      have a5Q : Ar 1045 rc Q := a5.un uu
      have o4 : ∀ i, iV Q 1044 i = if i = j then x1 else iV M 1044 i := by
        intro i
        rw [uQ.i (by (try dsimp only); omega), uP.i (by (try dsimp only); omega), i3, e2]
        by_cases z : i = j
        · rw [if_pos z, z, iV_s (by omega) (by omega)]
        · rw [if_neg z, iV_o (by omega), i1]
      have o5 : ∀ i, iV Q 1045 i = if i = j then y else iV M 1045 i := by
        intro i
        rw [eQ]
        by_cases z : i = j
        · rw [if_pos z, z, iV_s (by omega) (by omega)]
        · rw [if_neg z, iV_o (by omega), uP.i (by (try dsimp only); omega), i3, e2, iV_o (by omega), i1]
      have tQ : iV Q (29 + 6 * x1.toNat) 0 = 1 := (hQ.2.2.1 x1.toNat (by omega)).1.1
      obtain ⟨M', e', b', r', u', v8, v9, vo⟩ := remind_ok (O := O) (f := f) (x := x1) (y := y) bQ rQ (by omega) (by omega) x10 (by omega) tQ y0 y1 (by omega)
      have h' : SR M' m 11 := hQ.un (by omega) u' b' (fun a h1 h2 => by (try dsimp only); omega)
      obtain ⟨M'', e'', z⟩ := ih n (j + 1) M' h' r' (a4Q.un u') (a5Q.un u') (fun i hi => by
        have p1 : iV M' 1044 i = iV Q 1044 i := u'.i (by (try dsimp only); omega)
        have p2 : iV M' 1045 i = iV Q 1045 i := u'.i (by (try dsimp only); omega)
        rw [p1, p2, o4, o5]
        by_cases z : i = j
        · rw [if_pos z, if_pos z, z, v8, v9]
          exact ⟨rfl, rfl⟩
        · have p3 : iV Q 8 i = iV M 8 i := uu.i (by (try dsimp only); omega)
          have p4 : iV Q 9 i = iV M 9 i := uu.i (by (try dsimp only); omega)
          rw [if_neg z, if_neg z, (vo i z).1, (vo i z).2, p3, p4]
          exact he i (by omega)) (by
        have p : ∀ i, iV M' 2 i = iV M 2 i := fun i => (u'.i (show (2 = 0 ∨ 1044 ≤ 2 ∨ (1 < 2 ∧ 2 < 140 ∧ 2 ≠ 8 ∧ 2 ≠ 9)) by omega)).trans (uu.i (show (2 ≠ 0 ∧ 2 ≠ 1044 ∧ 2 ≠ 1045) by omega))
        rw [p, p, p]
        exact hc) (by omega) (by rw [u'.1.1, uu.1.1]; exact h1) (by rw [u'.1.2.1, uu.1.2.1]; exact h2) (by omega)
      refine ⟨M'', ?_, z⟩
      have wJ5 : ∀ {A : xM → Option (Int × xM)}, (wJ P 1045 (j : Int) y).bind A = A Q := by
        intro A
        have a5P : Ar 1045 rc P := ((((a5.un u1).un u2).un u3).un uP)
        have := a5P.wJ (ix := (j : Int)) (x := y) (A := A) (by omega) (by omega)
        rw [jz] at this
        rw [eQ]
        exact this
      unfold f_Law_areRung_83
      rw [wJ5, a4Q.aJ (by omega) (by omega), jz, o4, if_pos rfl, a5Q.aJ (by omega) (by omega), jz, o5, if_pos rfl, a_Cal_is bQ.1, e', xcl_e, eq_T rfl]
      rw [show ((j + 1 : Nat) : Int) = (j : Int) + 1 by omega] at e''
      exact e''
    show ∃ M', (if yw (rc : Int) ≤ yw (j : Int) then _ else _) = some (1, M') ∧ _
    rw [le_F (by omega) (by omega) (by omega), hw.is (k := 0) (ci := 15) (by decide) (by decide), e1, xcl_e, w1J, b2.1.is (k := 0) (ci := 15) (by decide) (by decide), e3, xcl_e]
    rcases hx2 with rfl | rfl
    · obtain ⟨x3, M4, e4, x30, x31, w4, u4, -⟩ := dn_ok (O := O) (f := f) (m := 13) w3 (by omega) (by omega)
      rw [eq_T rfl, w3.is (k := 0) (ci := 15) (by decide) (by decide), e4, xcl_e]
      exact t83 M4 _ u4 (by omega) (by omega)
    · obtain ⟨x3, M4, e4, x30, x31, w4, u4, -⟩ := dn_ok (O := O) (f := f) (m := 1441) w3 (by omega) (by omega)
      rw [eq_F (by omega) (by omega) (by omega) (by omega) (by omega), w3.is (k := 0) (ci := 15) (by decide) (by decide), e4, xcl_e]
      exact t83 M4 _ u4 x30 (by omega)
/-- the start as the drawing of series needs it -/
theorem St0.sr {fd : Int} (h : St0 M) : SR M 0 fd := by
  have hsv := h.sv
  have hbo := h.bo
  obtain ⟨hw, hM, hM2, hs, hse, -, hzo, -⟩ := h
  refine ⟨⟨hw, hsv, hbo⟩, fun k hk => ?_, fun k hk => absurd hk (Nat.not_lt_zero _), fun k h1 h2 => (hse k h2).1⟩
  obtain ⟨v1, v2, v3, v4, v5, v6, v7, v8, v9, v10⟩ := hzo k hk
  unfold Zv rV
  omega
theorem areRung_ok (h : St0 M) (hf : 10000 ≤ f) : ∃ M', f_Law_areRung O f 1 0 M = some (1, M') ∧ M'.1 ≤ 2000 ∧ M'.2.1 ≤ 200000 := by
  have hsr : SR M 0 11 := h.sr
  obtain ⟨hw, hM, hM2, -, -, -, -, -, -, hck, hrem, -⟩ := h
  obtain ⟨x1, M1, e1, x10, x11, w1, u1, i1⟩ := dn_ok (O := O) (f := f) (m := 4) hw (by omega) (by omega)
  have b1 : Bs M1 := hsr.1.un u1 (by (try dsimp only); omega) (fun j hj => by (try dsimp only); omega)
  have R1 : SR M1 0 11 := hsr.un (by omega) u1 b1 (fun a h1 h2 => by (try dsimp only); omega)
  obtain ⟨m, em⟩ : ∃ m : Nat, (m : Int) = 1 + x1 := ⟨(1 + x1).toNat, by omega⟩
  obtain ⟨M2, e2, R2, u2⟩ := series_ok (O := O) (f := f) (m := m) (people := 2) R1 (by omega) (by omega) (by omega) (by omega) (by omega) (by omega)
  have w2 := R2.1.1
  obtain ⟨x3, M3, e3, x30, x31, w3, u3, i3⟩ := dn_ok (O := O) (f := f) (m := 5) w2 (by omega) (by omega)
  have b3 : Bs M3 := R2.1.un u3 (by (try dsimp only); omega) (fun j hj => by (try dsimp only); omega)
  have R3 : SR M3 m 11 := R2.un (by omega) u3 b3 (fun a h1 h2 => by (try dsimp only); omega)
  have c3 : M3.1 = 1044 := by rw [u3.1.1, u2.1.1, u1.1.1]; exact hM
  have s3 : M3.2.1 = M.2.1 := by rw [u3.1.2.1, u2.1.2.1, u1.1.2.1]
  obtain ⟨rc, erc⟩ : ∃ rc : Nat, (rc : Int) = 1 + x3 := ⟨(1 + x3).toNat, by omega⟩
  obtain ⟨M4, e4, x4, a4, z4, k4, s4⟩ := ar_new (x := (rc : Int)) (M := M3) (by omega) (by omega) (by omega)
  rw [c3] at e4 a4
  obtain ⟨M5, e5, x5, a5, z5, k5, s5⟩ := ar_new (x := (rc : Int)) (M := M4) (by omega) (by omega) (by omega)
  rw [k4, c3] at e5 a5
  rw [show ((rc : Int)).toNat = rc by omega] at a4 a5 s4 s5
  have kk : Kp (fun _ => True) M3 M5 := x4.kp.tr x5.kp
  have b5 : Bs M5 := b3.kp kk (by omega) trivial (fun _ _ => trivial)
  have R5 : SR M5 m 11 := R3.kp (by omega) kk b5 (fun _ _ _ => trivial)
  have iv : ∀ a j, 1 < a → a < 29 → iV M5 a j = iV M a j := fun a j h1 h2 => by
    rw [kk.i (by omega) trivial, i3, u2.i (by unfold Ps; omega), i1]
  obtain ⟨M', e', z⟩ := ru_37 (O := O) (f := f) (m := m) (rc := rc) (by omega) (by omega) (by omega) (by omega) hf rc f 0 M5 R5 ⟨by omega, fun j hj => absurd hj (Nat.not_lt_zero _), fun j h1 h2 => by rw [iv _ _ (by omega) (by omega)]; exact hrem j h2⟩ (a4.kp (P := fun _ => True) x5.kp (by omega)) a5 (fun i hi => absurd hi (Nat.not_lt_zero _)) (by
    rw [iv _ _ (by omega) (by omega), iv _ _ (by omega) (by omega), iv _ _ (by omega) (by omega)]
    exact hck) (by omega) (by omega) (by omega) (by omega)
  refine ⟨M', ?_, z⟩
  unfold f_Law_areRung
  rw [hw.is (k := 0) (ci := 15) (by decide) (by decide), e1, xcl_e, ← em, e2, xcl_e, w2.is (k := 0) (ci := 15) (by decide) (by decide), e3, xcl_e, ← erc, e4, xcl_e, e5, xcl_e]
  exact e'
end ARW
end
