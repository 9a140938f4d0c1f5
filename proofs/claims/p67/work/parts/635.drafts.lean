/-! draft 635.freepers -/
section
/-! ===== the law of free times: person by person ===== -/
section FPS
variable {O : Nat → Option va_E} {f m p k n len g mi : Nat} {B M N : xM} {x fd lo need iw : Int} {A : List Int}
/-- all minutes of a person -/
theorem fr_347 {K : Nat → Nat → Int → Int → Nat → Int → Int → Int → Nat → Nat → Int → xM → Option (Int × xM)} (h : FB B m len fd lo A) (hm : m ≤ 12) (hp : p < 4) (hg : g < 16) (hiw : iw = 0 ∨ iw = 1) (hA : A.length ≤ 132) (l0 : 131001 ≤ lo) (l60 : lo % 60 = 0) (l1 : lo + len ≤ 750000) (l100 : len ≤ 4400) (hf : 10000 ≤ f) : ∀ (r t mi : Nat) (v17 : Int) (N : xM), mi + r = len → r < t → RB B N m len g lo iw p mi → (mi % 60 = 0 ∨ v17 = bI (agB B lo p (mi - 1))) → ∃ t' w17 N', f_Law_areFree_347 O f K t 1 1044 lo (len : Int) 1049 (g : Int) need iw 1054 1055 (p : Int) ((ctN (zgB B m lo p) mi : Nat) : Int) ((ctN (fun i => zgB B m lo p i && agB B lo p i) mi : Nat) : Int) ((ctN (agB B lo p) mi : Nat) : Int) v17 (mi : Int) N = f_Law_areFree_347 O f K (t' + 1) 1 1044 lo (len : Int) 1049 (g : Int) need iw 1054 1055 (p : Int) ((ctN (zgB B m lo p) len : Nat) : Int) ((ctN (fun i => zgB B m lo p i && agB B lo p i) len : Nat) : Int) ((ctN (agB B lo p) len : Nat) : Int) w17 (len : Int) N' ∧ RB B N' m len g lo iw p len := by
  intro r
  induction r with
  | zero =>
    intro t mi v17 N hk ht rb hv
    obtain ⟨t, rfl⟩ : ∃ n', t = n' + 1 := ⟨t - 1, by omega⟩
    obtain rfl : mi = len := by omega
    exact ⟨t, v17, N, rfl, rb⟩
  | succ r ih =>
    intro t mi v17 N hk ht rb hv
    obtain ⟨t, rfl⟩ : ∃ n', t = n' + 1 := ⟨t - 1, by omega⟩
    obtain ⟨N1, e1, rb1⟩ := fr_min (O := O) (f := f) (K := f_Law_areFree_347 O f K t) (need := need) (v14 := ((ctN (zgB B m lo p) mi : Nat) : Int)) (v15 := ((ctN (fun i => zgB B m lo p i && agB B lo p i) mi : Nat) : Int)) (v16 := ((ctN (agB B lo p) mi : Nat) : Int)) h hm hp hg hiw hA l0 l60 l1 l100 (by omega) rb hv (by omega)
    have ct : ∀ q : Nat → Bool, ((ctN q mi : Nat) : Int) + bI (q mi) = ((ctN q (mi + 1) : Nat) : Int) := fun q => by
      show _ = ((ctN q mi + (if q mi = true then 1 else 0) : Nat) : Int)
      unfold bI
      split <;> omega
    rw [ct (zgB B m lo p), ct (agB B lo p), ct (fun i => zgB B m lo p i && agB B lo p i)] at e1
    obtain ⟨t', w17, N', e', z⟩ := ih t (mi + 1) (bI (agB B lo p mi)) N1 (by omega) (by omega) rb1 (Or.inr rfl)
    refine ⟨t', w17, N', ?_, z⟩
    rw [show ((mi + 1 : Nat) : Int) = (mi : Int) + 1 by omega] at e'
    show (if yw (len : Int) ≤ yw (mi : Int) then _ else _) = _
    rw [le_F (by omega) (by omega) (by omega)]
    exact e1.trans e'
theorem RB.p3 (h : RB B N m len g lo iw p mi) (u : Un P3 N M) : RB B M m len g lo iw p mi := by
  obtain ⟨a, b, c, d⟩ := h
  refine ⟨a.tr (u.le (fun q z => by unfold UB at z; unfold P3; omega)), fun q hq i hi => ?_, fun i hi => ?_, fun i hi => ?_⟩
  · rw [u.i (show P3 (1056 + q) by unfold P3; omega)]
    exact b q hq i hi
  · rw [u.i (show P3 (1056 + p) by unfold P3; omega)]
    exact c i hi
  · rw [u.i (show P3 1054 by unfold P3; omega)]
    exact d i hi
/-- one person -/
theorem fr_pers {K : Nat → Nat → Int → Int → Nat → Int → Int → Int → Nat → Nat → Int → xM → Option (Int × xM)} (h : FB B m len fd lo A) (hm : m ≤ 12) (hp : p < 4) (hg : g < 16) (hiw : iw = 0 ∨ iw = 1) (hA : A.length ≤ 132) (l0 : 131001 ≤ lo) (l60 : lo % 60 = 0) (l1 : lo + len ≤ 750000) (l100 : len ≤ 4400) (n1 : 1 ≤ len) (hf : 10000 ≤ f) (rb : RB B N m len g lo iw p 0) : ∃ N', f_Law_areFree_347 O f K f 1 1044 lo (len : Int) 1049 (g : Int) need iw 1054 1055 (p : Int) 0 0 0 0 0 N = K 1 1044 lo (len : Int) 1049 (g : Int) need iw 1054 1055 ((p : Int) + 1) N' ∧ RB B N' m len g lo iw p len := by
  obtain ⟨t1, w17, N1, e1, rb1⟩ := fr_347 (O := O) (f := f) (K := K) (need := need) h hm hp hg hiw hA l0 l60 l1 l100 hf len f 0 0 N (by omega) (by omega) rb (Or.inl rfl)
  have e1' : f_Law_areFree_347 O f K f 1 1044 lo (len : Int) 1049 (g : Int) need iw 1054 1055 (p : Int) 0 0 0 0 0 N = _ := e1
  have hq : ∀ {wh : Int} {Mx : xM}, Un UB B Mx → ∀ i : Nat, (Qw wh (bsy Mx m (fun k => tp Mx k p) (lo + i)) (wk Mx p (lo + i)) ↔ Qw wh (zgB B m lo p i = true) (agB B lo p i = true)) := fun {wh Mx} u i => by
    unfold zgB agB
    rw [bB_iff, bB_iff]
    exact Qw_iff (bsyB h hm u) (wkB h hp u)
  have Z : (lo + (len : Int) - lo).toNat = len := by omega
  have hF : ∀ {Mx : xM}, Un UB B Mx → FR Mx m fd := fun u => (h.un hm u).1
  have c0 := ctN_le (p := zgB B m lo p) len
  have c1 := ctN_le (p := agB B lo p) len
  have c2 := ctN_le (p := fun i => zgB B m lo p i && agB B lo p i) len
  obtain ⟨N2, e2, u2⟩ := minutesOf_ok (O := O) (f := f) (p := p) (lo := lo) (hi := lo + len) (wh := 0) (q := zgB B m lo p) (hF rb1.1) hm hp rfl (Or.inl rfl) (by omega) (by omega) l1 (by omega) hf (fun i _ => by
    rw [hq rb1.1]
    exact ⟨fun z => ⟨fun _ => z, fun q => absurd rfl q⟩, fun z => z.1 (by decide)⟩)
  have rb2 := rb1.p3 u2
  obtain ⟨N3, e3, u3⟩ := minutesOf_ok (O := O) (f := f) (p := p) (lo := lo) (hi := lo + len) (wh := 1) (q := agB B lo p) (hF rb2.1) hm hp rfl (Or.inr (Or.inl rfl)) (by omega) (by omega) l1 (by omega) hf (fun i _ => by
    rw [hq rb2.1]
    exact ⟨fun z => ⟨fun q => absurd rfl q, fun _ => z⟩, fun z => z.2 (by decide)⟩)
  have rb3 := rb2.p3 u3
  obtain ⟨N4, e4, u4⟩ := minutesOf_ok (O := O) (f := f) (p := p) (lo := lo) (hi := lo + len) (wh := 2) (q := fun i => zgB B m lo p i && agB B lo p i) (hF rb3.1) hm hp rfl (Or.inr (Or.inr rfl)) (by omega) (by omega) l1 (by omega) hf (fun i _ => by
    rw [hq rb3.1, Bool.and_eq_true]
    exact ⟨fun z => ⟨fun _ => z.1, fun _ => z.2⟩, fun z => ⟨z.1 (by decide), z.2 (by decide)⟩⟩)
  have rb4 := rb3.p3 u4
  obtain ⟨N5, e5, u5⟩ := busyShare_ok (O := O) (f := f) (p := p) (lo := lo) (hi := lo + len) (q1 := agB B lo p) (q2 := fun i => zgB B m lo p i && agB B lo p i) (hF rb4.1) hm hp rfl (by omega) (by omega) l1 (by omega) hf (fun i _ => by
    rw [hq rb4.1]
    exact ⟨fun z => ⟨fun q => absurd rfl q, fun _ => z⟩, fun z => z.2 (by decide)⟩) (fun i _ => by
    rw [hq rb4.1, Bool.and_eq_true]
    exact ⟨fun z => ⟨fun _ => z.1, fun _ => z.2⟩, fun z => ⟨z.1 (by decide), z.2 (by decide)⟩⟩)
  have rb5 := rb4.p3 u5
  rw [Z] at e2 e3 e4 e5
  refine ⟨N5, ?_, rb5⟩
  rw [e1']
  show (if yw (len : Int) ≤ yw (len : Int) then _ else _) = _
  have cal : ∀ {Mx : xM}, Un UB B Mx → ∀ {X : Unit → Option (Int × xM)}, (isO O Mx 1 12).bind X = X () := fun u => a_Cal_is (hF u).1.1.1
  rw [le_T (by omega) (by omega) (by omega), cal rb1.1, e2, xcl_e, eq_T rfl, cal rb2.1, e3, xcl_e, eq_T rfl, cal rb3.1, e4, xcl_e, eq_T rfl, cal rb4.1, e5, xcl_e]
  by_cases g0 : ctN (agB B lo p) len = 0
  · rw [eq_T (by omega), if_pos g0]
    unfold f_Law_areFree_704
    rw [jdc_self (by decide), eq_T rfl]
  · rw [eq_F (by omega) (by omega) (by omega) (by omega) (by omega), if_neg g0, if_pos (share_ok (by omega) (by omega) (by omega) (by omega)), xlet_e]
    unfold f_Law_areFree_704
    rw [jdc_self (share_num (by omega) (by omega) (by omega) (by omega)), eq_T rfl]
/-- all persons -/
theorem fr_326 (h : FB B m len fd lo A) (hm : m ≤ 12) (hg : g < 16) (hiw : iw = 0 ∨ iw = 1) (hA : A.length ≤ 132) (l0 : 131001 ≤ lo) (l60 : lo % 60 = 0) (l1 : lo + len ≤ 750000) (l100 : len ≤ 4400) (n1 : 1 ≤ len) (hf : 10000 ≤ f) : ∀ (r t p : Nat) (N : xM), p + r = 4 → r < t → RB B N m len g lo iw p 0 → ∃ N', f_Law_areFree_326 O f t 1 1044 lo (len : Int) 1049 (g : Int) need iw 1054 1055 (p : Int) N = f_Law_areFree_725 O f f 1 lo (len : Int) (g : Int) need iw 1054 1055 0 (-1) 0 N' ∧ RB B N' m len g lo iw 4 0 := by
  intro r
  induction r with
  | zero =>
    intro t p N hk ht rb
    obtain ⟨t, rfl⟩ : ∃ n', t = n' + 1 := ⟨t - 1, by omega⟩
    obtain rfl : p = 4 := by omega
    refine ⟨N, ?_, rb⟩
    show (if yw 4 ≤ yw ((4 : Nat) : Int) then _ else _) = _
    rw [le_T (by omega) (by omega) (by omega)]
  | succ r ih =>
    intro t p N hk ht rb
    obtain ⟨t, rfl⟩ : ∃ n', t = n' + 1 := ⟨t - 1, by omega⟩
    obtain ⟨N1, e1, rb1⟩ := fr_pers (O := O) (f := f) (K := f_Law_areFree_326 O f t) (need := need) h hm (show p < 4 by omega) hg hiw hA l0 l60 l1 l100 n1 hf rb
    have rb2 : RB B N1 m len g lo iw (p + 1) 0 := by
      obtain ⟨a, b, c, d⟩ := rb1
      refine ⟨a, fun q hq i hi => ?_, fun i hi => absurd hi (Nat.not_lt_zero _), fun i hi => ?_⟩
      · by_cases z : q = p
        · rw [z]
          exact c i hi
        · exact b q (by omega) i hi
      · rw [d i hi, if_pos hi, if_neg (Nat.not_lt_zero _)]
    obtain ⟨N', e', z⟩ := ih t (p + 1) N1 (by omega) (by omega) rb2
    refine ⟨N', ?_, z⟩
    rw [show ((p + 1 : Nat) : Int) = (p : Int) + 1 by omega] at e'
    show (if yw 4 ≤ yw (p : Int) then _ else _) = _
    rw [le_F (by omega) (by omega) (by omega)]
    exact e1.trans e'
end FPS
end
/-! draft 636.freeend -/
section
/-! ===== the law of free times: the first free time, the best one ===== -/
section FEN
variable {O : Nat → Option va_E} {f m p k n len g mi : Nat} {B M N : xM} {x fd lo need iw : Int} {A : List Int}
theorem bdB_iff {i : Nat} : ∀ n, bdB B m g lo iw n i = true ↔ ∃ q, q < n ∧ hB g q iw (zgB B m lo q i) (agB B lo q i) = true
  | 0 => ⟨fun z => absurd (show false = true from z) (by decide), fun ⟨q, z, _⟩ => absurd z (Nat.not_lt_zero _)⟩
  | n + 1 => by
    show (bdB B m g lo iw n i || hB g n iw (zgB B m lo n i) (agB B lo n i)) = true ↔ _
    rw [Bool.or_eq_true, bdB_iff n]
    constructor
    · rintro (⟨q, q1, q2⟩ | q)
      · exact ⟨q, by omega, q2⟩
      · exact ⟨n, by omega, q⟩
    · rintro ⟨q, q1, q2⟩
      by_cases z : q = n
      · rw [z] at q2
        exact Or.inr q2
      · exact Or.inl ⟨q, by omega, q2⟩
theorem bad_iff {i : Nat} (hg : g < 16) : bdB B m g lo iw 4 i = true ↔ badM B m g iw (lo + i) := by
  rw [bdB_iff]
  unfold hB badM idS
  constructor
  · rintro ⟨q, q1, q2⟩
    rw [Bool.and_eq_true, Bool.or_eq_true, Bool.and_eq_true, decide_eq_true_eq, decide_eq_true_eq] at q2
    obtain ⟨q3, q4 | ⟨q4, q5⟩⟩ := q2
    · obtain ⟨k, k1, k2, z⟩ := bB_iff.mp q4
      exact Or.inl ⟨k, k1, ⟨q, by omega, q3, k2⟩, z⟩
    · have q6 : agB B lo q i = false := by
        cases hq : agB B lo q i with
        | false => rfl
        | true => rw [hq] at q5; exact absurd q5 (by decide)
      exact Or.inr ⟨q4, q, q1, q3, bB_f.mp q6⟩
  · rintro (⟨k, k1, ⟨q, q1, q2, q3⟩, z⟩ | ⟨q4, q, q1, q3, q5⟩)
    · have q4 : q < 4 := by
        by_cases c : q < 4
        · exact c
        · have := bit4 hg (show 4 ≤ q by omega)
          omega
      refine ⟨q, q4, ?_⟩
      rw [Bool.and_eq_true, Bool.or_eq_true, decide_eq_true_eq]
      exact ⟨q2, Or.inl (bB_iff.mpr ⟨k, k1, q3, z⟩)⟩
    · refine ⟨q, q1, ?_⟩
      rw [Bool.and_eq_true, Bool.or_eq_true, Bool.and_eq_true, decide_eq_true_eq, decide_eq_true_eq]
      refine ⟨q3, Or.inr ⟨q4, ?_⟩⟩
      rw [show agB B lo q i = false from bB_f.mpr q5]
      rfl
theorem free_uniq {bad : Int → Prop} {hi l r r' : Int} (l0 : 0 ≤ lo) (h : freeR bad lo hi l r) (h' : freeR bad lo hi l r') : r = r' := by
  rcases h with ⟨a, b⟩ | ⟨a1, a2, a3, a4⟩ <;> rcases h' with ⟨c, d⟩ | ⟨c1, c2, c3, c4⟩
  · omega
  · obtain ⟨u, u0, u1, u2⟩ := b r' c1 c2
    exact (c3 u u0 u1 u2).elim
  · obtain ⟨u, u0, u1, u2⟩ := d r a1 a2
    exact (a3 u u0 u1 u2).elim
  · rcases Int.lt_trichotomy r r' with q | q | q
    · obtain ⟨u, u0, u1, u2⟩ := c4 r a1 q
      exact (a3 u u0 u1 u2).elim
    · exact q
    · obtain ⟨u, u0, u1, u2⟩ := a4 r' c1 q
      exact (c3 u u0 u1 u2).elim
theorem freeR_of {bad bad' : Int → Prop} {hi l r : Int} (e : ∀ u, bad u ↔ bad' u) (h : freeR bad lo hi l r) : freeR bad' lo hi l r := by
  rcases h with ⟨a, b⟩ | ⟨a1, a2, a3, a4⟩
  · exact Or.inl ⟨a, fun x x0 x1 => by
      obtain ⟨u, u0, u1, u2⟩ := b x x0 x1
      exact ⟨u, u0, u1, (e u).mp u2⟩⟩
  · exact Or.inr ⟨a1, a2, fun u u0 u1 z => a3 u u0 u1 ((e u).mpr z), fun x x0 x1 => by
      obtain ⟨u, u0, u1, u2⟩ := a4 x x0 x1
      exact ⟨u, u0, u1, (e u).mp u2⟩⟩
/-- the free time by plain rows -/
theorem fr_725 (h : FB B m len fd lo A) (hm : m ≤ 12) (hg : g < 16) (l0 : 0 ≤ lo) (l1 : lo + len ≤ 750000) (n0 : 1 ≤ need) (n1 : need ≤ 600) (rb : RB B N m len g lo iw 4 0) : ∀ (r t mi : Nat) (run : Nat), mi + r = len → r + 1 < t → (run : Int) < need → run ≤ mi → (∀ i, mi - run ≤ i → i < mi → ¬ badM B m g iw (lo + (i : Nat))) → (run < mi → badM B m g iw (lo + (mi - run - 1 : Nat))) → (∀ a : Int, lo ≤ a → a + need ≤ lo + mi → ∃ u, a ≤ u ∧ u < a + need ∧ badM B m g iw u) → ∃ fr, f_Law_areFree_725 O f t 1 lo (len : Int) (g : Int) need iw 1054 1055 (run : Int) (-1) (mi : Int) N = f_Law_areFree_781 O f 1 lo (len : Int) (g : Int) need iw 1055 fr N ∧ freeR (badM B m g iw) lo (lo + len) need fr := by
  obtain ⟨u, rb1, rb2, rb3⟩ := rb
  have hN := h.un hm u
  obtain ⟨h1, h2, h3, h4, h5, h6, h7, h8, h9, h10⟩ := hN
  intro r
  induction r with
  | zero =>
    intro t mi run hk ht q1 q2 q3 q4 q5
    obtain ⟨t, rfl⟩ : ∃ n', t = n' + 1 := ⟨t - 1, by omega⟩
    obtain rfl : mi = len := by omega
    refine ⟨-1, ?_, Or.inl ⟨rfl, fun a a0 a1 => q5 a a0 a1⟩⟩
    show (if yw (mi : Int) ≤ yw (mi : Int) then _ else _) = _
    rw [le_T (by omega) (by omega) (by omega)]
  | succ r ih =>
    intro t mi run hk ht q1 q2 q3 q4 q5
    obtain ⟨t, rfl⟩ : ∃ n', t = n' + 1 := ⟨t - 1, by omega⟩
    have hmi : mi < len := by omega
    have old : iV N 1054 mi = bI (bdB B m g lo iw 4 mi) := by rw [rb3 mi hmi, if_neg (Nat.not_lt_zero _)]
    have rd : ∀ {X : Int → Option (Int × xM)}, (aJB O N 1054 (mi : Int)).bind X = X (bI (bdB B m g lo iw 4 mi)) := fun {X} => by
      have := z_aJB (O := O) (M := N) (k := 1054) (i := (mi : Int)) (A := X) ⟨by decide, by omega⟩ h8 (Or.inl rfl) (by omega) (by omega) (by omega)
      rw [show ((mi : Int)).toNat = mi by omega, old] at this
      exact this
    have bi := bad_iff (B := B) (m := m) (lo := lo) (iw := iw) (i := mi) hg
    show ∃ fr, (if yw (len : Int) ≤ yw (mi : Int) then _ else _) = _ ∧ _
    rw [le_F (by omega) (by omega) (by omega), eq_T rfl, rd]
    cases hb : bdB B m g lo iw 4 mi with
    | false =>
      have good : ¬ badM B m g iw (lo + mi) := fun z => by rw [bi.mpr z] at hb; exact absurd hb (by decide)
      rw [show bI false = 0 from rfl, eq_T rfl]
      unfold f_Law_areFree_754
      by_cases g1 : (run : Int) + 1 = need
      · refine ⟨lo + mi - need + 1, ?_, Or.inr ⟨by omega, by omega, fun v v0 v1 z => ?_, fun a a0 a1 => q5 a a0 (by omega)⟩⟩
        · obtain ⟨t, rfl⟩ : ∃ n', t = n' + 1 := ⟨t - 1, by omega⟩
          rw [eq_T g1]
          show (if yw (len : Int) ≤ yw ((mi : Int) + 1) then _ else _) = _
          by_cases g2 : (len : Int) ≤ (mi : Int) + 1
          · rw [le_T g2 (by omega) (by omega)]
          · rw [le_F (by omega) (by omega) (by omega), eq_F (by omega) (by omega) (by omega) (by omega) (by omega)]
        · have ev : lo + (((v - lo).toNat : Nat) : Int) = v := by omega
          by_cases c : v = lo + mi
          · rw [c] at z
            exact good z
          · refine q3 (v - lo).toNat (by omega) (by omega) ?_
            rw [ev]
            exact z
      · have qq := ih t (mi + 1) (run + 1) (by omega) (by omega) (by omega) (by omega) (fun i i0 i1 => by
          by_cases c : i = mi
          · rw [c]
            exact good
          · exact q3 i (by omega) (by omega)) (fun c => by
          rw [show mi + 1 - (run + 1) - 1 = mi - run - 1 by omega]
          exact q4 (by omega)) (fun a a0 a1 => by
          by_cases c : a + need ≤ lo + mi
          · exact q5 a a0 c
          · have rl : run < mi := by omega
            exact ⟨lo + ((mi - run - 1 : Nat) : Int), by omega, by omega, q4 rl⟩)
        rw [show ((mi + 1 : Nat) : Int) = (mi : Int) + 1 by omega, show ((run + 1 : Nat) : Int) = (run : Int) + 1 by omega] at qq
        rw [eq_F g1 (by omega) (by omega) (by omega) (by omega)]
        exact qq
    | true =>
      have isb : badM B m g iw (lo + mi) := bi.mp hb
      rw [show bI true = 1 from rfl, eq_F (by omega) (by omega) (by omega) (by omega) (by omega)]
      unfold f_Law_areFree_754
      have qq := ih t (mi + 1) 0 (by omega) (by omega) (by omega) (by omega) (fun i i0 i1 => by omega) (fun c => by
        rw [show mi + 1 - 0 - 1 = mi by omega]
        exact isb) (fun a a0 a1 => by
        by_cases c : a + need ≤ lo + mi
        · exact q5 a a0 c
        · exact ⟨lo + mi, by omega, by omega, isb⟩)
      rw [show ((mi + 1 : Nat) : Int) = (mi : Int) + 1 by omega] at qq
      rw [eq_F (by omega) (by omega) (by omega) (by omega) (by omega)]
      exact qq
theorem cst_B (h : FB B m len fd lo A) (hm : m ≤ 12) (hp : p < 4) (u : Un UB B N) {a l : Int} : cst N m p a l = cst B m p a l := by
  have e1 : cBz N m p a l = cBz B m p a l := propext ⟨fun ⟨v, v0, v1, v2⟩ => ⟨v, v0, v1, (bsyB h hm u).mp v2⟩, fun ⟨v, v0, v1, v2⟩ => ⟨v, v0, v1, (bsyB h hm u).mpr v2⟩⟩
  have e2 : cId N p a l = cId B p a l := propext ⟨fun ⟨v, v0, v1, v2⟩ => ⟨v, v0, v1, fun z => v2 ((wkB h hp u).mpr z)⟩, fun ⟨v, v0, v1, v2⟩ => ⟨v, v0, v1, fun z => v2 ((wkB h hp u).mp z)⟩⟩
  unfold cst
  rw [e1, e2]
theorem csm_B (h : FB B m len fd lo A) (hm : m ≤ 12) (u : Un UB B N) {a l : Int} : csm (fun q => cst N m q a l) g 4 = csm (fun q => cst B m q a l) g 4 := by
  have e : ∀ n, n ≤ 4 → csm (fun q => cst N m q a l) g n = csm (fun q => cst B m q a l) g n := by
    intro n
    induction n with
    | zero =>
      intro _
      show (0 : Int) = 0
      rfl
    | succ n ih =>
      intro hn
      show csm _ g n + (if g / 2 ^ n % 2 = 1 then cst N m n a l else 0) = csm _ g n + (if g / 2 ^ n % 2 = 1 then cst B m n a l else 0)
      rw [ih (by omega), cst_B h hm (show n < 4 by omega) u]
  exact e 4 (Nat.le_refl _)
/-- the greatest cost of a window -/
theorem fr_843 {K : Nat → Int → Int → Int → Int → Nat → Int → Int → Int → Int → Int → xM → Option (Int × xM)} {best least sum : Int} (h : FB B m len fd lo A) (hm : m ≤ 12) (hp : p < 4) (rb : RB B N m len g lo iw 4 0) (l0 : 0 ≤ lo) (l1 : lo + len ≤ 750000) (n0 : 1 ≤ need) (n1 : need ≤ 600) (hend : (mi : Int) + need ≤ len) : ∀ (r t j : Nat) (its : Int), (j : Int) + r = (mi : Int) + need → r < t → mi ≤ j → 0 ≤ its → its ≤ 3 → ((its = 3 ∧ ∃ i, mi ≤ i ∧ i < j ∧ zgB B m lo p i = true) ∨ (its = 1 ∧ (∀ i, mi ≤ i → i < j → zgB B m lo p i = false) ∧ ∃ i, mi ≤ i ∧ i < j ∧ agB B lo p i = false) ∨ (its = 0 ∧ (∀ i, mi ≤ i → i < j → zgB B m lo p i = false) ∧ ∀ i, mi ≤ i → i < j → agB B lo p i = true)) → f_Law_areFree_843 O f K t 1 lo (len : Int) (g : Int) need 1055 best least (mi : Int) sum (p : Int) its (j : Int) N = f_Law_areFree_880 O f K 1 lo (len : Int) (g : Int) need 1055 best least (mi : Int) sum (p : Int) (cst B m p (lo + mi) need) N := by
  obtain ⟨u, rb1, rb2, rb3⟩ := rb
  have hN := h.un hm u
  obtain ⟨h1, h2, h3, h4, h5, h6, h7, h8, h9, h10⟩ := hN
  obtain ⟨r1, r2, r3, r4, r5⟩ := h10 p hp
  have ix : ∀ {v : Int}, lo + (mi : Int) ≤ v → ∃ i : Nat, v = lo + (i : Int) ∧ mi ≤ i := fun {v} hv => ⟨(v - lo).toNat, by omega, by omega⟩
  have is3 : ∀ {j : Nat}, (j : Int) ≤ (mi : Int) + need → (∃ i, mi ≤ i ∧ i < j ∧ zgB B m lo p i = true) → cst B m p (lo + mi) need = 3 := fun hj ⟨i, i0, i1, i2⟩ => cst_3 ⟨lo + i, by omega, by omega, bB_iff.mp i2⟩
  intro r
  induction r with
  | zero =>
    intro t j its hk ht hj i0 i3 q
    obtain ⟨t, rfl⟩ : ∃ n', t = n' + 1 := ⟨t - 1, by omega⟩
    have ec : its = cst B m p (lo + mi) need := by
      rcases q with ⟨q1, q2⟩ | ⟨q1, q2, i, i1, i2, q3⟩ | ⟨q1, q2, q3⟩
      · rw [is3 (by omega) q2, q1]
      · rw [q1, cst_1]
        · rintro ⟨v, v0, v1, v2⟩
          obtain ⟨i', e', e2⟩ := ix v0
          rw [e'] at v2
          have := q2 i' e2 (by omega)
          rw [show zgB B m lo p i' = true from bB_iff.mpr v2] at this
          exact absurd this (by decide)
        · exact ⟨lo + i, by omega, by omega, bB_f.mp q3⟩
      · rw [q1, cst_0]
        · rintro ⟨v, v0, v1, v2⟩
          obtain ⟨i', e', e2⟩ := ix v0
          rw [e'] at v2
          have := q2 i' e2 (by omega)
          rw [show zgB B m lo p i' = true from bB_iff.mpr v2] at this
          exact absurd this (by decide)
        · rintro ⟨v, v0, v1, v2⟩
          obtain ⟨i', e', e2⟩ := ix v0
          rw [e'] at v2
          have := q3 i' e2 (by omega)
          rw [show agB B lo p i' = false from bB_f.mpr v2] at this
          exact absurd this (by decide)
    show (if yw ((mi : Int) + need) ≤ yw (j : Int) then _ else _) = _
    rw [le_T (by omega) (by omega) (by omega), ec]
  | succ r ih =>
    intro t j its hk ht hj i0 i3 q
    obtain ⟨t, rfl⟩ : ∃ n', t = n' + 1 := ⟨t - 1, by omega⟩
    show (if yw ((mi : Int) + need) ≤ yw (j : Int) then _ else _) = _
    rw [le_F (by omega) (by omega) (by omega)]
    by_cases g3 : its = 3
    · have q2 : ∃ i, mi ≤ i ∧ i < j ∧ zgB B m lo p i = true := by
        rcases q with ⟨q1, q2⟩ | ⟨q1, q2⟩ | ⟨q1, q2⟩
        · exact q2
        · omega
        · omega
      rw [le_T (by omega) (by omega) (by omega), is3 (by omega) q2, g3]
    · have row : ∀ {X : Nat → Option (Int × xM)}, (aJR O N 1055 (p : Int)).bind X = X (1056 + p) := fun {X} => z_aJR ⟨by decide, by omega⟩ h9 (by decide) (by omega) (by omega) (by omega) (by rw [show ((p : Int)).toNat = p by omega]; exact r4)
      have rd : ∀ {X : Int → Option (Int × xM)}, (aJ O N (1056 + p) (j : Int)).bind X = X (cM (zgB B m lo p j) (agB B lo p j)) := fun {X} => by
        have := z_aJ (O := O) (M := N) (k := 1056 + p) (i := (j : Int)) (A := X) ⟨by omega, by omega⟩ r5 (by omega) (by omega) (by omega)
        rw [show ((j : Int)).toNat = j by omega, rb1 p hp j (by omega)] at this
        exact this
      have cr := cM_r (zgB B m lo p j) (agB B lo p j)
      rw [le_F (by omega) (by omega) (by omega), row, rd, xc_of (e_max (by omega) (by omega) (by omega) (by omega))]
      have qq := ih t (j + 1) (max its (cM (zgB B m lo p j) (agB B lo p j))) (by omega) (by omega) (by omega) (by omega) (by omega) (by
        cases hz : zgB B m lo p j with
        | true =>
          refine Or.inl ⟨?_, j, hj, by omega, hz⟩
          show max its 3 = 3
          omega
        | false =>
          have nz : (∀ i, mi ≤ i → i < j → zgB B m lo p i = false) → ∀ i, mi ≤ i → i < j + 1 → zgB B m lo p i = false := fun z i a0 a1 => by
            by_cases c : i = j
            · rw [c]
              exact hz
            · exact z i a0 (by omega)
          cases ha : agB B lo p j with
          | true =>
            show (max its 0 = 3 ∧ _) ∨ _
            rcases q with ⟨q1, q2⟩ | ⟨q1, q2, i, a1, a2, a3⟩ | ⟨q1, q2, q3⟩
            · omega
            · refine Or.inr (Or.inl ⟨?_, nz q2, i, a1, by omega, a3⟩)
              show max its 0 = 1
              omega
            · refine Or.inr (Or.inr ⟨?_, nz q2, fun i a0 a1 => ?_⟩)
              · show max its 0 = 0
                omega
              · by_cases c : i = j
                · rw [c]
                  exact ha
                · exact q3 i a0 (by omega)
          | false =>
            show (max its 1 = 3 ∧ _) ∨ _
            have q2 : ∀ i, mi ≤ i → i < j → zgB B m lo p i = false := by
              rcases q with ⟨q1, q2⟩ | ⟨q1, q2, -⟩ | ⟨q1, q2, -⟩
              · omega
              · exact q2
              · exact q2
            refine Or.inr (Or.inl ⟨?_, nz q2, j, hj, by omega, ha⟩)
            show max its 1 = 1
            omega)
      rw [show ((j + 1 : Nat) : Int) = (j : Int) + 1 by omega] at qq
      exact qq
/-- a time's cost for all -/
theorem fr_830 {K : Nat → Int → Int → Int → Int → Nat → Int → Int → Int → xM → Option (Int × xM)} {best least : Int} (h : FB B m len fd lo A) (hm : m ≤ 12) (hg : g < 16) (rb : RB B N m len g lo iw 4 0) (l0 : 0 ≤ lo) (l1 : lo + len ≤ 750000) (n0 : 1 ≤ need) (n1 : need ≤ 600) (hend : (mi : Int) + need ≤ len) (hb : -1 ≤ best ∧ best ≤ 1000000) (hl : -1 ≤ least ∧ least ≤ 100) (hf : 1000 ≤ f) : ∀ (r t p : Nat), p + r = 4 → r < t → f_Law_areFree_830 O f K t 1 lo (len : Int) (g : Int) need 1055 best least (mi : Int) (csm (fun q => cst B m q (lo + mi) need) g p) (p : Int) N = if best = -1 ∨ csm (fun q => cst B m q (lo + mi) need) g 4 < least then K 1 lo (len : Int) (g : Int) need 1055 (lo + mi) (csm (fun q => cst B m q (lo + mi) need) g 4) ((mi : Int) + 15) N else K 1 lo (len : Int) (g : Int) need 1055 best least ((mi : Int) + 15) N := by
  intro r
  induction r with
  | zero =>
    intro t p hk ht
    obtain ⟨t, rfl⟩ : ∃ n', t = n' + 1 := ⟨t - 1, by omega⟩
    obtain rfl : p = 4 := by omega
    have cr := csm_r (c := fun q => cst B m q (lo + mi) need) (g := g) (fun q => cst_r) 4
    show (if yw 4 ≤ yw ((4 : Nat) : Int) then _ else _) = _
    rw [le_T (by omega) (by omega) (by omega)]
    by_cases g1 : best = -1
    · rw [eq_T g1, if_pos (Or.inl g1)]
      rfl
    · rw [eq_F g1 (by omega) (by omega) (by omega) (by omega)]
      by_cases g2 : csm (fun q => cst B m q (lo + mi) need) g 4 < least
      · rw [lt_T g2 (by omega) (by omega), if_pos (Or.inr g2)]
        rfl
      · rw [lt_F (by omega) (by omega) (by omega), if_neg (fun z => z.elim g1 g2)]
  | succ r ih =>
    intro t p hk ht
    obtain ⟨t, rfl⟩ : ∃ n', t = n' + 1 := ⟨t - 1, by omega⟩
    have q := ih t (p + 1) (by omega) (by omega)
    have e := fr_843 (O := O) (f := f) (K := f_Law_areFree_830 O f K t) (best := best) (least := least) (sum := csm (fun q => cst B m q (lo + mi) need) g p) h hm (show p < 4 by omega) rb l0 l1 n0 n1 hend need.toNat f mi 0 (by omega) (by omega) (Nat.le_refl _) (by omega) (by omega) (Or.inr (Or.inr ⟨rfl, fun i i0 i1 => by omega, fun i i0 i1 => by omega⟩))
    rw [show ((p + 1 : Nat) : Int) = (p : Int) + 1 by omega] at q
    have st : csm (fun q => cst B m q (lo + mi) need) g (p + 1) = csm (fun q => cst B m q (lo + mi) need) g p + (if g / 2 ^ p % 2 = 1 then cst B m p (lo + mi) need else 0) := rfl
    rw [st] at q
    show (if yw 4 ≤ yw (p : Int) then _ else _) = _
    rw [le_F (by omega) (by omega) (by omega), e]
    unfold f_Law_areFree_880 f_Law_areFree_899
    rw [bit_g (by omega) (by omega)]
    by_cases b : g / 2 ^ p % 2 = 1
    · rw [eq_T (by omega)]
      rw [if_pos b] at q
      exact q
    · rw [eq_F (by omega) (by omega) (by omega) (by omega) (by omega)]
      rw [if_neg b] at q
      exact q
end FEN
end
/-! draft 637.freebest -/
section
/-! ===== the law of free times: the best time ===== -/
theorem fmin_uniq {C : Nat → Int} {n b b' : Nat} (h : fmin C n b) (h' : fmin C n b') : b = b' := by
  obtain ⟨h1, h2, h3⟩ := h
  obtain ⟨g1, g2, g3⟩ := h'
  rcases Nat.lt_trichotomy b b' with q | q | q
  · have := g3 b q
    have := h2 b' g1
    omega
  · exact q
  · have := h3 b' q
    have := g2 b h1
    omega
section FBE
variable {O : Nat → Option va_E} {f m p k n len g mi : Nat} {B M N : xM} {x fd lo need iw : Int} {A : List Int}
theorem P9_UB (u : Un P9 N M) (h : Un UB B N) : Un UB B M := h.tr (u.le (fun q z => by unfold UB at z; unfold P9; omega))
theorem RB.p9 (h : RB B N m len g lo iw p mi) (u : Un P9 N M) : RB B M m len g lo iw p mi := by
  obtain ⟨a, b, c, d⟩ := h
  refine ⟨P9_UB u a, fun q hq i hi => ?_, fun i hi => ?_, fun i hi => ?_⟩
  · rw [u.i (show P9 (1056 + q) by unfold P9; omega)]
    exact b q hq i hi
  · rw [u.i (show P9 (1056 + p) by unfold P9; omega)]
    exact c i hi
  · rw [u.i (show P9 1054 by unfold P9; omega)]
    exact d i hi
theorem fr_814 (h : FB B m len fd lo A) (hm : m ≤ 12) (hg : g < 16) (g0 : 1 ≤ g) (rb : RB B N m len g lo iw 4 0) (l0 : 131001 ≤ lo) (l1 : lo + len ≤ 750000) (l100 : len ≤ 4400) (ln1 : 1 ≤ len) (n0 : 1 ≤ need) (n1 : need ≤ 600) (hf : 10000 ≤ f) {T : Nat} (hT : (need ≤ len ∧ (T : Int) = ((len : Int) - need) / 15 + 1) ∨ ((len : Int) < need ∧ T = 0)) : ∀ (r t k : Nat) (best least : Int), k + r = T → r < t → ((k = 0 ∧ best = -1 ∧ least = -1) ∨ ∃ b : Nat, fmin (fun j => csm (fun q => cst B m q (lo + 15 * (j : Int)) need) g 4) k b ∧ best = lo + 15 * (b : Int) ∧ least = csm (fun q => cst B m q (lo + 15 * (b : Int)) need) g 4) → ∃ N', f_Law_areFree_814 O f t 1 lo (len : Int) (g : Int) need 1055 best least (15 * (k : Int)) N = some (1, N') ∧ N'.1 = N.1 ∧ N'.2.1 = N.2.1 := by
  have Z : lo + (len : Int) - lo = len := by omega
  intro r
  induction r with
  | zero =>
    intro t k best least hk ht q
    obtain ⟨t, rfl⟩ : ∃ n', t = n' + 1 := ⟨t - 1, by omega⟩
    obtain rfl : k = T := by omega
    have hN := h.un hm rb.1
    have w := hN.1.1.1.1
    obtain ⟨r1, N1, e1, u1, q1⟩ := best_ok (O := O) (f := f) (g := g) (lo := lo) (hi := lo + len) (len := need) (ic := 0) hN.1 hm hg g0 (Or.inl rfl) (by omega) (by omega) l1 (by omega) n0 n1 hf
    have ub1 := P9_UB u1 rb.1
    have hN1 := h.un hm ub1
    have w1 := hN1.1.1.1.1
    obtain ⟨r2, N2, e2, u2, q2⟩ := best_ok (O := O) (f := f) (g := g) (lo := lo) (hi := lo + len) (len := need) (ic := 1) hN1.1 hm hg g0 (Or.inr rfl) (by omega) (by omega) l1 (by omega) n0 n1 hf
    rw [Z] at q1 q2
    refine ⟨N2, ?_, by rw [u2.1.1, u1.1.1], by rw [u2.1.2.1, u1.1.2.1]⟩
    have eq12 : r1 = best ∧ r2 = least := by
      rcases hT with ⟨t1, t2⟩ | ⟨t1, t2⟩
      · rcases q with ⟨a1, -⟩ | ⟨b, b1, b2, b3⟩
        · omega
        · have tn : (((len : Int) - need) / 15 + 1).toNat = k := by omega
          rcases q1 with ⟨c1, -⟩ | ⟨-, b', c2, c3⟩
          · omega
          · rcases q2 with ⟨d1, -⟩ | ⟨-, b'', d2, d3⟩
            · omega
            · have f1 : fmin (fun j => csm (fun q => cst B m q (lo + 15 * (j : Int)) need) g 4) k b' := by
                rw [← tn]
                have e : (fun j : Nat => csm (fun q => cst N m q (lo + 15 * (j : Int)) need) g 4) = (fun j : Nat => csm (fun q => cst B m q (lo + 15 * (j : Int)) need) g 4) := funext (fun j => csm_B h hm rb.1)
                rw [← e]
                exact c2
              have f2 : fmin (fun j => csm (fun q => cst B m q (lo + 15 * (j : Int)) need) g 4) k b'' := by
                rw [← tn]
                have e : (fun j : Nat => csm (fun q => cst N1 m q (lo + 15 * (j : Int)) need) g 4) = (fun j : Nat => csm (fun q => cst B m q (lo + 15 * (j : Int)) need) g 4) := funext (fun j => csm_B h hm ub1)
                rw [← e]
                exact d2
              have z1 := fmin_uniq f1 b1
              have z2 := fmin_uniq f2 b1
              rw [if_pos rfl, z1] at c3
              rw [if_neg (by decide), z2, csm_B h hm ub1] at d3
              exact ⟨c3.trans b2.symm, d3.trans b3.symm⟩
      · rcases q with ⟨a1, a2, a3⟩ | ⟨b, b1, -⟩
        · rcases q1 with ⟨c1, c2⟩ | ⟨c1, -⟩
          · rcases q2 with ⟨d1, d2⟩ | ⟨d1, -⟩
            · omega
            · omega
          · omega
        · have := b1.1
          omega
    show (if yw (len : Int) < yw (15 * (k : Int) + need) then _ else _) = _
    rw [lt_T (by omega) (by omega) (by omega), a_Cal_is w, e1, xcl_e, eq_T eq12.1, a_Cal_is w1, e2, xcl_e, eq_T eq12.2]
  | succ r ih =>
    intro t k best least hk ht q
    obtain ⟨t, rfl⟩ : ∃ n', t = n' + 1 := ⟨t - 1, by omega⟩
    have fits : ((15 * k : Nat) : Int) + need ≤ len := by omega
    have mk : ((15 * k : Nat) : Int) = 15 * (k : Int) := by omega
    have cr : ∀ j : Nat, 0 ≤ csm (fun q => cst B m q (lo + 15 * (j : Int)) need) g 4 ∧ csm (fun q => cst B m q (lo + 15 * (j : Int)) need) g 4 ≤ 12 := fun j => by
      have := csm_r (c := fun q => cst B m q (lo + 15 * (j : Int)) need) (g := g) (fun q => cst_r) 4
      omega
    have bb : -1 ≤ best ∧ best ≤ 1000000 := by
      rcases q with ⟨-, a2, -⟩ | ⟨b, b1, b2, -⟩
      · omega
      · have := b1.1
        omega
    have bl : -1 ≤ least ∧ least ≤ 100 := by
      rcases q with ⟨-, -, a3⟩ | ⟨b, b1, -, b3⟩
      · omega
      · have := cr b
        omega
    have e := fr_830 (O := O) (f := f) (K := f_Law_areFree_814 O f t) (mi := 15 * k) (best := best) (least := least) h hm hg rb (by omega) l1 n0 n1 fits bb bl (by omega) 4 f 0 (by omega) (by omega)
    rw [mk] at e
    have e' : f_Law_areFree_830 O f (f_Law_areFree_814 O f t) f 1 lo (len : Int) (g : Int) need 1055 best least (15 * (k : Int)) 0 0 N = _ := e
    have crk := cr k
    show ∃ N', (if yw (len : Int) < yw (15 * (k : Int) + need) then _ else _) = _ ∧ _
    rw [lt_F (by omega) (by omega) (by omega), e', show 15 * (k : Int) + 15 = 15 * ((k + 1 : Nat) : Int) by omega]
    by_cases c : best = -1 ∨ csm (fun q => cst B m q (lo + 15 * (k : Int)) need) g 4 < least
    · rw [if_pos c]
      refine ih t (k + 1) _ _ (by omega) (by omega) (Or.inr ⟨k, ⟨by omega, fun i hi => ?_, fun i hi => ?_⟩, rfl, rfl⟩)
      · by_cases z : i = k
        · rw [z]
          exact Int.le_refl _
        · rcases q with ⟨a1, -⟩ | ⟨b, b1, b2, b3⟩
          · omega
          · have := b1.2.1 i (by omega)
            have c' : csm (fun q => cst B m q (lo + 15 * (k : Int)) need) g 4 < least := by
              rcases c with z | z
              · omega
              · exact z
            show csm _ g 4 ≤ csm _ g 4
            have t2 : csm (fun q => cst B m q (lo + 15 * (b : Int)) need) g 4 ≤ csm (fun q => cst B m q (lo + 15 * (i : Int)) need) g 4 := this
            omega
      · rcases q with ⟨a1, -⟩ | ⟨b, b1, b2, b3⟩
        · omega
        · have := b1.2.1 i (by omega)
          have c' : csm (fun q => cst B m q (lo + 15 * (k : Int)) need) g 4 < least := by
            rcases c with z | z
            · omega
            · exact z
          show csm _ g 4 < csm _ g 4
          have t2 : csm (fun q => cst B m q (lo + 15 * (b : Int)) need) g 4 ≤ csm (fun q => cst B m q (lo + 15 * (i : Int)) need) g 4 := this
          omega
    · rw [if_neg c]
      refine ih t (k + 1) _ _ (by omega) (by omega) ?_
      rcases q with ⟨-, a2, -⟩ | ⟨b, b1, b2, b3⟩
      · exact (c (Or.inl a2)).elim
      · refine Or.inr ⟨b, ⟨by have := b1.1; omega, fun i hi => ?_, b1.2.2⟩, b2, b3⟩
        by_cases z : i = k
        · rw [z]
          show csm _ g 4 ≤ csm _ g 4
          have : ¬ csm (fun q => cst B m q (lo + 15 * (k : Int)) need) g 4 < least := fun w => c (Or.inr w)
          omega
        · exact b1.2.1 i (by omega)
theorem fr_781 {fr : Int} (h : FB B m len fd lo A) (hm : m ≤ 12) (hg : g < 16) (g0 : 1 ≤ g) (hiw : iw = 0 ∨ iw = 1) (rb : RB B N m len g lo iw 4 0) (l0 : 131001 ≤ lo) (l1 : lo + len ≤ 750000) (l100 : len ≤ 4400) (ln1 : 1 ≤ len) (n0 : 1 ≤ need) (n1 : need ≤ 600) (hf : 10000 ≤ f) (hfr : freeR (badM B m g iw) lo (lo + len) need fr) : ∃ N', f_Law_areFree_781 O f 1 lo (len : Int) (g : Int) need iw 1055 fr N = some (1, N') ∧ N'.1 = N.1 ∧ N'.2.1 = N.2.1 := by
  have hN := h.un hm rb.1
  have w := hN.1.1.1.1
  obtain ⟨r, N1, e1, u1, q1⟩ := freeNext_ok (O := O) (f := f) (g := g) (iw := iw) (lo := lo) (hi := lo + len) (len := need) hN.1 hm hg g0 hiw (by omega) (by omega) l1 (by omega) n0 n1 hf
  have be : ∀ v, badM N m g iw v ↔ badM B m g iw v := fun v => by
    have iv : ∀ b j, b < 116 → iV N b j = iV B b j := fun b j hb => rb.1.i (UB_116 hb)
    have e1 : bsy N m (tpS N g) v ↔ bsy B m (tpS B g) v := (bsy_S (fun k hk => by
      unfold tpS
      constructor
      · rintro ⟨q, q1, q2, q3⟩
        refine ⟨q, q1, q2, ?_⟩
        unfold tp at q3 ⊢
        rw [← iv _ _ (by omega), ← iv _ _ (by omega)]
        exact q3
      · rintro ⟨q, q1, q2, q3⟩
        refine ⟨q, q1, q2, ?_⟩
        unfold tp at q3 ⊢
        rw [iv _ _ (by omega), iv _ _ (by omega)]
        exact q3)).trans (bsy_of h.1.1 hm (fun b j _ hb => iv b j hb))
    have e2 : idS N g v ↔ idS B g v := ⟨fun ⟨q, q1, q2, q3⟩ => ⟨q, q1, q2, fun z => q3 ((wkB h q1 rb.1).mpr z)⟩, fun ⟨q, q1, q2, q3⟩ => ⟨q, q1, q2, fun z => q3 ((wkB h q1 rb.1).mp z)⟩⟩
    unfold badM
    rw [e1, e2]
  have er : r = fr := free_uniq (by omega) (freeR_of be q1) hfr
  have rb1 := rb.p3 u1
  obtain ⟨T, hT⟩ : ∃ T : Nat, (need ≤ len ∧ (T : Int) = ((len : Int) - need) / 15 + 1) ∨ ((len : Int) < need ∧ T = 0) := by
    by_cases c : need ≤ len
    · exact ⟨(((len : Int) - need) / 15 + 1).toNat, Or.inl ⟨c, by omega⟩⟩
    · exact ⟨0, Or.inr ⟨by omega, rfl⟩⟩
  obtain ⟨N', e', z1, z2⟩ := fr_814 (O := O) (f := f) h hm hg g0 rb1 l0 l1 l100 ln1 n0 n1 hf hT T f 0 (-1) (-1) (by omega) (by omega) (Or.inl ⟨rfl, rfl, rfl⟩)
  refine ⟨N', ?_, by rw [z1, u1.1.1], by rw [z2, u1.1.2.1]⟩
  have e'' : f_Law_areFree_814 O f f 1 lo (len : Int) (g : Int) need 1055 (-1) (-1) 0 N1 = some (1, N') := e'
  unfold f_Law_areFree_781
  rw [a_Cal_is w, e1, xcl_e, eq_T er]
  exact e''
/-- from the rows' making on -/
theorem fr_rows (h : FB B m len fd lo A) (hm : m ≤ 12) (hg : g < 16) (g0 : 1 ≤ g) (hiw : iw = 0 ∨ iw = 1) (hA : A.length ≤ 132) (l0 : 131001 ≤ lo) (l60 : lo % 60 = 0) (l1 : lo + len ≤ 750000) (l100 : len ≤ 4400) (ln1 : 1 ≤ len) (n0 : 1 ≤ need) (n1 : need ≤ 600) (hz : ∀ i, i < len → iV B 1054 i = 0) (hf : 10000 ≤ f) : ∃ N', f_Law_areFree_326 O f f 1 1044 lo (len : Int) 1049 (g : Int) need iw 1054 1055 0 B = some (1, N') ∧ N'.1 = B.1 ∧ N'.2.1 = B.2.1 := by
  have rb0 : RB B B m len g lo iw 0 0 := ⟨Un.rf, fun q hq => absurd hq (Nat.not_lt_zero _), fun i hi => absurd hi (Nat.not_lt_zero _), fun i hi => by
    rw [hz i hi, if_neg (Nat.not_lt_zero _)]
    rfl⟩
  obtain ⟨N1, e1, rb1⟩ := fr_326 (O := O) (f := f) (need := need) h hm hg hiw hA l0 l60 l1 l100 ln1 hf 4 f 0 B (by omega) (by omega) rb0
  obtain ⟨fr, e2, hfr⟩ := fr_725 (O := O) (f := f) h hm hg (by omega) l1 n0 n1 rb1 len f 0 0 (by omega) (by omega) (by omega) (by omega) (fun i i0 i1 => by omega) (fun c => by omega) (fun a a0 a1 => by omega)
  obtain ⟨N', e3, z1, z2⟩ := fr_781 (O := O) (f := f) h hm hg g0 hiw rb1 l0 l1 l100 ln1 n0 n1 hf hfr
  refine ⟨N', ?_, by rw [z1, rb1.1.1.1], by rw [z2, rb1.1.1.2.1]⟩
  have e1' : f_Law_areFree_326 O f f 1 1044 lo (len : Int) 1049 (g : Int) need iw 1054 1055 0 B = _ := e1
  have e2' : f_Law_areFree_725 O f f 1 lo (len : Int) (g : Int) need iw 1054 1055 0 (-1) 0 N1 = _ := e2
  rw [e1', e2', e3]
end FBE
end
/-! draft 638.freefront -/
section
/-! ===== the law of free times: what it draws ===== -/
def ZZ (M : xM) : Prop := (∀ z, z < 3 → ZD M z) ∧ ∀ z, z < 3 → iV M (12 + 3 * z) 0 % 60 = 0 ∧ (iV M (12 + 3 * z) 1 = 0 ∨ iV M (12 + 3 * z) 1 = 60)
/-- so many persons are set, and the law's rows tell their hours -/
def HA (M : xM) (m p : Nat) (fd : Int) : Prop := SR M m fd ∧ ZZ M ∧ M.1 = 1045 + p ∧ mS M 1044 = .inr (5, 4) ∧ ∀ q, q < p → PV M q ∧ (iV M (21 + q) 2 % 60 = 0 ∧ iV M (21 + q) 3 % 60 = 0) ∧ mR M 1044 q = some (1045 + q) ∧ mS M (1045 + q) = .inr (0, 4) ∧ ∀ j, j < 4 → iV M (1045 + q) j = iV M (21 + q) j
section FFR
variable {O : Nat → Option va_E} {f m p k n : Nat} {M N : xM} {fd : Int}
theorem ZZ.of (h : ZZ M) (e : ∀ b j, 12 ≤ b → b < 21 → iV N b j = iV M b j) : ZZ N := by
  refine ⟨fun z hz => (h.1 z hz).of (fun a j h1 h2 => e a j (by omega) (by omega)), fun z hz => ?_⟩
  rw [e _ _ (by omega) (by omega), e _ _ (by omega) (by omega)]
  exact h.2 z hz
theorem SR.of2 (h : SR M m fd) (hm : m ≤ 12) (b : Bs N) (e : ∀ b j, (12 ≤ b ∧ b < 21) ∨ (29 ≤ b ∧ b < 101) → iV N b j = iV M b j) : SR N m fd := ⟨b, fun z hz => (h.2.1 z hz).of (fun a j h1 h2 => e a j (by omega)), fun k hk => (h.2.2.1 k hk).of (fun a j h1 h2 => e a j (by omega)), fun k h1 h2 => by rw [e (29 + 6 * k) 0 (by omega)]; exact h.2.2.2 k h1 h2⟩
theorem fr_13 (hf : 100 ≤ f) : ∀ (r t k : Nat) (M : xM), k + r = 3 → r < t → SR M 0 fd → ZZ M → ∃ t' N, f_Law_areFree_13 O f t 1 0 fd (k : Int) M = f_Law_areFree_13 O f (t' + 1) 1 0 fd 3 N ∧ SR N 0 fd ∧ ZZ N ∧ N.1 = M.1 ∧ N.2.1 = M.2.1 := by
  intro r
  induction r with
  | zero =>
    intro t k M hk ht h z
    obtain ⟨t, rfl⟩ : ∃ n', t = n' + 1 := ⟨t - 1, by omega⟩
    obtain rfl : k = 3 := by omega
    exact ⟨t, M, rfl, h, z, rfl, rfl⟩
  | succ r ih =>
    intro t k M hk ht h z
    obtain ⟨t, rfl⟩ : ∃ n', t = n' + 1 := ⟨t - 1, by omega⟩
    have hw := h.1.1
    have kz : ((k : Int)).toNat = k := by omega
    have dr : ∀ {A B : xM}, SR A 0 fd → ZZ A → Un (fun a => a ≠ 0) A B → SR B 0 fd ∧ ZZ B := fun hA zA u => ⟨hA.un (by omega) u (hA.1.un u (by (try dsimp only); omega) (fun j hj => by (try dsimp only); omega)) (fun a h1 h2 => by (try dsimp only); omega), zA.of (fun b j h1 h2 => u.i (by (try dsimp only); omega))⟩
    obtain ⟨x1, M1, e1, hx1, w1, u1, i1⟩ := di_ok (O := O) (f := f) (m := 2) hw (by omega) (by omega)
    have D1 := dr h z u1
    have go : ∀ N : xM, SR N 0 fd → ZZ N → N.1 = M.1 → N.2.1 = M.2.1 → ∃ t' N', f_Law_areFree_13 O f t 1 0 fd ((k : Int) + 1) N = f_Law_areFree_13 O f (t' + 1) 1 0 fd 3 N' ∧ SR N' 0 fd ∧ ZZ N' ∧ N'.1 = M.1 ∧ N'.2.1 = M.2.1 := fun N a b c d => by
      obtain ⟨t', N', e', q1, q2, q3, q4⟩ := ih t (k + 1) N (by omega) (by omega) a b
      rw [show ((k + 1 : Nat) : Int) = (k : Int) + 1 by omega] at e'
      exact ⟨t', N', e', q1, q2, by omega, by omega⟩
    show ∃ t' N', (if yw 3 ≤ yw (k : Int) then _ else _) = _ ∧ _
    rw [le_F (by omega) (by omega) (by omega), hw.is (k := 0) (ci := 15) (by decide) (by decide), e1, xcl_e]
    rcases hx1 with rfl | rfl
    · rw [eq_T rfl]
      exact go M1 D1.1 D1.2 u1.1.1 u1.1.2.1
    · obtain ⟨x2, M2, e2, x20, x21, w2, u2, i2⟩ := dn_ok (O := O) (f := f) (m := 9) w1 (by omega) (by omega)
      have D2 := dr D1.1 D1.2 u2
      obtain ⟨x3, M3, e3, x30, x31, w3, u3, i3⟩ := dn_ok (O := O) (f := f) (m := 2) w2 (by omega) (by omega)
      have D3 := dr D2.1 D2.2 u3
      obtain ⟨M4, y, e4, b4, u4, v1, v2⟩ := sz_ok (O := O) (f := f) (z := (k : Int)) (p := 4 * (x2 - 4)) (q := 4 * x3) D3.1.1 (by omega) (by omega) (by omega) (by omega) (by omega) (by omega) (by omega)
      rw [show 15 * (4 * (x2 - 4)) = 60 * (x2 - 4) by omega, show 15 * (4 * x3) = 60 * x3 by omega] at e4
      rw [kz] at u4 v1 v2
      have u4' : ∀ b j, 12 ≤ b → b < 101 → b ≠ 12 + 3 * k → iV M4 b j = iV M3 b j := fun b j h1 h2 h3 => u4.i (by (try dsimp only); omega)
      have zd4 : ∀ z, z < 3 → ZD M4 z := fun z hz => by
        by_cases g : z = k
        · obtain ⟨⟨q1, q2, q3, q4, q5, q6⟩, q7⟩ := D3.2.1 z hz
          subst g
          refine ⟨⟨by omega, by omega, by omega, by omega, ?_, ?_⟩, ?_⟩
          · unfold rV at q5 ⊢
            simp (disch := omega) only [u4']
            exact q5
          · unfold rV at q6 ⊢
            simp (disch := omega) only [u4']
            exact q6
          · simp (disch := omega) only [u4']
            exact q7
        · exact (D3.2.1 z hz).of (fun a j h1 h2 => u4' a j (by omega) (by omega) (by omega))
      have Z4 : ZZ M4 := ⟨zd4, fun z hz => by
        by_cases g : z = k
        · rw [g, v1, v2]
          omega
        · rw [u4' _ _ (by omega) (by omega) (by omega), u4' _ _ (by omega) (by omega) (by omega)]
          exact D3.2.2 z hz⟩
      have S4 : SR M4 0 fd := ⟨b4, fun z hz => (zd4 z hz).1, fun k hk => absurd hk (Nat.not_lt_zero _), fun j h1 h2 => by rw [u4' _ _ (by omega) (by omega) (by omega)]; exact D3.1.2.2.2 j h1 h2⟩
      rw [eq_F (by omega) (by omega) (by omega) (by omega) (by omega), w1.is (k := 0) (ci := 15) (by decide) (by decide), e2, xcl_e, w2.is (k := 0) (ci := 15) (by decide) (by decide), e3, xcl_e, a_Cal_is w3, e4, xcl_e]
      exact go M4 S4 Z4 (by rw [u4.1.1, u3.1.1, u2.1.1, u1.1.1]) (by rw [u4.1.2.1, u3.1.2.1, u2.1.2.1, u1.1.2.1])
theorem wd_rS {k j v : Nat} (hk : 1044 ≤ k) (w : Wd M) : Wd (rS M k j v) := by
  obtain ⟨w1, w2, w3, w4⟩ := w
  refine ⟨w1, w2, w3, fun a i r ha hr => ?_⟩
  have e : mR (rS M k j v) a = mR M a := if_neg (by omega)
  rw [e]
  exact w4 a i r ha hr
/-- a person's hours put into the rows, and set -/
theorem fr_175 {K : Nat → Nat → Int → Int → Nat → Int → xM → Option (Int × xM)} {v2 v3 : Int} (hm : m ≤ 12) (hp : p < 4) (hS : SR N m fd) (hZ : ZZ N) (hn : N.1 = 1046 + p) (s44 : mS N 1044 = .inr (5, 4)) (old : ∀ q, q < p → PV N q ∧ (iV N (21 + q) 2 % 60 = 0 ∧ iV N (21 + q) 3 % 60 = 0) ∧ mR N 1044 q = some (1045 + q) ∧ mS N (1045 + q) = .inr (0, 4) ∧ ∀ j, j < 4 → iV N (1045 + q) j = iV N (21 + q) j) (sp : mS N (1045 + p) = .inr (0, 4)) (z : 0 ≤ iV N (1045 + p) 0 ∧ iV N (1045 + p) 0 < 3) (d : 0 ≤ iV N (1045 + p) 1 ∧ iV N (1045 + p) 1 ≤ 127) (a : 0 ≤ iV N (1045 + p) 2 ∧ iV N (1045 + p) 2 < iV N (1045 + p) 3 ∧ iV N (1045 + p) 3 ≤ 1440) (h60 : iV N (1045 + p) 2 % 60 = 0 ∧ iV N (1045 + p) 3 % 60 = 0) (hf : 20 ≤ f) : ∃ N', f_Law_areFree_175 O f K 1 0 v2 v3 1044 (p : Int) 1044 (p : Int) (1045 + p) N = K 1 0 v2 v3 1044 ((p : Int) + 1) N' ∧ HA N' m (p + 1) fd ∧ N'.2.1 = N.2.1 := by
  have w := hS.1.1
  obtain ⟨N1, eN1⟩ : ∃ N1, N1 = rS N 1044 p (1045 + p) := ⟨_, rfl⟩
  have w1 : Wd N1 := by rw [eN1]; exact wd_rS (by decide) w
  have iv1 : ∀ b j, iV N1 b j = iV N b j := fun b j => by rw [eN1]; rfl
  have b1 : Bs N1 := by
    obtain ⟨q1, q2, q3⟩ := hS.1
    refine ⟨w1, ?_, ?_⟩
    · unfold Sv
      simp only [iv1]
      exact q2
    · intro k hk
      simp only [iv1]
      exact q3 k hk
  have s1 : ∀ b, mS N1 b = mS N b := fun b => by rw [eN1]; rfl
  have r1 : ∀ j, mR N1 1044 j = if j = p then some (1045 + p) else mR N 1044 j := fun j => by
    rw [eN1]
    show (if 1044 = 1044 then mup (mR N 1044) p (some (1045 + p)) else mR N 1044) j = _
    rw [if_pos rfl]
    rfl
  have hn1 : N1.1 = N.1 ∧ N1.2.1 = N.2.1 := by rw [eN1]; exact ⟨rfl, rfl⟩
  have put : ∀ {X : xM → Option (Int × xM)}, (wJR O N 1044 (p : Int) (1045 + p)).bind X = X N1 := fun {X} => by
    have := z_wJR (O := O) (M := N) (k := 1044) (v := 1045 + p) (i := (p : Int)) (K := X) ⟨by decide, by omega⟩ s44 ⟨by omega, by omega⟩ sp (by omega) (by omega) (by omega)
    rw [show ((p : Int)).toNat = p by omega, ← eN1] at this
    exact this
  have row : ∀ {X : Nat → Option (Int × xM)}, (aJR O N1 1044 (p : Int)).bind X = X (1045 + p) := fun {X} => z_aJR ⟨by decide, by omega⟩ (by rw [s1]; exact s44) (by decide) (by omega) (by omega) (by omega) (by rw [show ((p : Int)).toNat = p by omega, r1, if_pos rfl])
  have rd : ∀ (j : Nat) {X : Int → Option (Int × xM)}, j < 4 → (aJ O N1 (1045 + p) (j : Int)).bind X = X (iV N (1045 + p) j) := fun j {X} hj => by
    have := z_aJ (O := O) (M := N1) (k := 1045 + p) (i := (j : Int)) (A := X) ⟨by omega, by omega⟩ (by rw [s1]; exact sp) (by omega) (by omega) (by omega)
    rw [show ((j : Int)).toNat = j by omega, iv1] at this
    exact this
  have rd0 : ∀ {X : Int → Option (Int × xM)}, (aJ O N1 (1045 + p) 0).bind X = X (iV N (1045 + p) 0) := fun {X} => rd 0 (by decide)
  have rd1 : ∀ {X : Int → Option (Int × xM)}, (aJ O N1 (1045 + p) 1).bind X = X (iV N (1045 + p) 1) := fun {X} => rd 1 (by decide)
  have rd2 : ∀ {X : Int → Option (Int × xM)}, (aJ O N1 (1045 + p) 2).bind X = X (iV N (1045 + p) 2) := fun {X} => rd 2 (by decide)
  have rd3 : ∀ {X : Int → Option (Int × xM)}, (aJ O N1 (1045 + p) 3).bind X = X (iV N (1045 + p) 3) := fun {X} => rd 3 (by decide)
  obtain ⟨N2, y, e2, b2, u2, c0, c1, c2, c3⟩ := setPerson_ok (O := O) (f := f) (p := p) (pp := (p : Int)) b1 rfl (by omega) z.1 z.2 d.1 d.2 a.1 a.2.1 a.2.2 hf
  have iv2 : ∀ b j, 1 < b → b < 140 → b ≠ 21 + p → iV N2 b j = iV N b j := fun b j q1 q2 q3 => by rw [u2.i (by (try dsimp only); omega), iv1]
  have iv3 : ∀ b j, 1044 ≤ b → iV N2 b j = iV N b j := fun b j q1 => by rw [u2.i (by (try dsimp only); omega), iv1]
  refine ⟨N2, ?_, ⟨hS.of2 hm b2 (fun b j q => iv2 b j (by omega) (by omega) (by omega)), hZ.of (fun b j q1 q2 => iv2 b j (by omega) (by omega) (by omega)), by rw [u2.1.1, hn1.1]; omega, by rw [u2.1.s, s1]; exact s44, fun q hq => ?_⟩, by rw [u2.1.2.1, hn1.2]⟩
  · unfold f_Law_areFree_175
    rw [put, row, rd0, row, rd1, row, rd2, row, rd3, a_Cal_is w1, e2, xcl_e]
  · by_cases g : q = p
    · subst g
      refine ⟨?_, by rw [c2, c3]; exact h60, by rw [u2.1.r, r1, if_pos rfl], by rw [u2.1.s, s1]; exact sp, fun j hj => ?_⟩
      · unfold PV
        rw [c0, c1, c2, c3]
        exact ⟨z, d, a.1, a.2.1, a.2.2⟩
      · rw [iv3 _ _ (by omega)]
        have : j = 0 ∨ j = 1 ∨ j = 2 ∨ j = 3 := by omega
        rcases this with rfl | rfl | rfl | rfl
        · exact c0.symm
        · exact c1.symm
        · exact c2.symm
        · exact c3.symm
    · obtain ⟨o1, o2, o3, o4, o5⟩ := old q (by omega)
      refine ⟨?_, by rw [iv2 _ _ (by omega) (by omega) (by omega), iv2 _ _ (by omega) (by omega) (by omega)]; exact o2, by rw [u2.1.r, r1, if_neg g]; exact o3, by rw [u2.1.s, s1]; exact o4, fun j hj => ?_⟩
      · unfold PV at o1 ⊢
        rw [iv2 _ _ (by omega) (by omega) (by omega), iv2 _ _ (by omega) (by omega) (by omega), iv2 _ _ (by omega) (by omega) (by omega), iv2 _ _ (by omega) (by omega) (by omega)]
        exact o1
      · rw [iv3 _ _ (by omega), iv2 _ _ (by omega) (by omega) (by omega)]
        exact o5 j hj
end FFR
end
