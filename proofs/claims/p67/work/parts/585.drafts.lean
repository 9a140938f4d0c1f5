/-! draft 585.count2 -/
section
/-! ===== a week's dates, where a series has one exception at most ===== -/
section CNU
variable {O : Nat → Option va_E} {f m : Nat} {M N : xM} {lo hi fd : Int}
/-- the row of an index -/
def psi (M : xM) (lo : Int) (i : Nat) : Int := if i % 11 < 10 then rw' (C0 M (i / 11) ((lo + iV M (12 + 3 * zk M (i / 11)) 0 - iV M (29 + 6 * (i / 11)) 2) / 1440 + ((i % 11 : Nat) : Int)) - 0) (i / 11 : Nat) ((lo + iV M (12 + 3 * zk M (i / 11)) 0 - iV M (29 + 6 * (i / 11)) 2) / 1440 + ((i % 11 : Nat) : Int)) else rw' (com M (zk M (i / 11)) (iV M (32 + 6 * (i / 11)) 0) - 0) (i / 11 : Nat) (iV M (31 + 6 * (i / 11)) 0)
theorem count_week (h : SR M m fd) (hm : m ≤ 12) (l1 : lo ≤ hi) (l2 : hi - lo ≤ 10081) {L : List Int} (hs : srt L) (hx : ∀ x, x ∈ L → ∃ k : Nat, k < m ∧ ∃ d, D01 (iV M (30 + 6 * k)) d ∧ rwB M k k 0 lo hi d x) : L.length ≤ m * 11 := by
  refine pigeon (φ := psi M lo) _ L (srt_nodup hs) (fun x hxL => ?_)
  obtain ⟨k, hk, d, hd, q1, q2, q3, q4⟩ := hx x hxL
  have s := h.2.2.1 k hk
  have sv := s.1
  have zl : zk M k < 3 := by
    have := sv.2.1
    unfold zk
    omega
  have zv := h.2.1 _ zl
  have hlt : ∀ i, i < 11 → k * 11 + i < m * 11 := by
    intro i hi
    omega
  have hdiv : ∀ i, i < 11 → (k * 11 + i) / 11 = k := by
    intro i hi
    omega
  have hmod : ∀ i, i < 11 → (k * 11 + i) % 11 = i := by
    intro i hi
    omega
  by_cases z : exO M k d = -1
  · have eb : bg M k d = C0 M k d := if_pos z
    rw [eb] at q2 q3 q4
    have cr := C0_r (d := d) sv zv
    have zv' := zv
    obtain ⟨o0, o1, s0, s1, -, -⟩ := zv'
    obtain ⟨ed, eed⟩ : ∃ ed, ed = (lo + iV M (12 + 3 * zk M k) 0 - iV M (29 + 6 * k) 2) / 1440 := ⟨_, rfl⟩
    obtain ⟨mm0, mm1⟩ := sv.2.2.1
    have hi1 : 0 ≤ d - ed ∧ d - ed < 10 := by omega
    refine ⟨k * 11 + (d - ed).toNat, hlt _ (by omega), ?_⟩
    unfold psi
    rw [hdiv _ (by omega), hmod _ (by omega), if_pos (by omega), ← eed, show ed + (((d - ed).toNat : Nat) : Int) = d by omega]
    exact q4
  · obtain ⟨y0, y1, y2⟩ := exO_r sv.2.2.2.2.2.2.1.1 z
    have h1 := s.2.2.1.2.2.2
    have e0 : (exO M k d).toNat = 0 := by omega
    have eb0 : bg M k d = if iV M (32 + 6 * k) (exO M k d).toNat = -1 then -1 else com M (zk M k) (iV M (32 + 6 * k) (exO M k d).toNat) := if_neg z
    rw [e0] at eb0 y2
    by_cases y3 : iV M (32 + 6 * k) 0 = -1
    · rw [if_pos y3] at eb0
      exact absurd eb0 q1
    · rw [if_neg y3] at eb0
      rw [eb0] at q4
      refine ⟨k * 11 + 10, hlt _ (by omega), ?_⟩
      unfold psi
      rw [hdiv _ (by omega), hmod _ (by omega), if_neg (by omega), y2]
      exact q4
end CNU
end
/-! draft 586.clash -/
section
/-! ===== clashes ===== -/
theorem ctN_tail {p : Nat → Bool} {j : Nat} : ∀ c, (∀ i, j ≤ i → i < j + c → p i = false) → ctN p (j + c) = ctN p j
  | 0, _ => rfl
  | c + 1, h => by
    show ctN p (j + c) + (if p (j + c) = true then 1 else 0) = _
    rw [ctN_tail c (fun i h1 h2 => h i h1 (by omega)), h (j + c) (by omega) (by omega)]
    rfl
theorem ctN_mono {p : Nat → Bool} {a : Nat} : ∀ c, ctN p a ≤ ctN p (a + c)
  | 0 => Nat.le_refl _
  | c + 1 => by
    have := ctN_mono (p := p) (a := a) c
    show _ ≤ ctN p (a + c) + _
    omega
theorem ctN_from {p : Nat → Bool} {k : Nat} (h : ∀ i, i ≤ k → p i = false) : ∀ n, ctN p n ≤ n - 1 - k
  | 0 => Nat.zero_le _
  | n + 1 => by
    have ih := ctN_from h n
    show ctN p n + (if p n = true then 1 else 0) ≤ _
    by_cases g : n ≤ k
    · rw [h n g, (ctN_zero n).mpr (fun i hi => h i (by omega))]
      exact Nat.zero_le _
    · by_cases z : p n = true
      · rw [if_pos z]
        omega
      · rw [if_neg z]
        omega
theorem sumN_le {a b : Nat → Nat} : ∀ n, (∀ i, i < n → a i ≤ b i) → sumN a n ≤ sumN b n
  | 0, _ => Nat.le_refl _
  | n + 1, h => by
    have := sumN_le n (fun i hi => h i (by omega))
    have := h n (by omega)
    show sumN a n + a n ≤ sumN b n + b n
    omega
theorem sumN_mono {a : Nat → Nat} {m : Nat} : ∀ c, sumN a m ≤ sumN a (m + c)
  | 0 => Nat.le_refl _
  | c + 1 => by
    have := sumN_mono (a := a) (m := m) c
    show _ ≤ sumN a (m + c) + a (m + c)
    omega
theorem tri_132 : sumN (fun k => 131 - k) 132 ≤ 9216 := by decide +kernel
/-- pairs of a list, the first ahead -/
def prC (c : Int → Int → Bool) (L : List Int) (k : Nat) : Nat := ctN (fun j => decide (k < j) && c (L.getD k 0) (L.getD j 0)) L.length
theorem prC_le {c : Int → Int → Bool} {L : List Int} (h : L.length ≤ 132) : sumN (prC c L) L.length ≤ 9216 := by
  have a : sumN (prC c L) L.length ≤ sumN (fun k => 131 - k) L.length := sumN_le _ (fun k hk => by
    have := ctN_from (p := fun j => decide (k < j) && c (L.getD k 0) (L.getD j 0)) (k := k) (fun i hi => by
      rw [decide_eq_false (by omega)]
      rfl) L.length
    show ctN _ _ ≤ _
    omega)
  have b := sumN_mono (a := fun k => 131 - k) (m := L.length) (132 - L.length)
  rw [show L.length + (132 - L.length) = 132 by omega] at b
  have := tri_132
  omega
/-- the way between rooms -/
def wayR (M : xM) (r s : Int) : Int := if r = -1 ∨ s = -1 then 0 else 5 * ((iV M 5 r.toNat - iV M 5 s.toNat).natAbs : Int)
def clB (M : xM) (ρ : Int → Int) (x y : Int) : Bool := decide (rM y < En M x ∨ rM y - En M x < wayR M (ρ x) (ρ y))
def PF (a : Nat) : Prop := a < 119 ∨ (119 < a ∧ a < 124) ∨ 126 < a
section CLA
variable {O : Nat → Option va_E} {f : Nat} {M : xM} {L : List Int} {ρ : Int → Int}
theorem buildingOf_ok (w : Wd M) {r : Int} (h0 : 0 ≤ r) (h1 : r ≤ 3) : f_Hall_buildingOf O f 2 r M = some (iV M 5 r.toNat, M) := by
  unfold f_Hall_buildingOf
  rw [lt_F (by omega) (by omega) (by omega), a_Hall_buildings w, n_Hall_buildings w, le_F (by omega) (by omega) (by omega), a_Hall_buildings w, r_Hall_buildings w (by omega) (by omega)]
theorem way_ok (w : Wd M) {r s : Int} (r0 : -1 ≤ r) (r1 : r ≤ 3) (s0 : -1 ≤ s) (s1 : s ≤ 3) (hb : ∀ q : Nat, q < 4 → 0 ≤ iV M 5 q ∧ iV M 5 q ≤ 9) : f_Meetings_way O f 2 r s M = some (wayR M r s, M) ∧ 0 ≤ wayR M r s ∧ wayR M r s ≤ 45 := by
  unfold f_Meetings_way wayR
  by_cases g : r = -1
  · rw [eq_T g, if_pos (Or.inl g)]
    exact ⟨rfl, by omega, by omega⟩
  · rw [eq_F g (by omega) (by omega) (by omega) (by omega)]
    by_cases g2 : s = -1
    · rw [eq_T g2, if_pos (Or.inr g2)]
      exact ⟨rfl, by omega, by omega⟩
    · have b1 := hb r.toNat (by omega)
      have b2 := hb s.toNat (by omega)
      rw [eq_F g2 (by omega) (by omega) (by omega) (by omega), if_neg (by omega), w.is (k := 2) (ci := 4) (by decide) (by decide), buildingOf_ok w (by omega) r1, xcl_e, w.is (k := 2) (ci := 4) (by decide) (by decide), buildingOf_ok w (by omega) s1, xcl_e, e_abs (by omega) (by omega), xcl_e]
      exact ⟨rfl, by omega, by omega⟩
theorem keep_ok (w : Wd M) {x : Int} {c : Nat} (hc : iV M 119 5 = c) (h : c < 9216) : ∃ N, f_Meetings_keep O f 119 x M = some ((), N) ∧ Un (fun a => a ≠ 119 ∧ a ≠ 126) M N ∧ iV N 119 5 = (c : Int) + 1 := by
  have u1 : Un (fun a => a ≠ 119 ∧ a ≠ 126) M (iS M 126 c x) := Un.rf.iS (by (try dsimp only); omega)
  have w1 := u1.wd w
  have c1 : iV (iS M 126 c x) 119 5 = c := by rw [iV_o (Or.inl (by omega)), hc]
  refine ⟨iS (iS M 126 c x) 119 5 ((c : Int) + 1), ?_, u1.iS (by (try dsimp only); omega), iV_s (by omega) (by omega)⟩
  unfold f_Meetings_keep
  rw [a_Meetings_clashCount w, hc, lt_F (by omega) (by omega) (by omega), a_Meetings_clashCount w, a_Meetings_pairs w, n_Meetings_pairs w, hc, lt_T (by omega) (by omega) (by omega), a_Meetings_pairs w, a_Meetings_clashCount w, hc, w_Meetings_pairs w (by omega) (by omega), show ((c : Int)).toNat = c by omega, a_Meetings_clashCount w1, c1, p_Meetings_clashCount w1]
/-- rooms and lengths as they stand while clashes are sought -/
def FC (M : xM) (L : List Int) (ρ : Int → Int) (N : xM) : Prop := Un PF M N ∧ ∀ i, i < L.length → iV N 125 i = ρ (L.getD i 0)
theorem FC.un {N N' : xM} (h : FC M L ρ N) (u : Un (fun a => a ≠ 119 ∧ a ≠ 126) N N') : FC M L ρ N' := ⟨h.1.tr (u.le (fun a q => by unfold PF at q; (try dsimp only); omega)), fun i hi => by rw [u.i (by (try dsimp only); omega)]; exact h.2 i hi⟩
theorem fc_118 {K : Nat → Nat → Nat → Int → Int → xM → Option (Int × xM)} {k base : Nat} (h : DL M L) (w : Wd M) (hn : L.length ≤ 256) (hl : ∀ x, x ∈ L → 0 ≤ rM x ∧ rM x ≤ 1000000000 ∧ 0 ≤ iV M 118 (rN x).toNat ∧ iV M 118 (rN x).toNat ≤ 600) (hb : ∀ q : Nat, q < 4 → 0 ≤ iV M 5 q ∧ iV M 5 q ≤ 9) (hρ : ∀ x, -1 ≤ ρ x ∧ ρ x ≤ 3) (hk : k < L.length) (hB : base + prC (clB M ρ) L k ≤ 9216) : ∀ (r t j : Nat) (N : xM), j + r = L.length → k < j → r < t → FC M L ρ N → iV N 119 5 = ((base + ctN (fun j => decide (k < j) && clB M ρ (L.getD k 0) (L.getD j 0)) j : Nat) : Int) → ∃ N', f_Meetings_findClashes_118 O f K t 119 116 2 (L.length : Int) (k : Int) (En M (L.getD k 0)) (j : Int) N = K 119 116 2 (L.length : Int) ((k : Int) + 1) N' ∧ FC M L ρ N' ∧ iV N' 119 5 = ((base + prC (clB M ρ) L k : Nat) : Int) := by
  intro r
  induction r with
  | zero =>
    intro t j N hj hkj ht hF hc
    obtain ⟨t, rfl⟩ : ∃ n', t = n' + 1 := ⟨t - 1, by omega⟩
    obtain rfl : j = L.length := by omega
    refine ⟨N, ?_, hF, hc⟩
    show (if yw (L.length : Int) ≤ yw (L.length : Int) then _ else _) = _
    rw [le_T (by omega) (by omega) (by omega)]
  | succ r ih =>
    intro t j N hj hkj ht hF hc
    obtain ⟨t, rfl⟩ : ∃ n', t = n' + 1 := ⟨t - 1, by omega⟩
    have wN := hF.1.wd w
    have jz : ((j : Int)).toNat = j := by omega
    have kz : ((k : Int)).toNat = k := by omega
    have dN : DL N L := h.un hF.1 (by unfold PF; omega)
    have zj := hl _ (getD_mem (L := L) (i := j) (by omega))
    have zk := hl _ (getD_mem hk)
    have mm := srt_rM h.2.2.2.1 (i := k) (j := j) (by omega) (by omega)
    have enb : rM (L.getD k 0) ≤ En M (L.getD k 0) ∧ En M (L.getD k 0) ≤ rM (L.getD k 0) + 600 := by
      unfold En
      omega
    have bN : ∀ q : Nat, q < 4 → 0 ≤ iV N 5 q ∧ iV N 5 q ≤ 9 := fun q hq => by
      rw [hF.1.i (show PF 5 by unfold PF; omega)]
      exact hb q hq
    have wyE : ∀ r s, wayR N r s = wayR M r s := fun r s => by
      unfold wayR
      rw [hF.1.i (show PF 5 by unfold PF; omega), hF.1.i (show PF 5 by unfold PF; omega)]
    have rk1 := hρ (L.getD k 0)
    have rj1 := hρ (L.getD j 0)
    obtain ⟨wy, wy0, wy1⟩ := way_ok (O := O) (f := f) (r := ρ (L.getD k 0)) (s := ρ (L.getD j 0)) wN rk1.1 rk1.2 rj1.1 rj1.2 bN
    rw [wyE] at wy wy0 wy1
    have wy' : ∀ (i : Nat), i < L.length → wayR M (ρ (L.getD k 0)) (ρ (L.getD i 0)) ≤ 45 := fun i hi => by
      have a := hρ (L.getD i 0)
      have := (way_ok (O := O) (f := f) (r := ρ (L.getD k 0)) (s := ρ (L.getD i 0)) w rk1.1 rk1.2 a.1 a.2 hb).2.2
      exact this
    have cj : ctN (fun j => decide (k < j) && clB M ρ (L.getD k 0) (L.getD j 0)) (j + 1) = ctN (fun j => decide (k < j) && clB M ρ (L.getD k 0) (L.getD j 0)) j + (if clB M ρ (L.getD k 0) (L.getD j 0) = true then 1 else 0) := by
      show ctN _ j + (if (decide (k < j) && clB M ρ (L.getD k 0) (L.getD j 0)) = true then 1 else 0) = _
      rw [decide_eq_true hkj, Bool.true_and]
    have cm := ctN_mono (p := fun j => decide (k < j) && clB M ρ (L.getD k 0) (L.getD j 0)) (a := j + 1) (L.length - (j + 1))
    rw [show j + 1 + (L.length - (j + 1)) = L.length by omega] at cm
    have hit : clB M ρ (L.getD k 0) (L.getD j 0) = true → ∃ N', f_Meetings_findClashes_181 O f (f_Meetings_findClashes_118 O f K t) 119 116 2 (L.length : Int) (k : Int) (En M (L.getD k 0)) (j : Int) N = K 119 116 2 (L.length : Int) ((k : Int) + 1) N' ∧ FC M L ρ N' ∧ iV N' 119 5 = ((base + prC (clB M ρ) L k : Nat) : Int) := by
      intro g
      rw [if_pos g] at cj
      obtain ⟨N1, e1, u1, c1⟩ := keep_ok (O := O) (f := f) (M := N) (x := ((k : Int) * 256) + (j : Int)) wN hc (by unfold prC at hB; omega)
      obtain ⟨N', e', F', c'⟩ := ih t (j + 1) N1 (by omega) (by omega) (by omega) (hF.un u1) (by rw [c1, cj]; omega)
      rw [show ((j + 1 : Nat) : Int) = (j : Int) + 1 by omega] at e'
      refine ⟨N', ?_, F', c'⟩
      unfold f_Meetings_findClashes_181
      rw [a_Meetings_is wN, e1, xcl_e]
      exact e'
    have miss : clB M ρ (L.getD k 0) (L.getD j 0) = false → ∃ N', f_Meetings_findClashes_118 O f K t 119 116 2 (L.length : Int) (k : Int) (En M (L.getD k 0)) ((j : Int) + 1) N = K 119 116 2 (L.length : Int) ((k : Int) + 1) N' ∧ FC M L ρ N' ∧ iV N' 119 5 = ((base + prC (clB M ρ) L k : Nat) : Int) := by
      intro g
      rw [if_neg (by rw [g]; exact Bool.false_ne_true)] at cj
      obtain ⟨N', e', F', c'⟩ := ih t (j + 1) N (by omega) (by omega) (by omega) hF (by rw [hc, cj]; rfl)
      rw [show ((j + 1 : Nat) : Int) = (j : Int) + 1 by omega] at e'
      exact ⟨N', e', F', c'⟩
    show ∃ N', (if yw (L.length : Int) ≤ yw (j : Int) then _ else _) = _ ∧ _
    rw [le_F (by omega) (by omega) (by omega), le_F (by omega) (by omega) (by omega), a_Dates_is wN, dN.begin wN (by omega) (by omega), xcl_e, jz]
    by_cases g45 : rM (L.getD j 0) - En M (L.getD k 0) < 45
    · rw [lt_T g45 (by omega) (by omega)]
      by_cases g0 : rM (L.getD j 0) - En M (L.getD k 0) < 0
      · rw [lt_T g0 (by omega) (by omega)]
        exact hit (decide_eq_true (Or.inl (by omega)))
      · rw [lt_F (by omega) (by omega) (by omega), a_Meetings_rooms wN, r_Meetings_rooms wN (by omega) (by omega), a_Meetings_rooms wN, r_Meetings_rooms wN (by omega) (by omega), kz, jz, hF.2 k hk, hF.2 j (by omega), wy, xcl_e]
        by_cases gw : wayR M (ρ (L.getD k 0)) (ρ (L.getD j 0)) ≤ rM (L.getD j 0) - En M (L.getD k 0)
        · rw [le_T gw (by omega) (by omega)]
          exact miss (decide_eq_false (by omega))
        · rw [le_F (by omega) (by omega) (by omega)]
          exact hit (decide_eq_true (Or.inr (by omega)))
    · rw [lt_F (by omega) (by omega) (by omega)]
      have tl := ctN_tail (p := fun j => decide (k < j) && clB M ρ (L.getD k 0) (L.getD j 0)) (j := j) (L.length - j) (fun i h1 h2 => by
        have q := srt_rM h.2.2.2.1 (i := j) (j := i) h1 (by omega)
        have := wy' i (by omega)
        have e : clB M ρ (L.getD k 0) (L.getD i 0) = false := decide_eq_false (by omega)
        show (decide (k < i) && clB M ρ (L.getD k 0) (L.getD i 0)) = false
        rw [e, Bool.and_false])
      rw [show j + (L.length - j) = L.length by omega] at tl
      refine ⟨N, rfl, hF, ?_⟩
      rw [hc]
      unfold prC
      rw [tl]
end CLA
end
/-! draft 587.clashall -/
section
/-! ===== clashes, all ===== -/
/-- which room a row got -/
def RO (M : xM) (ρ : Int → Int) (x : Int) : Prop := (∀ p : Nat, (p : Int) < iV M 119 0 → iV M 120 p = rN x → iV M 121 p = rD x → iV M 122 p = ρ x) ∧ ((∀ p : Nat, (p : Int) < iV M 119 0 → iV M 120 p = rN x → iV M 121 p = rD x → False) → ρ x = -1)
section CLB
variable {O : Nat → Option va_E} {f : Nat} {M : xM} {L : List Int} {ρ : Int → Int} {γ : Type}
theorem fc_90 (h : DL M L) (w : Wd M) (hn : L.length ≤ 132) (hl : ∀ x, x ∈ L → 0 ≤ rM x ∧ rM x ≤ 1000000000 ∧ 0 ≤ iV M 118 (rN x).toNat ∧ iV M 118 (rN x).toNat ≤ 600) (hb : ∀ q : Nat, q < 4 → 0 ≤ iV M 5 q ∧ iV M 5 q ≤ 9) (hρ : ∀ x, -1 ≤ ρ x ∧ ρ x ≤ 3) (hf : 400 ≤ f) : ∀ (r t k : Nat) (N : xM), k + r = L.length → r < t → FC M L ρ N → iV N 119 5 = ((sumN (prC (clB M ρ) L) k : Nat) : Int) → ∃ N', f_Meetings_findClashes_90 O f t 119 116 2 (L.length : Int) (k : Int) N = some (((sumN (prC (clB M ρ) L) L.length : Nat) : Int), N') ∧ Un PF M N' := by
  intro r
  induction r with
  | zero =>
    intro t k N hk ht hF hc
    obtain ⟨t, rfl⟩ : ∃ n', t = n' + 1 := ⟨t - 1, by omega⟩
    obtain rfl : k = L.length := by omega
    refine ⟨N, ?_, hF.1⟩
    show (if yw (L.length : Int) ≤ yw (L.length : Int) then _ else _) = _
    rw [le_T (by omega) (by omega) (by omega)]
    unfold f_Meetings_findClashes_206
    rw [a_Meetings_clashCount (hF.1.wd w), hc]
  | succ r ih =>
    intro t k N hk ht hF hc
    obtain ⟨t, rfl⟩ : ∃ n', t = n' + 1 := ⟨t - 1, by omega⟩
    have wN := hF.1.wd w
    have kz : ((k : Int)).toNat = k := by omega
    have dN : DL N L := h.un hF.1 (by unfold PF; omega)
    have tot := prC_le (c := clB M ρ) hn
    have sm := sumN_mono (a := prC (clB M ρ) L) (m := k + 1) (L.length - (k + 1))
    rw [show k + 1 + (L.length - (k + 1)) = L.length by omega] at sm
    have se : sumN (prC (clB M ρ) L) (k + 1) = sumN (prC (clB M ρ) L) k + prC (clB M ρ) L k := rfl
    have z0 : ctN (fun j => decide (k < j) && clB M ρ (L.getD k 0) (L.getD j 0)) (k + 1) = 0 := (ctN_zero _).mpr (fun i hi => by
      rw [decide_eq_false (by omega)]
      rfl)
    obtain ⟨N1, e1, F1, c1⟩ := fc_118 (O := O) (f := f) (K := f_Meetings_findClashes_90 O f t) (base := sumN (prC (clB M ρ) L) k) h w (by omega) hl hb hρ (k := k) (by omega) (by omega) (L.length - (k + 1)) f (k + 1) N (by omega) (by omega) (by omega) hF (by rw [hc, z0]; rfl)
    obtain ⟨N', e', u'⟩ := ih t (k + 1) N1 (by omega) (by omega) F1 (by rw [c1, se])
    rw [show ((k + 1 : Nat) : Int) = (k : Int) + 1 by omega] at e1 e'
    have enE : rM (L.getD k 0) + iV N 118 (rN (L.getD k 0)).toNat = En M (L.getD k 0) := by
      rw [hF.1.i (show PF 118 by unfold PF; omega)]
      rfl
    refine ⟨N', ?_, u'⟩
    show (if yw (L.length : Int) ≤ yw (k : Int) then _ else _) = _
    rw [le_F (by omega) (by omega) (by omega), le_F (by omega) (by omega) (by omega), a_Dates_is wN, dN.endA wN (by omega) (by omega), xcl_e, kz, enE, e1, e']
theorem roomOfRow (w : Wd M) {x : Int} {n : Nat} (hn : n ≤ 256) (c : iV M 119 0 = n) (h : RO M ρ x) (hf : 400 ≤ f) {A : Int → xM → Option γ} (hx0 : 0 ≤ x) : (xcl (f_Meetings_placeOf O f 119 (rN x) (rD x) M) fun x10 M5 => (isO O M5 119 5).bind fun _ => xcl (f_Meetings_roomAt O f 119 x10 M5) A) = A (ρ x) M := by
  have rn : 0 ≤ rN x ∧ rN x < 16 := ⟨Int.emod_nonneg _ (by decide), Int.emod_lt_of_pos _ (by decide)⟩
  have rd : 0 ≤ rD x ∧ rD x < 262144 := ⟨Int.emod_nonneg _ (by decide), Int.emod_lt_of_pos _ (by decide)⟩
  rcases placeOf_ok (O := O) (f := f) (M := M) (s := rN x) (d := rD x) w c hn (by omega) (by omega) (by omega) (by omega) hf with ⟨k, k1, k2, k3, k4⟩ | ⟨k1, k4⟩
  · rw [k4, xcl_e, a_Meetings_is w, roomAt_ok w (by omega), xcl_e, h.1 k (by omega) k2 k3]
  · rw [k4, xcl_e, a_Meetings_is w, roomAt_no, xcl_e, h.2 (fun p hp => k1 p (by omega))]
theorem fc_19 (h : DL M L) (w : Wd M) (hn : L.length ≤ 132) (hl : ∀ x, x ∈ L → 0 ≤ rM x ∧ rM x ≤ 1000000000 ∧ 0 ≤ iV M 118 (rN x).toNat ∧ iV M 118 (rN x).toNat ≤ 600) (hb : ∀ q : Nat, q < 4 → 0 ≤ iV M 5 q ∧ iV M 5 q ≤ 9) (hρ : ∀ x, -1 ≤ ρ x ∧ ρ x ≤ 3) (hro : ∀ x, x ∈ L → RO M ρ x) {n : Nat} (hn2 : n ≤ 256) (c : iV M 119 0 = n) (hf : 400 ≤ f) : ∀ (r t k : Nat) (N : xM), k + r = L.length → r < t → Un PF M N → (∀ i, i < k → iV N 125 i = ρ (L.getD i 0)) → iV N 119 0 = n → iV N 119 5 = 0 → ∃ N', f_Meetings_findClashes_19 O f t 119 116 2 (L.length : Int) (k : Int) N = some (((sumN (prC (clB M ρ) L) L.length : Nat) : Int), N') ∧ Un PF M N' := by
  intro r
  induction r with
  | zero =>
    intro t k N hk ht u hr hc0 hc
    obtain ⟨t, rfl⟩ : ∃ n', t = n' + 1 := ⟨t - 1, by omega⟩
    obtain rfl : k = L.length := by omega
    obtain ⟨N', e', u'⟩ := fc_90 (O := O) (f := f) h w hn hl hb hρ hf L.length f 0 N (by omega) (by omega) ⟨u, hr⟩ hc
    refine ⟨N', ?_, u'⟩
    show (if yw (L.length : Int) ≤ yw (L.length : Int) then _ else _) = _
    rw [le_T (by omega) (by omega) (by omega)]
    exact e'
  | succ r ih =>
    intro t k N hk ht u hr hc0 hc
    obtain ⟨t, rfl⟩ : ∃ n', t = n' + 1 := ⟨t - 1, by omega⟩
    have wN := u.wd w
    have kz : ((k : Int)).toNat = k := by omega
    have dN : DL N L := h.un u (by unfold PF; omega)
    have hm := getD_mem (L := L) (i := k) (by omega)
    have hx := h.2.2.2.2 _ hm
    have u1 : Un PF M (lS N 124 k (L.getD k 0)) := u.lS (by unfold PF; omega)
    have w1 := u1.wd w
    have l1 : lV (lS N 124 k (L.getD k 0)) 124 k = L.getD k 0 := lV_s (by omega) (by omega)
    have iv1 : ∀ a j, iV (lS N 124 k (L.getD k 0)) a j = iV N a j := fun a j => rfl
    have rn : ∀ p, iV N 120 p = iV M 120 p ∧ iV N 121 p = iV M 121 p ∧ iV N 122 p = iV M 122 p := fun p => ⟨u.i (show PF 120 by unfold PF; omega), u.i (show PF 121 by unfold PF; omega), u.i (show PF 122 by unfold PF; omega)⟩
    have ro1 : RO (lS N 124 k (L.getD k 0)) ρ (L.getD k 0) := by
      obtain ⟨a, b⟩ := hro _ hm
      refine ⟨fun p hp h1 h2 => ?_, fun q => b (fun p hp h1 h2 => q p ?_ ?_ ?_)⟩
      · rw [iv1, (rn p).2.2]
        rw [iv1, hc0] at hp
        rw [iv1, (rn p).1] at h1
        rw [iv1, (rn p).2.1] at h2
        exact a p (by omega) h1 h2
      · rw [iv1, hc0]
        omega
      · rw [iv1, (rn p).1]
        exact h1
      · rw [iv1, (rn p).2.1]
        exact h2
    have b1 := hρ (L.getD k 0)
    obtain ⟨N', e', u'⟩ := ih t (k + 1) (iS (lS N 124 k (L.getD k 0)) 125 k (ρ (L.getD k 0))) (by omega) (by omega) (u1.iS (by unfold PF; omega)) (fun i hi => by
      by_cases z : i = k
      · rw [z, iV_s (by omega) (by omega)]
      · rw [iV_o (Or.inr z)]
        exact hr i (by omega)) (by rw [iV_o (Or.inl (by omega))]; exact hc0) (by rw [iV_o (Or.inl (by omega))]; exact hc)
    rw [show ((k + 1 : Nat) : Int) = (k : Int) + 1 by omega] at e'
    refine ⟨N', ?_, u'⟩
    show (if yw (L.length : Int) ≤ yw (k : Int) then _ else _) = _
    rw [le_F (by omega) (by omega) (by omega), le_F (by omega) (by omega) (by omega), a_Meetings_rows wN, a_Dates_is wN, dN.at wN (by omega) (by omega), xcl_e, kz, w_Meetings_rows wN (by omega) (by omega), kz, a_Meetings_rooms w1, a_Meetings_rows w1, r_Meetings_rows w1 (by omega) (by omega), kz, l1, xc_of (e_numberOf hx.1 hx.2), a_Meetings_rows w1, r_Meetings_rows w1 (by omega) (by omega), kz, l1, xc_of (e_dayIn hx.1 hx.2), a_Meetings_is w1, roomOfRow w1 hn2 (by rw [iv1]; exact hc0) ro1 hf hx.1, w_Meetings_rooms w1 (by omega) (by omega), kz, e']
theorem findClashes_ok (h : DL M L) (w : Wd M) (hn : L.length ≤ 132) (hl : ∀ x, x ∈ L → 0 ≤ rM x ∧ rM x ≤ 1000000000 ∧ 0 ≤ iV M 118 (rN x).toNat ∧ iV M 118 (rN x).toNat ≤ 600) (hb : ∀ q : Nat, q < 4 → 0 ≤ iV M 5 q ∧ iV M 5 q ≤ 9) (hρ : ∀ x, -1 ≤ ρ x ∧ ρ x ≤ 3) (hro : ∀ x, x ∈ L → RO M ρ x) {n : Nat} (hn2 : n ≤ 256) (c : iV M 119 0 = n) (hf : 400 ≤ f) : ∃ N', f_Meetings_findClashes O f 119 116 2 M = some (((sumN (prC (clB M ρ) L) L.length : Nat) : Int), N') ∧ Un PF M N' := by
  obtain ⟨N', e', u'⟩ := fc_19 (O := O) (f := f) h w hn hl hb hρ hro hn2 c hf L.length f 0 (iS M 119 5 0) (by omega) (by omega) (Un.rf.iS (by unfold PF; omega)) (fun i hi => absurd hi (Nat.not_lt_zero _)) (by rw [iV_o (Or.inr (by omega))]; exact c) (iV_s (by omega) (by omega))
  refine ⟨N', ?_, u'⟩
  unfold f_Meetings_findClashes
  rw [a_Dates_count w, h.1, e_min (by omega) (by omega) (by omega) (by omega), xcl_e, show min (L.length : Int) 256 = L.length by omega, p_Meetings_clashCount w]
  exact e'
end CLB
end
/-! draft 588.colfil -/
section
/-! ===== what is collected, as a part of all dates ===== -/
def EnS (M : xM) (x : Int) : Int := rM x + iV M (29 + 6 * (rN x).toNat) 3
/-- all dates of a piece -/
def AL (M : xM) (m : Nat) (lo hi : Int) (A : List Int) : Prop := srt A ∧ ∀ x, x ∈ A ↔ rwF M (fun k => D01 (iV M (30 + 6 * k))) m lo hi x
section COF
variable {O : Nat → Option va_E} {f m : Nat} {M N : xM} {A : List Int} {lo hi fd : Int}
theorem AL.b (h : SR M m fd) (hm : m ≤ 12) (a : AL M m lo hi A) {x : Int} (hx : x ∈ A) : 0 ≤ rN x ∧ (rN x).toNat < m ∧ lo ≤ rM x ∧ rM x < hi ∧ 1 ≤ iV M (29 + 6 * (rN x).toNat) 3 ∧ iV M (29 + 6 * (rN x).toNat) 3 ≤ 600 ∧ 10 ≤ rD x ∧ rD x ≤ 146000 ∧ rM x = bg M (rN x).toNat (rD x) ∧ x = rw' (rM x) (rN x) (rD x) := by
  obtain ⟨k, hk, d, hd, q⟩ := (a.2 x).mp hx
  have s := h.2.2.1 k hk
  have d1 := (nx01 (O := fun _ => none) (f := 0) (k := k) (by omega) s.2.1).1 d hd
  have nn := rwB_N (M := M) (k := k) (nb := k) (by omega) (by omega) (by omega) q
  obtain ⟨q1, q2, q3, q4⟩ := q
  have e : (rN x).toNat = k := by omega
  have ek : rN x = (k : Int) := nn.1
  have g := s.1.2.2.2.1
  rw [e, nn.2.1, nn.2.2, ek]
  exact ⟨by omega, hk, by omega, by omega, g.1, g.2, d1.1, d1.2, by omega, q4⟩
theorem AL.fil (a : AL M m lo hi A) {q : Nat → Bool} : srt (A.filter (fun x => q (rN x).toNat)) := List.Pairwise.filter _ a.1
theorem col_fil (h : SR M m fd) (hm : m ≤ 12) (a : AL M m lo hi A) {q : Nat → Bool} {y : Int} (hy : Mk y 12 (fun k => k < m ∧ q k = true)) (l0 : 10000 ≤ lo) (l1 : lo < hi) (l2 : hi ≤ 150000000) (l3 : hi - lo ≤ 18000) (hf : 2000 ≤ f) : ∃ M', f_Hall_collect O f 2 116 y lo hi M = some ((), M') ∧ Un P3 M M' ∧ DL M' (A.filter (fun x => q (rN x).toNat)) ∧ (∀ j, j < m → q j = true → iV M' 118 j = iV M (29 + 6 * j) 3) := by
  obtain ⟨y0, y1, y2⟩ := hy
  have e12 : (2 : Int) ^ 12 = 4096 := by decide
  obtain ⟨M', L, e, u, d, hL, hlen⟩ := collect_ok (O := O) (f := f) (mask := y) (h.hs) (by omega) (by omega) l0 l1 l2 l3 hf
  have eL : L = A.filter (fun x => q (rN x).toNat) := srt_uniq d.2.2.2.1 a.fil (fun x => by
    rw [hL x, List.mem_filter, a.2 x]
    constructor
    · rintro ⟨k, k1, k2, k3, dd, k4, k5⟩
      have z := (y2 k k1).mp k3
      have s := h.2.2.1 k z.1
      have d1 := (nx01 (O := fun _ => none) (f := 0) (k := k) (by omega) s.2.1).1 dd k4
      have nn := rwB_N (M := M) (k := k) (nb := k) (by omega) (by omega) (by omega) k5
      exact ⟨⟨k, z.1, dd, k4, k5⟩, by rw [show (rN x).toNat = k by omega]; exact z.2⟩
    · rintro ⟨⟨k, k1, dd, k4, k5⟩, k6⟩
      have s := h.2.2.1 k k1
      have d1 := (nx01 (O := fun _ => none) (f := 0) (k := k) (by omega) s.2.1).1 dd k4
      have nn := rwB_N (M := M) (k := k) (nb := k) (by omega) (by omega) (by omega) k5
      rw [show (rN x).toNat = k by omega] at k6
      exact ⟨k, by omega, s.1.1, (y2 k (by omega)).mpr ⟨k1, k6⟩, dd, k4, k5⟩)
  rw [eL] at d
  exact ⟨M', e, u, d, fun j hj hq => hlen j (by omega) (h.2.2.1 j hj).1.1 ((y2 j (by omega)).mpr ⟨hj, hq⟩)⟩
/-- what a part of the dates keeps to -/
theorem fil_hl (h : SR M m fd) (hm : m ≤ 12) (a : AL M m lo hi A) {q : Nat → Bool} {M' : xM} (l0 : 10000 ≤ lo) (l2 : hi ≤ 150000000) (hlen : ∀ j, j < m → q j = true → iV M' 118 j = iV M (29 + 6 * j) 3) : ∀ x, x ∈ A.filter (fun x => q (rN x).toNat) → (0 ≤ rM x ∧ rM x ≤ 1000000000 ∧ 0 ≤ iV M' 118 (rN x).toNat ∧ iV M' 118 (rN x).toNat ≤ 600) ∧ En M' x = EnS M x ∧ rM x < En M' x := by
  intro x hx
  obtain ⟨x1, x2⟩ := List.mem_filter.mp hx
  have b := a.b h hm x1
  have e := hlen _ b.2.1 x2
  have ee : En M' x = EnS M x := by
    unfold En EnS
    rw [e]
  rw [ee, e]
  unfold EnS
  exact ⟨⟨by omega, by omega, by omega, by omega⟩, rfl, by omega⟩
theorem len_fil (h : SR M m fd) (hm : m ≤ 12) (a : AL M m lo hi A) {q : Nat → Bool} (l1 : lo ≤ hi) (l3 : hi - lo ≤ 10081) : A.length ≤ 132 ∧ (A.filter (fun x => q (rN x).toNat)).length ≤ 132 := by
  have c := count_week h hm l1 l3 a.1 (fun x hx => (a.2 x).mp hx)
  have := List.length_filter_le (fun x => q (rN x).toNat) A
  omega
end COF
end
/-! draft 589.laycalls -/
section
/-! ===== the calls for rooms and clashes ===== -/
theorem cnF_of {p q : Int → Bool} {L : List Int} (h : ∀ x, x ∈ L → p x = q x) {n : Nat} (hn : n ≤ L.length) : cnF p L n = cnF q L n := Nat.le_antisymm (cnF_le n (fun i hi g => by rw [← h _ (getD_mem (by omega))]; exact g)) (cnF_le n (fun i hi g => by rw [h _ (getD_mem (by omega))]; exact g))
theorem most_of {e e' : Int → Int} {L : List Int} (h : ∀ x, x ∈ L → e x = e' x) : mxN (fun k => cnF (onB e (rM (L.getD k 0))) L (k + 1)) L.length = mxN (fun k => cnF (onB e' (rM (L.getD k 0))) L (k + 1)) L.length := mxN_of _ (fun k hk => cnF_of (fun x hx => by unfold onB; rw [h x hx]) (by omega))
theorem LI.ofE {e e' : Int → Int} {N : xM} {L : List Int} (h : LI e N L L.length) (g : ∀ x, x ∈ L → e x = e' x) : LI e' N L L.length := by
  obtain ⟨h1, h2, h3⟩ := h
  refine ⟨h1, fun i j hij hj a b => ?_, fun j hj z q hq => ?_⟩
  · rw [← g _ (getD_mem (by omega))]
    exact h2 i j hij hj a b
  · obtain ⟨i, i1, i2, i3⟩ := h3 j hj z q hq
    rw [g _ (getD_mem (by omega))] at i3
    exact ⟨i, i1, i2, i3⟩
theorem prC_of {c c' : Int → Int → Bool} {L : List Int} (h : ∀ x y, x ∈ L → y ∈ L → c x y = c' x y) : sumN (prC c L) L.length = sumN (prC c' L) L.length := sumN_of _ (fun k hk => ctN_of _ (fun j hj => by rw [h _ _ (getD_mem hk) (getD_mem hj)]))
def qR (M : xM) (j : Nat) : Bool := decide (iV M (29 + 6 * j) 5 = 1)
def tpB (M : xM) (p j : Nat) : Bool := decide (bitz (iV M (29 + 6 * j) 4) p = 1 ∧ iV M (33 + 6 * j) p ≠ 2)
theorem tpB_iff {M : xM} {p j : Nat} : tpB M p j = true ↔ tp M j p := by
  unfold tpB tp
  exact decide_eq_true_iff
def clS (M : xM) (ρ : Int → Int) (x y : Int) : Bool := decide (rM y < EnS M x ∨ rM y - EnS M x < wayR M (ρ x) (ρ y))
def P8 (a : Nat) : Prop := a < 116 ∨ 126 < a
section LAC
variable {O : Nat → Option va_E} {f m k : Nat} {M N : xM} {A : List Int} {lo hi fd : Int} {ρ : Int → Int}
theorem e_seriesAt5 {kk : Int} (h : Wd M) (hkk : kk = (k : Int)) (hk : k < 12) (hs : iV M (29 + 6 * k) 0 = 1) (hr : iV M (29 + 6 * k) 5 = 0 ∨ iV M (29 + 6 * k) 5 = 1) : f_Calendarhall_seriesAt O f 1 kk 5 M = some (iV M (29 + 6 * k) 5, M) := by
  subst hkk
  unfold f_Calendarhall_seriesAt f_Series_tell
  rw [a_Cal_is h, xc_of (s_num h hk hs), c_needRange (by omega) (by omega) (by omega) (by omega), a_Series_is h hk]
  rw [eq_F (by omega) (by omega) (by omega) (by omega) (by omega), eq_F (by omega) (by omega) (by omega) (by omega) (by omega), eq_F (by omega) (by omega) (by omega) (by omega) (by omega), eq_F (by omega) (by omega) (by omega) (by omega) (by omega), eq_F (by omega) (by omega) (by omega) (by omega) (by omega), eq_T rfl, a_Series_needsRoom h hk]
  rcases hr with e | e
  · rw [e, eq_T rfl, xcl_e]
  · rw [e, eq_F (by omega) (by omega) (by omega) (by omega) (by omega), xcl_e]
theorem c_seriesAt5 {kk : Int} (h : Wd M) (hkk : kk = (k : Int)) (hk : k < 12) (hs : iV M (29 + 6 * k) 0 = 1) (hr : iV M (29 + 6 * k) 5 = 0 ∨ iV M (29 + 6 * k) 5 = 1) {δ : Type} {A : _ → xM → Option δ} : xcl (f_Calendarhall_seriesAt O f 1 kk 5 M) A = A (iV M (29 + 6 * k) 5) (M) := xc_of (e_seriesAt5 h hkk hk hs hr) A
theorem layRooms_ok (h : SR M m fd) (hm : m ≤ 12) (a : AL M m lo hi A) (l0 : 14400 ≤ lo) (l1 : lo < hi) (l2 : hi ≤ 150000000) (l3 : hi - lo ≤ 10080) (hf : 2000 ≤ f) : ∃ M', f_Calendarhall_layRooms O f 1 lo hi M = some (((ctN (fun i => decide (iV M' 122 i = -1)) (A.filter (fun x => qR M (rN x).toNat)).length : Nat) : Int), M') ∧ Un P8 M M' ∧ iV M' 119 0 = (A.filter (fun x => qR M (rN x).toNat)).length ∧ LI (EnS M) M' (A.filter (fun x => qR M (rN x).toNat)) (A.filter (fun x => qR M (rN x).toNat)).length := by
  have hw := h.1.1
  obtain ⟨y, ey, hy⟩ := withRoom_ok (O := O) (f := f) h hm (by omega)
  have hy2 : Mk y 12 (fun k => k < m ∧ qR M k = true) := ⟨hy.1, hy.2.1, fun j hj => (hy.2.2 j hj).trans ⟨fun q => ⟨q.1, decide_eq_true q.2⟩, fun q => ⟨q.1, of_decide_eq_true q.2⟩⟩⟩
  obtain ⟨M1, e1, u1, d1, g1⟩ := col_fil (O := O) (f := f) (q := qR M) h hm a hy2 (by omega) l1 l2 (by omega) hf
  have w1 := u1.wd hw
  have ln := len_fil (q := qR M) h hm a (by omega) (by omega)
  have hl := fil_hl (q := qR M) h hm a (by omega) l2 g1
  obtain ⟨M2, e2, u2, c2, i2⟩ := lay_ok (O := O) (f := f) d1 w1 (by omega) (fun x hx => (hl x hx).1) (by omega)
  refine ⟨M2, ?_, (u1.le (fun b q => by unfold P8 at q; unfold P3; omega)).tr (u2.le (fun b q => by unfold P8 at q; unfold PL; omega)), c2, i2.ofE (fun x hx => (hl x hx).2.1)⟩
  unfold f_Calendarhall_layRooms
  rw [xc_of (e_needPiece l0 (by omega) l1 (by omega) (by omega)), a_Cal_hall hw, a_Cal_dates hw, a_Cal_hall hw, a_Hall_is hw, ey, xcl_e, a_Hall_is hw, e1, xcl_e, a_Cal_meetings w1, a_Cal_dates w1, a_Meetings_is w1, e2, xcl_e]
theorem roomsNeeded_ok (h : SR M m fd) (hm : m ≤ 12) (a : AL M m lo hi A) (l0 : 14400 ≤ lo) (l1 : lo < hi) (l2 : hi ≤ 150000000) (l3 : hi - lo ≤ 10080) (hf : 2000 ≤ f) : ∃ M', f_Calendarhall_roomsNeeded O f 1 lo hi M = some (((mxN (fun k => cnF (onB (EnS M) (rM ((A.filter (fun x => qR M (rN x).toNat)).getD k 0))) (A.filter (fun x => qR M (rN x).toNat)) (k + 1)) (A.filter (fun x => qR M (rN x).toNat)).length : Nat) : Int), M') ∧ Un P3 M M' := by
  have hw := h.1.1
  obtain ⟨y, ey, hy⟩ := withRoom_ok (O := O) (f := f) h hm (by omega)
  have hy2 : Mk y 12 (fun k => k < m ∧ qR M k = true) := ⟨hy.1, hy.2.1, fun j hj => (hy.2.2 j hj).trans ⟨fun q => ⟨q.1, decide_eq_true q.2⟩, fun q => ⟨q.1, of_decide_eq_true q.2⟩⟩⟩
  obtain ⟨M1, e1, u1, d1, g1⟩ := col_fil (O := O) (f := f) (q := qR M) h hm a hy2 (by omega) l1 l2 (by omega) hf
  have w1 := u1.wd hw
  have hl := fil_hl (q := qR M) h hm a (by omega) l2 g1
  refine ⟨M1, ?_, u1⟩
  unfold f_Calendarhall_roomsNeeded
  rw [xc_of (e_needPiece l0 (by omega) l1 (by omega) (by omega)), a_Cal_hall hw, a_Cal_dates hw, a_Cal_hall hw, a_Hall_is hw, ey, xcl_e, a_Hall_is hw, e1, xcl_e, a_Cal_dates w1, a_Dates_is w1, most_ok (O := O) (f := f) d1 w1 (fun x hx => (hl x hx).1) (by omega), xcl_e, most_of (fun x hx => (hl x hx).2.1)]
theorem clashes_ok {p n : Nat} {pp : Int} (h : SR M m fd) (hm : m ≤ 12) (a : AL M m lo hi A) (hpp : pp = (p : Int)) (hp : p < 8) (l0 : 14400 ≤ lo) (l1 : lo < hi) (l2 : hi ≤ 150000000) (l3 : hi - lo ≤ 10080) (hb : ∀ q : Nat, q < 4 → 0 ≤ iV M 5 q ∧ iV M 5 q ≤ 9) (hρ : ∀ x, -1 ≤ ρ x ∧ ρ x ≤ 3) (hro : ∀ x, x ∈ A → RO M ρ x) (hn : n ≤ 256) (c : iV M 119 0 = n) (hf : 2000 ≤ f) : ∃ M', f_Calendarhall_clashes O f 1 pp lo hi M = some (((sumN (prC (clS M ρ) (A.filter (fun x => tpB M p (rN x).toNat))) (A.filter (fun x => tpB M p (rN x).toNat)).length : Nat) : Int), M') ∧ Un P8 M M' := by
  subst hpp
  have hw := h.1.1
  have e2p : jshl 1 (jand (p : Int) 31) = ((2 ^ p : Nat) : Int) := by
    rw [jshl_one (by omega) (by omega), Int.toNat_natCast, two_pow_z]
  obtain ⟨y, ey, hy⟩ := seriesOf_ok (O := O) (f := f) h hm hp (by omega)
  have hy2 : Mk y 12 (fun k => k < m ∧ tpB M p k = true) := ⟨hy.1, hy.2.1, fun j hj => (hy.2.2 j hj).trans ⟨fun q => ⟨q.1, tpB_iff.mpr q.2⟩, fun q => ⟨q.1, tpB_iff.mp q.2⟩⟩⟩
  obtain ⟨M1, e1, u1, d1, g1⟩ := col_fil (O := O) (f := f) (q := tpB M p) h hm a hy2 (by omega) l1 l2 (by omega) hf
  have w1 := u1.wd hw
  have ln := len_fil (q := tpB M p) h hm a (by omega) (by omega)
  have hl := fil_hl (q := tpB M p) h hm a (by omega) l2 g1
  have iv : ∀ b j, b ≠ 116 → b ≠ 117 → b ≠ 118 → iV M1 b j = iV M b j := fun b j h1 h2 h3 => u1.i ⟨h1, h2, h3⟩
  have hro1 : ∀ x, x ∈ A.filter (fun x => tpB M p (rN x).toNat) → RO M1 ρ x := fun x hx => by
    obtain ⟨r1, r2⟩ := hro x (List.mem_filter.mp hx).1
    unfold RO
    rw [iv 119 0 (by omega) (by omega) (by omega)]
    simp (disch := omega) only [iv]
    exact ⟨r1, r2⟩
  obtain ⟨M2, e2, u2⟩ := findClashes_ok (O := O) (f := f) (ρ := ρ) d1 w1 ln.2 (fun x hx => (hl x hx).1) (fun q hq => by rw [iv 5 q (by omega) (by omega) (by omega)]; exact hb q hq) hρ hro1 hn (by rw [iv 119 0 (by omega) (by omega) (by omega)]; exact c) (by omega)
  refine ⟨M2, ?_, (u1.le (fun b q => by unfold P8 at q; unfold P3; omega)).tr (u2.le (fun b q => by unfold P8 at q; unfold PF; omega))⟩
  have hpn : f_Calendarhall_personNumbered O f 1 (p : Int) M = some (21 + 1 * ((p : Int)).toNat, M) := e_personNumbered hw (by omega) (by omega)
  unfold f_Calendarhall_clashes
  rw [a_Cal_is hw, hpn, xcl_e, xc_of (e_needPiece l0 (by omega) l1 (by omega) (by omega)), a_Cal_hall hw, a_Cal_dates hw, a_Cal_hall hw, a_Hall_is hw, e2p, ey, xcl_e, a_Hall_is hw, e1, xcl_e, a_Cal_meetings w1, a_Cal_dates w1, a_Cal_hall w1, a_Meetings_is w1, e2, xcl_e, prC_of (c' := clS M ρ) (fun x y hx hy => by
    unfold clB clS wayR
    rw [(hl x hx).2.1, iv 5 _ (by omega) (by omega) (by omega), iv 5 _ (by omega) (by omega) (by omega)])]
theorem roomOf_ok {x : Int} {n : Nat} (w : Wd M) (hn : n ≤ 256) (c : iV M 119 0 = n) (h : RO M ρ x) (he : ∃ i : Nat, i < n ∧ iV M 120 i = rN x ∧ iV M 121 i = rD x) (hf : 400 ≤ f) : f_Calendarhall_roomOf O f 1 (rN x) (rD x) M = some (ρ x, M) := by
  have rn : 0 ≤ rN x ∧ rN x < 16 := ⟨Int.emod_nonneg _ (by decide), Int.emod_lt_of_pos _ (by decide)⟩
  have rd : 0 ≤ rD x ∧ rD x < 262144 := ⟨Int.emod_nonneg _ (by decide), Int.emod_lt_of_pos _ (by decide)⟩
  rcases placeOf_ok (O := O) (f := f) (M := M) (s := rN x) (d := rD x) w c hn (by omega) (by omega) (by omega) (by omega) hf with ⟨k, k1, k2, k3, k4⟩ | ⟨k1, k4⟩
  · unfold f_Calendarhall_roomOf
    rw [a_Cal_meetings w, a_Meetings_is w, k4, xcl_e, eq_F (by omega) (by omega) (by omega) (by omega) (by omega), a_Cal_meetings w, a_Meetings_is w, roomAt_ok w (by omega), xcl_e, h.1 k (by omega) k2 k3]
  · obtain ⟨i, i1, i2, i3⟩ := he
    exact (k1 i i1 i2 i3).elim
theorem setRoom_ok {q b : Int} (h : Bs M) (q0 : 0 ≤ q) (q1 : q < 4) (b0 : 0 ≤ b) (b1 : b ≤ 9) (hf : 20 ≤ f) : ∃ M' y, f_Calendarhall_setRoom O f 1 q b M = some (y, M') ∧ Bs M' ∧ Un (fun a => a ≠ 1 ∧ a ≠ 5 ∧ (a < 140 ∨ 1044 ≤ a)) M M' ∧ (∀ j, j ≠ q.toNat → iV M' 5 j = iV M 5 j) ∧ iV M' 5 q.toNat = b := by
  have hw := h.1
  obtain ⟨N, eN, uN, bN⟩ := bs_save (O := O) (f := f) h hf
  have wN := bN.1
  have u' : Un (fun a => a ≠ 1 ∧ a ≠ 5 ∧ (a < 140 ∨ 1044 ≤ a)) M (iS N 5 q.toNat b) := (uN.le (fun a z => by (try dsimp only at z ⊢); omega)).iS (by (try dsimp only); omega)
  refine ⟨iS N 5 q.toNat b, iV M 5 q.toNat, ?_, bN.un (P := fun a => a ≠ 5) (Un.rf.iS (by (try dsimp only); omega)) (by (try dsimp only); omega) (fun j hj => by (try dsimp only); omega), u', fun j hj => ?_, iV_s (by omega) (by omega)⟩
  · unfold f_Calendarhall_setRoom
    rw [lt_F q0 (by omega) (by omega), a_Cal_hall hw, a_Hall_buildings hw, n_Hall_buildings hw, lt_T q1 (by omega) (by omega), c_needRange b0 b1 (by omega) (by omega), a_Cal_hall hw, a_Hall_buildings hw, r_Hall_buildings hw q0 (by omega), a_Cal_is hw, eN, xcl_e, a_Cal_hall wN, a_Hall_buildings wN, w_Hall_buildings wN q0 (by omega)]
  · rw [iV_o (Or.inr hj)]
    exact uN.i (by (try dsimp only); omega)
end LAC
end
/-! draft 590.lawmost -/
section
/-! ===== the law of rooms: the greatest number at once ===== -/
section LMO
variable {O : Nat → Option va_E} {f m n : Nat} {M N : xM} {A : List Int} {lo hi fd : Int}
theorem AL.of (h : SR M m fd) (hm : m ≤ 12) (a : AL M m lo hi A) (e : ∀ b j, 12 ≤ b → b < 116 → iV N b j = iV M b j) : AL N m lo hi A := by
  refine ⟨a.1, fun x => (a.2 x).trans ?_⟩
  have er : ∀ k, k < 12 → iV N (30 + 6 * k) = iV M (30 + 6 * k) := fun k hk => funext (fun j => e _ _ (by omega) (by omega))
  constructor
  · rintro ⟨k, hk, d, hd, q⟩
    have z := (h.2.2.1 k hk).1.2.1.2
    exact ⟨k, hk, d, by dsimp only; rw [er k (by omega)]; exact hd, (rwB_of (by omega) z e).mpr q⟩
  · rintro ⟨k, hk, d, hd, q⟩
    have z := (h.2.2.1 k hk).1.2.1.2
    have hd2 : D01 (iV N (30 + 6 * k)) d := hd
    rw [er k (by omega)] at hd2
    exact ⟨k, hk, d, hd2, (rwB_of (by omega) z e).mp q⟩
theorem e_lend {i : Nat} {x : Int} (hs : LTs n M) (ha : LTa n M i x) (hi : i < 300) : f_LDates_end O f n (i : Int) M = some (EnS M x, M) := by
  unfold f_LDates_end EnS
  rw [hs.gR (j := 2) (by decide), hs.aJ (j := 2) (by decide) (by omega) (by omega), hs.gR (j := 3) (by decide), hs.aJ (j := 3) (by decide) (by omega) (by omega), show ((i : Int)).toNat = i by omega]
  rw [show n + 1 + 2 = n + 3 by omega, show n + 1 + 3 = n + 4 by omega, ha.2.2.1, ha.2.2.2]
theorem c_lend {i : Nat} {x : Int} (hs : LTs n M) (ha : LTa n M i x) (hi : i < 300) {δ : Type} {A : _ → xM → Option δ} : xcl (f_LDates_end O f n (i : Int) M) A = A (EnS M x) (M) := xc_of (e_lend hs ha hi) A
def pM (M : xM) (A : List Int) (k : Nat) (x : Int) : Bool := qR M (rN x).toNat && onB (EnS M) (rM (A.getD k 0)) x
theorem lm_147 {K : Nat → Nat → Nat → Int → Int → Nat → Int → Int → xM → Option (Int × xM)} {v4 : Nat} {v5 v6 : Int} {v8 k : Nat} (h : SR M m fd) (hm : m ≤ 12) (a : AL M m lo hi A) (l0 : 10000 ≤ lo) (l2 : hi ≤ 150000000) (hl : A.length ≤ 132) (hs : LTs n M) (hv : LTv n M A) (hk : k < A.length) (h8 : v8 ≤ 1000) : ∀ (r t i : Nat), i + r = A.length → r < t → f_Law_areLaid_147 O f K t 1 0 v4 v5 v6 n (v8 : Int) (k : Int) ((cnF (pM M A k) A i : Nat) : Int) (i : Int) M = K 1 0 v4 v5 v6 n ((max v8 (cnF (pM M A k) A A.length) : Nat) : Int) ((k : Int) + 1) M := by
  have hw := h.1.1
  intro r
  induction r with
  | zero =>
    intro t i hi ht
    obtain ⟨t, rfl⟩ : ∃ n', t = n' + 1 := ⟨t - 1, by omega⟩
    obtain rfl : i = A.length := by omega
    have := cnF_n (p := pM M A k) (L := A) A.length
    show (gJ O M n 13 4).bind _ = _
    rw [hs.gJ, hv.1, le_T (by omega) (by omega) (by omega), e_max (by omega) (by omega) (by omega) (by omega), xcl_e]
    congr 1
    omega
  | succ r ih =>
    intro t i hi ht
    obtain ⟨t, rfl⟩ : ∃ n', t = n' + 1 := ⟨t - 1, by omega⟩
    have iz : ((i : Int)).toNat = i := by omega
    have kz : ((k : Int)).toNat = k := by omega
    have hmi := getD_mem (L := A) (i := i) (by omega)
    have hmk := getD_mem hk
    have bi := a.b h hm hmi
    have bk := a.b h hm hmk
    have ai := hv.2.2 i (by omega)
    have ak := hv.2.2 k hk
    have s := h.2.2.1 _ bi.2.1
    have s5 := s.1.2.2.2.2.2.1
    have en1 : EnS M (A.getD i 0) = rM (A.getD i 0) + iV M (29 + 6 * (rN (A.getD i 0)).toNat) 3 := rfl
    have q := ih t (i + 1) (by omega) (by omega)
    rw [show ((i + 1 : Nat) : Int) = (i : Int) + 1 by omega] at q
    have ce : cnF (pM M A k) A (i + 1) = cnF (pM M A k) A i + (if pM M A k (A.getD i 0) = true then 1 else 0) := rfl
    have t217 : pM M A k (A.getD i 0) = false → f_Law_areLaid_217 O f (f_Law_areLaid_147 O f K t) 1 0 v4 v5 v6 n (v8 : Int) (k : Int) (i : Int) ((cnF (pM M A k) A i : Nat) : Int) M = K 1 0 v4 v5 v6 n ((max v8 (cnF (pM M A k) A A.length) : Nat) : Int) ((k : Int) + 1) M := by
      intro g
      rw [if_neg (by rw [g]; exact Bool.false_ne_true)] at ce
      unfold f_Law_areLaid_217 f_Law_areLaid_218
      rw [Int.add_zero, ← q, ce]
      rfl
    have t218 : pM M A k (A.getD i 0) = true → f_Law_areLaid_218 O f (f_Law_areLaid_147 O f K t) 1 0 v4 v5 v6 n (v8 : Int) (k : Int) (i : Int) ((cnF (pM M A k) A i : Nat) : Int) 1 M = K 1 0 v4 v5 v6 n ((max v8 (cnF (pM M A k) A A.length) : Nat) : Int) ((k : Int) + 1) M := by
      intro g
      rw [if_pos g] at ce
      unfold f_Law_areLaid_218
      rw [← q, ce]
      rfl
    show (gJ O M n 13 4).bind _ = _
    rw [hs.gJ, hv.1, le_F (by omega) (by omega) (by omega), hs.gR (j := 0) (by decide), hs.aJ (j := 0) (by decide) (by omega) (by omega), iz, show n + 1 + 0 = n + 1 by omega, ai.1, a_Cal_is hw, e_seriesAt5 (k := (rN (A.getD i 0)).toNat) hw (by omega) (by omega) s.1.1 s.1.2.2.2.2.2.1, xcl_e]
    by_cases g1 : iV M (29 + 6 * (rN (A.getD i 0)).toNat) 5 = 1
    · rw [eq_T g1, hs.gR (j := 2) (by decide), hs.aJ (j := 2) (by decide) (by omega) (by omega), iz, hs.gR (j := 2) (by decide), hs.aJ (j := 2) (by decide) (by omega) (by omega), kz, show n + 1 + 2 = n + 3 by omega, ai.2.2.1, ak.2.2.1]
      by_cases g2 : rM (A.getD k 0) < rM (A.getD i 0)
      · rw [lt_T g2 (by omega) (by omega)]
        refine t217 ?_
        unfold pM onB
        rw [decide_eq_false (by omega), Bool.and_false]
      · rw [lt_F (by omega) (by omega) (by omega), hs.gR (j := 2) (by decide), hs.aJ (j := 2) (by decide) (by omega) (by omega), kz, show n + 1 + 2 = n + 3 by omega, ak.2.2.1, hs.is, e_lend hs ai (by omega), xcl_e]
        by_cases g3 : EnS M (A.getD i 0) ≤ rM (A.getD k 0)
        · rw [le_T g3 (by omega) (by omega)]
          refine t217 ?_
          unfold pM onB
          rw [decide_eq_false (by omega), Bool.and_false]
        · rw [le_F (by omega) (by omega) (by omega)]
          refine t218 ?_
          unfold pM onB qR
          rw [decide_eq_true g1, decide_eq_true ⟨by omega, by omega⟩]
          rfl
    · rw [eq_F g1 (by omega) (by omega) (by omega) (by omega)]
      refine t217 ?_
      unfold pM qR
      rw [decide_eq_false g1, Bool.false_and]
theorem lm_131 {v4 : Nat} {v5 v6 : Int} (h : SR M m fd) (hm : m ≤ 12) (a : AL M m lo hi A) (l0 : 10000 ≤ lo) (l2 : hi ≤ 150000000) (hl : A.length ≤ 132) (hs : LTs n M) (hv : LTv n M A) (hf : 400 ≤ f) : ∀ (r t k : Nat), k + r = A.length → r < t → ∃ t', f_Law_areLaid_131 O f t 1 0 v4 v5 v6 n ((mxN (fun k => cnF (pM M A k) A A.length) k : Nat) : Int) (k : Int) M = f_Law_areLaid_131 O f (t' + 1) 1 0 v4 v5 v6 n ((mxN (fun k => cnF (pM M A k) A A.length) A.length : Nat) : Int) (A.length : Int) M := by
  intro r
  induction r with
  | zero =>
    intro t k hk ht
    obtain ⟨t, rfl⟩ : ∃ n', t = n' + 1 := ⟨t - 1, by omega⟩
    obtain rfl : k = A.length := by omega
    exact ⟨t, rfl⟩
  | succ r ih =>
    intro t k hk ht
    obtain ⟨t, rfl⟩ : ∃ n', t = n' + 1 := ⟨t - 1, by omega⟩
    obtain ⟨t', q⟩ := ih t (k + 1) (by omega) (by omega)
    rw [show ((k + 1 : Nat) : Int) = (k : Int) + 1 by omega] at q
    refine ⟨t', ?_⟩
    rw [← q]
    have b8 : mxN (fun k => cnF (pM M A k) A A.length) k ≤ 1000 := mxN_le (fun i hi => Nat.le_trans (cnF_n _) (by omega))
    show (gJ O M n 13 4).bind _ = _
    rw [hs.gJ, hv.1, le_F (by omega) (by omega) (by omega)]
    exact lm_147 (O := O) (f := f) (K := f_Law_areLaid_131 O f t) (v4 := v4) (v5 := v5) (v6 := v6) h hm a l0 l2 hl hs hv (k := k) (by omega) b8 A.length f 0 (by omega) (by omega)
end LMO
end
/-! draft 591.lawrooms -/
section
/-! ===== the law of rooms: each date's room ===== -/
/-- what is known when rooms are read -/
def RH (M : xM) (m n n0 rc : Nat) (fd lo hi : Int) (A : List Int) (ρ : Int → Int) : Prop := SR M m fd ∧ AL M m lo hi A ∧ LTs n M ∧ LTv n M A ∧ (∀ x, x ∈ A → RO M ρ x) ∧ (∀ x, x ∈ A → qR M (rN x).toNat = true → ∃ i : Nat, i < n0 ∧ iV M 120 i = rN x ∧ iV M 121 i = rD x) ∧ (iV M 119 0 = n0 ∧ n0 ≤ 256) ∧ (∀ x, -1 ≤ ρ x ∧ ρ x ≤ 3) ∧ (∀ x, x ∈ A → qR M (rN x).toNat = false → ρ x = -1) ∧ (∀ i j : Nat, i < j → j < A.length → ρ (A.getD j 0) ≠ -1 → ρ (A.getD i 0) = ρ (A.getD j 0) → EnS M (A.getD i 0) ≤ rM (A.getD j 0)) ∧ Ar rc A.length M ∧ 1044 ≤ rc ∧ (rc < n ∨ n + 5 ≤ rc)
section LRO
variable {O : Nat → Option va_E} {f m n n0 rc : Nat} {M N : xM} {A : List Int} {lo hi fd : Int} {ρ : Int → Int}
theorem RH.un (h : RH M m n n0 rc fd lo hi A ρ) (hm : m ≤ 12) (u : Un (fun a => a ≠ rc) M N) : RH N m n n0 rc fd lo hi A ρ := by
  obtain ⟨h1, h2, h3, h4, h5, h6, h7, h8, h9, h10, h11, h12, h13⟩ := h
  have iv : ∀ b j, b < 1044 → iV N b j = iV M b j := fun b j hb => u.i (by (try dsimp only); omega)
  have ens : EnS N = EnS M := funext (fun x => by
    unfold EnS
    by_cases g : 29 + 6 * (rN x).toNat < 1044
    · rw [iv _ _ g]
    · have : 0 ≤ rN x ∧ rN x < 16 := ⟨Int.emod_nonneg _ (by decide), Int.emod_lt_of_pos _ (by decide)⟩
      omega)
  have hrn : ∀ y, y ∈ A → rN y < 12 := fun y hy => by
    have := h2.b h1 hm hy
    omega
  have qe : ∀ x, x ∈ A → qR N (rN x).toNat = qR M (rN x).toNat := fun x hx => by
    have := h2.b h1 hm hx
    unfold qR
    rw [iv _ _ (by omega)]
  refine ⟨h1.un hm u (h1.1.un u (by (try dsimp only); omega) (fun j hj => by (try dsimp only); omega)) (fun a p q => by (try dsimp only); omega), h2.of h1 hm (fun b j p q => iv b j (by omega)), h3.sm u.1, h4.kp h3 u.kp (fun a p q => by (try dsimp only); omega) (fun a p q => by (try dsimp only); omega) hrn, fun x hx => ?_, fun x hx g => ?_, ⟨by rw [iv _ _ (by omega)]; exact h7.1, h7.2⟩, h8, fun x hx g => h9 x hx (by rw [← qe x hx]; exact g), fun i j p q r s => by rw [ens]; exact h10 i j p q r s, h11.un u, h12, h13⟩
  · obtain ⟨a, b⟩ := h5 x hx
    unfold RO
    simp (disch := omega) only [iv]
    exact ⟨a, b⟩
  · rw [qe x hx] at g
    simp (disch := omega) only [iv]
    exact h6 x hx g
theorem lr_398 {K : Nat → Nat → Nat → Int → Int → Nat → Int → Nat → Int → xM → Option (Int × xM)} {v4 k : Nat} {v5 v6 v9 : Int} (h : RH M m n n0 rc fd lo hi A ρ) (hm : m ≤ 12) (l0 : 10000 ≤ lo) (l2 : hi ≤ 150000000) (hl : A.length ≤ 132) (hk : k < A.length) (hr : ∀ i, i < k + 1 → iV M rc i = ρ (A.getD i 0)) : ∀ (r t i : Nat), i + r = k → r < t → f_Law_areLaid_398 O f K t 1 0 v4 v5 v6 n v9 rc (k : Int) (i : Int) M = K 1 0 v4 v5 v6 n v9 rc ((k : Int) + 1) M := by
  obtain ⟨h1, h2, h3, h4, h5, h6, h7, h8, h9, h10, h11, h12, h13⟩ := h
  intro r
  induction r with
  | zero =>
    intro t i hi ht
    obtain ⟨t, rfl⟩ : ∃ n', t = n' + 1 := ⟨t - 1, by omega⟩
    obtain rfl : i = k := by omega
    show (if yw (i : Int) ≤ yw (i : Int) then _ else _) = _
    rw [le_T (by omega) (by omega) (by omega)]
  | succ r ih =>
    intro t i hi ht
    obtain ⟨t, rfl⟩ : ∃ n', t = n' + 1 := ⟨t - 1, by omega⟩
    have iz : ((i : Int)).toNat = i := by omega
    have kz : ((k : Int)).toNat = k := by omega
    have q := ih t (i + 1) (by omega) (by omega)
    rw [show ((i + 1 : Nat) : Int) = (i : Int) + 1 by omega] at q
    have bk := h8 (A.getD k 0)
    have bi := h8 (A.getD i 0)
    show (if yw (k : Int) ≤ yw (i : Int) then _ else _) = _
    rw [le_F (by omega) (by omega) (by omega), h11.aJ (by omega) (by omega), kz, hr k (by omega)]
    by_cases g : ρ (A.getD k 0) = -1
    · rw [eq_T g, q]
    · rw [eq_F g (by omega) (by omega) (by omega) (by omega), h11.aJ (by omega) (by omega), h11.aJ (by omega) (by omega), kz, iz, hr k (by omega), hr i (by omega)]
      by_cases g2 : ρ (A.getD i 0) = ρ (A.getD k 0)
      · have ak := h4.2.2 k hk
        have ai := h4.2.2 i (by omega)
        have b1 := h2.b h1 hm (getD_mem hk)
        have b2 := h2.b h1 hm (getD_mem (L := A) (i := i) (by omega))
        have en1 : EnS M (A.getD i 0) = rM (A.getD i 0) + iV M (29 + 6 * (rN (A.getD i 0)).toNat) 3 := rfl
        have z := h10 i k (by omega) hk g g2
        rw [eq_T g2, h3.gR (j := 2) (by decide), h3.aJ (j := 2) (by decide) (by omega) (by omega), kz, show n + 1 + 2 = n + 3 by omega, ak.2.2.1, h3.is, e_lend h3 ai (by omega), xcl_e, le_T z (by omega) (by omega), q]
      · rw [eq_F g2 (by omega) (by omega) (by omega) (by omega), q]
def pN (M : xM) (ρ : Int → Int) (x : Int) : Bool := qR M (rN x).toNat && decide (ρ x = -1)
theorem lr_303 {v4 : Nat} {v5 v6 v9 : Int} (h : RH M m n n0 rc fd lo hi A ρ) (hm : m ≤ 12) (l0 : 10000 ≤ lo) (l2 : hi ≤ 150000000) (hl : A.length ≤ 132) (c0 : 0 ≤ v9) (c1 : v9 ≤ 1000) (hf : 400 ≤ f) : ∀ (r t k : Nat) (N : xM), k + r = A.length → r < t → Un (fun a => a ≠ rc) M N → (∀ i, i < k → iV N rc i = ρ (A.getD i 0)) → ∃ N' t', f_Law_areLaid_303 O f t 1 0 v4 v5 v6 n (v9 - (cnF (pN M ρ) A k : Nat)) rc (k : Int) N = f_Law_areLaid_303 O f (t' + 1) 1 0 v4 v5 v6 n (v9 - (cnF (pN M ρ) A A.length : Nat)) rc (A.length : Int) N' ∧ Un (fun a => a ≠ rc) M N' ∧ ∀ i, i < A.length → iV N' rc i = ρ (A.getD i 0) := by
  intro r
  induction r with
  | zero =>
    intro t k N hk ht u hr
    obtain ⟨t, rfl⟩ : ∃ n', t = n' + 1 := ⟨t - 1, by omega⟩
    obtain rfl : k = A.length := by omega
    exact ⟨N, t, rfl, u, hr⟩
  | succ r ih =>
    intro t k N hk ht u hr
    obtain ⟨t, rfl⟩ : ∃ n', t = n' + 1 := ⟨t - 1, by omega⟩
    have kz : ((k : Int)).toNat = k := by omega
    have hN := h.un hm u
    have b := hN.2.1.b hN.1 hm (getD_mem (L := A) (i := k) (by omega))
    have qe : qR N (rN (A.getD k 0)).toNat = qR M (rN (A.getD k 0)).toNat := by
      unfold qR
      rw [u.i (by (try dsimp only); have := h.2.2.2.2.2.2.2.2.2.2.2.1; omega)]
    have hb := h.2.2.2.2.2.2.2.1 (A.getD k 0)
    have s := hN.1.2.2.1 _ b.2.1
    have ak := hN.2.2.2.1.2.2 k (by omega)
    have w := hN.1.1.1
    have u1 : Un (fun a => a ≠ rc) M (iS N rc k (ρ (A.getD k 0))) := u.iS (fun q => q rfl)
    have h1 := h.un hm u1
    have w1 := h1.1.1.1
    have b1 := h1.2.1.b h1.1 hm (getD_mem (L := A) (i := k) (by omega))
    have s1 := h1.1.2.2.1 _ b1.2.1
    have ak1 := h1.2.2.2.1.2.2 k (by omega)
    have qe1 : qR (iS N rc k (ρ (A.getD k 0))) (rN (A.getD k 0)).toNat = qR M (rN (A.getD k 0)).toNat := by
      unfold qR
      rw [u1.i (by (try dsimp only); have := h.2.2.2.2.2.2.2.2.2.2.2.1; omega)]
    have rd1 : iV (iS N rc k (ρ (A.getD k 0))) rc k = ρ (A.getD k 0) := iV_s (by omega) (by omega)
    have hr1 : ∀ i, i < k + 1 → iV (iS N rc k (ρ (A.getD k 0))) rc i = ρ (A.getD i 0) := fun i hi => by
      by_cases z : i = k
      · rw [z, rd1]
      · rw [iV_o (Or.inr z)]
        exact hr i (by omega)
    obtain ⟨N', t', e', u', r'⟩ := ih t (k + 1) _ (by omega) (by omega) u1 hr1
    rw [show ((k + 1 : Nat) : Int) = (k : Int) + 1 by omega] at e'
    have ce : cnF (pN M ρ) A (k + 1) = cnF (pN M ρ) A k + (if pN M ρ (A.getD k 0) = true then 1 else 0) := rfl
    have inner : ∀ v : Int, f_Law_areLaid_398 O f (f_Law_areLaid_303 O f t) f 1 0 v4 v5 v6 n v rc (k : Int) 0 (iS N rc k (ρ (A.getD k 0))) = f_Law_areLaid_303 O f t 1 0 v4 v5 v6 n v rc ((k : Int) + 1) (iS N rc k (ρ (A.getD k 0))) := fun v => lr_398 (O := O) (f := f) h1 hm l0 l2 hl (by omega) hr1 k f 0 (by omega) (by omega)
    have t358 : f_Law_areLaid_358 O f (f_Law_areLaid_303 O f t) 1 0 v4 v5 v6 n (v9 - (cnF (pN M ρ) A k : Nat)) rc (k : Int) rc (k : Int) (ρ (A.getD k 0)) N = f_Law_areLaid_303 O f (t' + 1) 1 0 v4 v5 v6 n (v9 - (cnF (pN M ρ) A A.length : Nat)) rc (A.length : Int) N' := by
      have s15 := s1.1.2.2.2.2.2.1
      unfold f_Law_areLaid_358
      rw [hN.2.2.2.2.2.2.2.2.2.2.1.wJ (by omega) (by omega), kz, h1.2.2.1.gR (j := 0) (by decide), h1.2.2.1.aJ (j := 0) (by decide) (by omega) (by omega), kz, show n + 1 + 0 = n + 1 by omega, ak1.1, a_Cal_is w1, e_seriesAt5 (k := (rN (A.getD k 0)).toNat) w1 (by omega) (by omega) s1.1.1 s15, xcl_e]
      by_cases g : iV (iS N rc k (ρ (A.getD k 0))) (29 + 6 * (rN (A.getD k 0)).toNat) 5 = 1
      · have qt : qR M (rN (A.getD k 0)).toNat = true := by
          rw [← qe1]
          exact decide_eq_true g
        rw [eq_T g, h1.2.2.2.2.2.2.2.2.2.2.1.aJ (by omega) (by omega), kz, rd1]
        by_cases g2 : ρ (A.getD k 0) = -1
        · rw [if_pos (by unfold pN; rw [qt, decide_eq_true g2]; rfl)] at ce
          rw [eq_T g2]
          unfold f_Law_areLaid_392
          rw [inner, ← e', ce]
          congr 1
          omega
        · rw [if_neg (by unfold pN; rw [qt, decide_eq_false g2]; exact Bool.false_ne_true)] at ce
          rw [eq_F g2 (by omega) (by omega) (by omega) (by omega)]
          unfold f_Law_areLaid_391 f_Law_areLaid_392
          rw [inner, ← e', ce]
          congr 1
          omega
      · have qt : qR M (rN (A.getD k 0)).toNat = false := by
          rw [← qe1]
          exact decide_eq_false g
        rw [if_neg (by unfold pN; rw [qt, Bool.false_and]; exact Bool.false_ne_true)] at ce
        rw [eq_F g (by omega) (by omega) (by omega) (by omega)]
        unfold f_Law_areLaid_391 f_Law_areLaid_392
        rw [inner, ← e', ce]
        congr 1
        omega
    refine ⟨N', t', ?_, u', r'⟩
    have s5 := s.1.2.2.2.2.2.1
    show (gJ O N n 13 4).bind _ = _
    rw [hN.2.2.1.gJ, hN.2.2.2.1.1, le_F (by omega) (by omega) (by omega), hN.2.2.1.gR (j := 0) (by decide), hN.2.2.1.aJ (j := 0) (by decide) (by omega) (by omega), kz, show n + 1 + 0 = n + 1 by omega, ak.1, a_Cal_is w, e_seriesAt5 (k := (rN (A.getD k 0)).toNat) w (by omega) (by omega) s.1.1 s5, xcl_e]
    by_cases g : iV N (29 + 6 * (rN (A.getD k 0)).toNat) 5 = 1
    · rw [eq_T g, hN.2.2.1.gR (j := 0) (by decide), hN.2.2.1.aJ (j := 0) (by decide) (by omega) (by omega), hN.2.2.1.gR (j := 1) (by decide), hN.2.2.1.aJ (j := 1) (by decide) (by omega) (by omega), kz, show n + 1 + 0 = n + 1 by omega, show n + 1 + 1 = n + 2 by omega, ak.1, ak.2.1, a_Cal_is w, roomOf_ok (O := O) (f := f) (ρ := ρ) w hN.2.2.2.2.2.2.1.2 hN.2.2.2.2.2.2.1.1 (hN.2.2.2.2.1 _ (getD_mem (by omega))) (hN.2.2.2.2.2.1 _ (getD_mem (by omega)) (decide_eq_true g)) hf, xcl_e]
      exact t358
    · have q1 : ρ (A.getD k 0) = -1 := hN.2.2.2.2.2.2.2.2.1 _ (getD_mem (by omega)) (decide_eq_false g)
      rw [eq_F g (by omega) (by omega) (by omega) (by omega)]
      rw [q1] at t358
      exact t358
end LRO
end
