/-! draft 592.lawpairs -/
section
/-! ===== the law of rooms: pairs ===== -/
theorem ctN_sum {p : Nat → Bool} : ∀ n, ctN p n = sumN (fun i => if p i = true then 1 else 0) n
  | 0 => rfl
  | n + 1 => by
    show ctN p n + _ = sumN _ n + _
    rw [ctN_sum n]
theorem sumN_zero : ∀ n, sumN (fun _ => 0) n = 0
  | 0 => rfl
  | n + 1 => by
    show sumN _ n + 0 = 0
    rw [sumN_zero n]
theorem sumN_swap {g : Nat → Nat → Nat} {n : Nat} : ∀ m, sumN (fun b => sumN (fun a => g a b) n) m = sumN (fun a => sumN (fun b => g a b) m) n
  | 0 => by
    show 0 = sumN (fun a => 0) n
    rw [sumN_zero]
  | m + 1 => by
    show sumN (fun b => sumN (fun a => g a b) n) m + sumN (fun a => g a m) n = sumN (fun a => sumN (fun b => g a b) m + g a m) n
    rw [sumN_add, sumN_swap m]
theorem sumN_cons {a : Nat → Nat} : ∀ n, sumN a (n + 1) = a 0 + sumN (fun i => a (i + 1)) n
  | 0 => by
    show 0 + a 0 = a 0 + 0
    omega
  | n + 1 => by
    have := sumN_cons (a := a) n
    show sumN a (n + 1) + a (n + 1) = a 0 + (sumN (fun i => a (i + 1)) n + a (n + 1))
    omega
theorem ctN_cons {p : Nat → Bool} (n : Nat) : ctN p (n + 1) = (if p 0 = true then 1 else 0) + ctN (fun i => p (i + 1)) n := by
  rw [ctN_sum, ctN_sum, sumN_cons]
def pcL (c : Int → Int → Bool) : List Int → Nat
  | [] => 0
  | a :: l => (l.filter (c a)).length + pcL c l
theorem pcL_prC {c : Int → Int → Bool} : ∀ L : List Int, sumN (prC c L) L.length = pcL c L
  | [] => rfl
  | a :: l => by
    rw [List.length_cons, sumN_cons]
    show _ = (l.filter (c a)).length + pcL c l
    rw [← pcL_prC l]
    congr 1
    · unfold prC
      rw [List.length_cons, ctN_cons, ← cnF_all, cnF_ctN]
      show (if (decide (0 < 0) && c a a) = true then 1 else 0) + ctN (fun i => decide (0 < i + 1) && c a (l.getD i 0)) l.length = _
      rw [decide_eq_false (by omega), Bool.false_and, if_neg Bool.false_ne_true, Nat.zero_add]
      exact ctN_of _ (fun i hi => by rw [decide_eq_true (by omega), Bool.true_and])
    · refine sumN_of _ (fun k hk => ?_)
      unfold prC
      rw [List.length_cons, ctN_cons]
      show (if (decide (k + 1 < 0) && c (l.getD k 0) a) = true then 1 else 0) + ctN (fun i => decide (k + 1 < i + 1) && c (l.getD k 0) (l.getD i 0)) l.length = _
      rw [decide_eq_false (by omega), Bool.false_and, if_neg Bool.false_ne_true, Nat.zero_add]
      refine ctN_of _ (fun i hi => ?_)
      congr 1
      by_cases g : k < i
      · rw [decide_eq_true g, decide_eq_true (by omega)]
      · rw [decide_eq_false g, decide_eq_false (by omega)]
theorem pcL_fil {c : Int → Int → Bool} {P : Int → Bool} : ∀ L : List Int, pcL c (L.filter P) = pcL (fun a b => P a && P b && c a b) L
  | [] => rfl
  | a :: l => by
    rw [List.filter_cons]
    show _ = (l.filter (fun b => P a && P b && c a b)).length + pcL _ l
    by_cases g : P a = true
    · rw [if_pos g]
      show ((l.filter P).filter (c a)).length + pcL c (l.filter P) = _
      rw [filter_two, pcL_fil l, g]
      rfl
    · rw [if_neg g, pcL_fil l]
      have e : l.filter (fun b => P a && P b && c a b) = [] := by
        refine List.filter_eq_nil_iff.mpr (fun x hx => ?_)
        rw [Bool.eq_false_iff.mpr g, Bool.false_and, Bool.false_and]
        exact Bool.false_ne_true
      rw [e]
      show _ = 0 + _
      omega
/-- the law's pairs are the class's -/
theorem pairs_eq {c : Int → Int → Bool} {P : Int → Bool} {A : List Int} : sumN (fun b => ctN (fun a => decide (a < b) && (P (A.getD a 0) && P (A.getD b 0) && c (A.getD a 0) (A.getD b 0))) A.length) A.length = sumN (prC c (A.filter P)) (A.filter P).length := by
  rw [pcL_prC, pcL_fil, ← pcL_prC]
  rw [sumN_of (a := fun b => ctN (fun a => decide (a < b) && (P (A.getD a 0) && P (A.getD b 0) && c (A.getD a 0) (A.getD b 0))) A.length) A.length (fun b _ => ctN_sum _), sumN_swap]
  exact sumN_of _ (fun a _ => (ctN_sum (p := fun b => decide (a < b) && (P (A.getD a 0) && P (A.getD b 0) && c (A.getD a 0) (A.getD b 0))) _).symm)
section LPA
variable {O : Nat → Option va_E} {f m n n0 rc bc p : Nat} {M N : xM} {A : List Int} {lo hi fd : Int} {ρ : Int → Int}
def pP (M : xM) (p : Nat) (ρ : Int → Int) (x y : Int) : Bool := tpB M p (rN x).toNat && tpB M p (rN y).toNat && clS M ρ x y
theorem lp_510 {K : Nat → Nat → Int → Int → Nat → Nat → Int → Int → Int → xM → Option (Int × xM)} {v5 v6 : Int} {b : Nat} {c : Nat} (h : RH M m n n0 rc fd lo hi A ρ) (hm : m ≤ 12) (l0 : 10000 ≤ lo) (l2 : hi ≤ 150000000) (hl : A.length ≤ 132) (hp : p < 8) (hb : b < A.length) (hr : ∀ i, i < A.length → iV M rc i = ρ (A.getD i 0)) (ab : Ar bc 4 M) (hbc : ∀ q : Nat, q < 4 → iV M bc q = iV M 5 q ∧ 0 ≤ iV M 5 q ∧ iV M 5 q ≤ 9) (hf : 400 ≤ f) : ∀ (r t a : Nat), a + r = A.length → r < t → f_Law_areLaid_510 O f K t 1 bc v5 v6 n rc (p : Int) ((c + ctN (fun a => decide (a < b) && pP M p ρ (A.getD a 0) (A.getD b 0)) a : Nat) : Int) (b : Int) (a : Int) M = K 1 bc v5 v6 n rc (p : Int) ((c + ctN (fun a => decide (a < b) && pP M p ρ (A.getD a 0) (A.getD b 0)) A.length : Nat) : Int) ((b : Int) + 1) M := by
  obtain ⟨h1, h2, h3, h4, h5, h6, h7, h8, h9, h10, h11, h12, h13⟩ := h
  intro r
  induction r with
  | zero =>
    intro t a ha ht
    obtain ⟨t, rfl⟩ : ∃ n', t = n' + 1 := ⟨t - 1, by omega⟩
    obtain rfl : a = A.length := by omega
    show (gJ O M n 13 4).bind _ = _
    rw [h3.gJ, h4.1, le_T (by omega) (by omega) (by omega)]
  | succ r ih =>
    intro t a ha ht
    obtain ⟨t, rfl⟩ : ∃ n', t = n' + 1 := ⟨t - 1, by omega⟩
    have az : ((a : Int)).toNat = a := by omega
    have bz : ((b : Int)).toNat = b := by omega
    have hma := getD_mem (L := A) (i := a) (by omega)
    have hmb := getD_mem hb
    have ba := h2.b h1 hm hma
    have bb := h2.b h1 hm hmb
    have ga := h4.2.2 a (by omega)
    have gb := h4.2.2 b hb
    have ra := h8 (A.getD a 0)
    have rb := h8 (A.getD b 0)
    have na : rN (A.getD a 0) < 16 := Int.emod_lt_of_pos _ (by decide)
    have nb : rN (A.getD b 0) < 16 := Int.emod_lt_of_pos _ (by decide)
    have en1 : EnS M (A.getD a 0) = rM (A.getD a 0) + iV M (29 + 6 * (rN (A.getD a 0)).toNat) 3 := rfl
    have q := ih t (a + 1) (by omega) (by omega)
    rw [show ((a + 1 : Nat) : Int) = (a : Int) + 1 by omega] at q
    have ce : ctN (fun a => decide (a < b) && pP M p ρ (A.getD a 0) (A.getD b 0)) (a + 1) = ctN (fun a => decide (a < b) && pP M p ρ (A.getD a 0) (A.getD b 0)) a + (if (decide (a < b) && pP M p ρ (A.getD a 0) (A.getD b 0)) = true then 1 else 0) := rfl
    generalize ctN (fun a => decide (a < b) && pP M p ρ (A.getD a 0) (A.getD b 0)) A.length = tot at q ⊢
    generalize ctN (fun a => decide (a < b) && pP M p ρ (A.getD a 0) (A.getD b 0)) (a + 1) = c1 at q ce
    generalize ctN (fun a => decide (a < b) && pP M p ρ (A.getD a 0) (A.getD b 0)) a = c0 at ce ⊢
    have no : (decide (a < b) && pP M p ρ (A.getD a 0) (A.getD b 0)) = false → f_Law_areLaid_510 O f K t 1 bc v5 v6 n rc (p : Int) ((c + c0 : Nat) : Int) (b : Int) ((a : Int) + 1) M = K 1 bc v5 v6 n rc (p : Int) ((c + tot : Nat) : Int) ((b : Int) + 1) M := by
      intro g
      rw [if_neg (by rw [g]; exact Bool.false_ne_true)] at ce
      rw [← q, ce]
      rfl
    have yes : (decide (a < b) && pP M p ρ (A.getD a 0) (A.getD b 0)) = true → f_Law_areLaid_510 O f K t 1 bc v5 v6 n rc (p : Int) (((c + c0 : Nat) : Int) + 1) (b : Int) ((a : Int) + 1) M = K 1 bc v5 v6 n rc (p : Int) ((c + tot : Nat) : Int) ((b : Int) + 1) M := by
      intro g
      rw [if_pos g] at ce
      rw [← q, ce]
      congr 1
    have t619 : ¬ a < b → f_Law_areLaid_619 O f (f_Law_areLaid_510 O f K t) 1 bc v5 v6 n rc (p : Int) ((c + c0 : Nat) : Int) (b : Int) (a : Int) M = K 1 bc v5 v6 n rc (p : Int) ((c + tot : Nat) : Int) ((b : Int) + 1) M := by
      intro g
      unfold f_Law_areLaid_619 f_Law_areLaid_620
      rw [eq_T rfl]
      exact no (by rw [decide_eq_false g, Bool.false_and])
    have t615 : a < b → f_Law_areLaid_615 O f (f_Law_areLaid_510 O f K t) 1 bc v5 v6 n rc (p : Int) ((c + c0 : Nat) : Int) (b : Int) (a : Int) M = K 1 bc v5 v6 n rc (p : Int) ((c + tot : Nat) : Int) ((b : Int) + 1) M := by
      intro g
      obtain ⟨y1, e1, o1⟩ := takesPart_ok (O := O) (f := f) (kk := rN (A.getD a 0)) (pp := (p : Int)) (k := (rN (A.getD a 0)).toNat) h1 hm (by omega) ba.2.1 rfl hp
      obtain ⟨y2, e2, o2⟩ := takesPart_ok (O := O) (f := f) (kk := rN (A.getD b 0)) (pp := (p : Int)) (k := (rN (A.getD b 0)).toNat) h1 hm (by omega) bb.2.1 rfl hp
      unfold f_Law_areLaid_615 f_Law_areLaid_620
      rw [eq_F (by omega) (by omega) (by omega) (by omega) (by omega), h3.gR (j := 0) (by decide), h3.aJ (j := 0) (by decide) (by omega) (by omega), az, show n + 1 + 0 = n + 1 by omega, ga.1, e1, xcl_e]
      rcases o1 with ⟨rfl, o1⟩ | ⟨rfl, o1⟩
      · rw [eq_F (by omega) (by omega) (by omega) (by omega) (by omega), h3.gR (j := 0) (by decide), h3.aJ (j := 0) (by decide) (by omega) (by omega), bz, show n + 1 + 0 = n + 1 by omega, gb.1, e2, xcl_e]
        rcases o2 with ⟨rfl, o2⟩ | ⟨rfl, o2⟩
        · have pe : (decide (a < b) && pP M p ρ (A.getD a 0) (A.getD b 0)) = clS M ρ (A.getD a 0) (A.getD b 0) := by
            unfold pP
            rw [decide_eq_true g, tpB_iff.mpr o1, tpB_iff.mpr o2, Bool.true_and, Bool.true_and, Bool.true_and]
          rw [pe] at yes no
          rw [eq_F (by omega) (by omega) (by omega) (by omega) (by omega), h3.gR (j := 2) (by decide), h3.aJ (j := 2) (by decide) (by omega) (by omega), bz, show n + 1 + 2 = n + 3 by omega, gb.2.2.1, h3.is, e_lend h3 ga (by omega), xcl_e, h11.aJ (by omega) (by omega), az, hr a (by omega)]
          have fin : ∀ wy : Int, wy = wayR M (ρ (A.getD a 0)) (ρ (A.getD b 0)) → 0 ≤ wy → wy ≤ 45 → f_Law_areLaid_726 O f (f_Law_areLaid_510 O f K t) 1 bc v5 v6 n rc (p : Int) ((c + c0 : Nat) : Int) (b : Int) (a : Int) (rM (A.getD b 0) - EnS M (A.getD a 0)) wy M = K 1 bc v5 v6 n rc (p : Int) ((c + tot : Nat) : Int) ((b : Int) + 1) M := by
            intro wy hwy w0 w1
            unfold f_Law_areLaid_726 f_Law_areLaid_742 f_Law_areLaid_747
            by_cases g0 : rM (A.getD b 0) - EnS M (A.getD a 0) < 0
            · rw [lt_T g0 (by omega) (by omega)]
              exact yes (decide_eq_true (Or.inl (by omega)))
            · rw [lt_F (by omega) (by omega) (by omega)]
              by_cases g1 : wy ≤ rM (A.getD b 0) - EnS M (A.getD a 0)
              · rw [le_T g1 (by omega) (by omega), Int.add_zero]
                exact no (decide_eq_false (by omega))
              · rw [le_F (by omega) (by omega) (by omega)]
                exact yes (decide_eq_true (Or.inr (by omega)))
          by_cases g1 : ρ (A.getD a 0) = -1
          · rw [eq_T g1]
            exact fin 0 (by unfold wayR; rw [if_pos (Or.inl g1)]) (by omega) (by omega)
          · rw [eq_F g1 (by omega) (by omega) (by omega) (by omega), h11.aJ (by omega) (by omega), bz, hr b hb]
            by_cases g2 : ρ (A.getD b 0) = -1
            · rw [eq_T g2]
              exact fin 0 (by unfold wayR; rw [if_pos (Or.inr g2)]) (by omega) (by omega)
            · have c1 := hbc (ρ (A.getD a 0)).toNat (by omega)
              have c2 := hbc (ρ (A.getD b 0)).toNat (by omega)
              rw [eq_F g2 (by omega) (by omega) (by omega) (by omega), h11.aJ (by omega) (by omega), az, hr a (by omega), ab.aJ (by omega) (by omega), h11.aJ (by omega) (by omega), bz, hr b hb, ab.aJ (by omega) (by omega), c1.1, c2.1, e_abs (by omega) (by omega), xcl_e]
              exact fin _ (by unfold wayR; rw [if_neg (by omega)]) (by omega) (by omega)
        · rw [eq_T rfl]
          refine no ?_
          unfold pP
          rw [Bool.eq_false_iff.mpr (fun z => o2 (tpB_iff.mp z)), Bool.and_false, Bool.false_and, Bool.and_false]
      · rw [eq_T rfl]
        refine no ?_
        unfold pP
        rw [Bool.eq_false_iff.mpr (fun z => o1 (tpB_iff.mp z)), Bool.false_and, Bool.false_and, Bool.and_false]
    have xa := ba.2.2.2.2.2.2.2.2.2
    have xb := bb.2.2.2.2.2.2.2.2.2
    have lt_ab : A.getD a 0 < A.getD b 0 → a < b := fun z => by
      rcases Nat.lt_trichotomy a b with y | y | y
      · exact y
      · rw [y] at z
        exact absurd z (Int.lt_irrefl _)
      · have := srt_lt h2.1 y (by omega)
        omega
    have ge_ab : A.getD b 0 ≤ A.getD a 0 → ¬ a < b := fun z y => by
      have := srt_lt h2.1 y hb
      omega
    unfold rw' at xa xb
    show (gJ O M n 13 4).bind _ = _
    rw [h3.gJ, h4.1, le_F (by omega) (by omega) (by omega), h3.gR (j := 2) (by decide), h3.aJ (j := 2) (by decide) (by omega) (by omega), h3.gR (j := 2) (by decide), h3.aJ (j := 2) (by decide) (by omega) (by omega), az, bz, show n + 1 + 2 = n + 3 by omega, ga.2.2.1, gb.2.2.1]
    by_cases k1 : rM (A.getD a 0) < rM (A.getD b 0)
    · rw [lt_T k1 (by omega) (by omega)]
      exact t615 (lt_ab (by omega))
    · rw [lt_F (by omega) (by omega) (by omega), h3.gR (j := 2) (by decide), h3.aJ (j := 2) (by decide) (by omega) (by omega), h3.gR (j := 2) (by decide), h3.aJ (j := 2) (by decide) (by omega) (by omega), az, bz, show n + 1 + 2 = n + 3 by omega, ga.2.2.1, gb.2.2.1]
      by_cases k2 : rM (A.getD a 0) = rM (A.getD b 0)
      · rw [eq_T k2, h3.gR (j := 0) (by decide), h3.aJ (j := 0) (by decide) (by omega) (by omega), h3.gR (j := 0) (by decide), h3.aJ (j := 0) (by decide) (by omega) (by omega), az, bz, show n + 1 + 0 = n + 1 by omega, ga.1, gb.1]
        by_cases k3 : rN (A.getD a 0) < rN (A.getD b 0)
        · rw [lt_T k3 (by omega) (by omega)]
          exact t615 (lt_ab (by omega))
        · rw [lt_F (by omega) (by omega) (by omega), h3.gR (j := 0) (by decide), h3.aJ (j := 0) (by decide) (by omega) (by omega), h3.gR (j := 0) (by decide), h3.aJ (j := 0) (by decide) (by omega) (by omega), az, bz, show n + 1 + 0 = n + 1 by omega, ga.1, gb.1]
          by_cases k4 : rN (A.getD a 0) = rN (A.getD b 0)
          · rw [eq_T k4, h3.gR (j := 1) (by decide), h3.aJ (j := 1) (by decide) (by omega) (by omega), h3.gR (j := 1) (by decide), h3.aJ (j := 1) (by decide) (by omega) (by omega), az, bz, show n + 1 + 1 = n + 2 by omega, ga.2.1, gb.2.1]
            by_cases k5 : rD (A.getD b 0) ≤ rD (A.getD a 0)
            · rw [le_T k5 (by omega) (by omega)]
              exact t619 (ge_ab (by omega))
            · rw [le_F (by omega) (by omega) (by omega)]
              exact t615 (lt_ab (by omega))
          · rw [eq_F k4 (by omega) (by omega) (by omega) (by omega)]
            exact t619 (ge_ab (by omega))
      · rw [eq_F k2 (by omega) (by omega) (by omega) (by omega)]
        exact t619 (ge_ab (by omega))
end LPA
end
/-! draft 593.rho -/
section
/-! ===== the law of rooms: which room a date got ===== -/
def rho (M : xM) (R : List Int) (q : Nat → Bool) (x : Int) : Int := if (q (rN x).toNat && decide (rk R x < R.length)) = true then iV M 122 (rk R x) else -1
section RHO
variable {O : Nat → Option va_E} {f m n : Nat} {M N : xM} {A : List Int} {lo hi fd : Int} {e : Int → Int}
theorem AL.same (h : SR M m fd) (hm : m ≤ 12) (a : AL M m lo hi A) {x y : Int} (hx : x ∈ A) (hy : y ∈ A) (h1 : rN x = rN y) (h2 : rD x = rD y) : x = y := by
  have bx := a.b h hm hx
  have b_y := a.b h hm hy
  have ex := bx.2.2.2.2.2.2.2.2.2
  have ey := b_y.2.2.2.2.2.2.2.2.2
  have mx := bx.2.2.2.2.2.2.2.2.1
  have my := b_y.2.2.2.2.2.2.2.2.1
  rw [ex, ey, mx, my, h1, h2]
theorem rho_all (h : SR M m fd) (hm : m ≤ 12) (a : AL M m lo hi A) {q : Nat → Bool} {R : List Int} (hR : R = A.filter (fun x => q (rN x).toNat)) (li : LI e M R R.length) (c : iV M 119 0 = R.length) : (∀ x, x ∈ A → RO M (rho M R q) x) ∧ (∀ x, x ∈ A → q (rN x).toNat = true → ∃ i : Nat, i < R.length ∧ iV M 120 i = rN x ∧ iV M 121 i = rD x) ∧ (∀ x, -1 ≤ rho M R q x ∧ rho M R q x ≤ 3) ∧ (∀ x, x ∈ A → q (rN x).toNat = false → rho M R q x = -1) ∧ (∀ i j : Nat, i < j → j < A.length → rho M R q (A.getD j 0) ≠ -1 → rho M R q (A.getD i 0) = rho M R q (A.getD j 0) → e (A.getD i 0) ≤ rM (A.getD j 0)) ∧ (∀ i, i < R.length → rho M R q (R.getD i 0) = iV M 122 i) := by
  obtain ⟨l1, l2, l3⟩ := li
  have sR : srt R := by rw [hR]; exact a.fil
  have inA : ∀ x, x ∈ R → x ∈ A ∧ q (rN x).toNat = true := fun x hx => by
    rw [hR] at hx
    exact List.mem_filter.mp hx
  have inR : ∀ x, x ∈ A → q (rN x).toNat = true → ∃ i, i < R.length ∧ R.getD i 0 = x := fun x hx hq => mem_getD (by rw [hR]; exact List.mem_filter.mpr ⟨hx, hq⟩)
  have val : ∀ i, i < R.length → rho M R q (R.getD i 0) = iV M 122 i := fun i hi => by
    unfold rho
    rw [rk_at sR hi, (inA _ (getD_mem hi)).2, if_pos (by rw [decide_eq_true hi]; rfl)]
  have rb : ∀ x, -1 ≤ rho M R q x ∧ rho M R q x ≤ 3 := fun x => by
    unfold rho
    by_cases g : (q (rN x).toNat && decide (rk R x < R.length)) = true
    · rw [if_pos g]
      exact (l1 _ (of_decide_eq_true (Bool.and_eq_true_iff.mp g).2)).2.2
    · rw [if_neg g]
      omega
  have r0 : ∀ x, q (rN x).toNat = false → rho M R q x = -1 := fun x g => by
    unfold rho
    rw [g, Bool.false_and, if_neg Bool.false_ne_true]
  have rq : ∀ x, rho M R q x ≠ -1 → q (rN x).toNat = true := fun x g => by
    cases z : q (rN x).toNat
    · exact absurd (r0 x z) g
    · rfl
  refine ⟨fun x hx => ⟨fun p hp h1 h2 => ?_, fun no => ?_⟩, fun x hx hq => ?_, rb, fun x _ g => r0 x g, fun i j hij hj g1 g2 => ?_, val⟩
  · have hp2 : p < R.length := by omega
    have li := l1 p hp2
    have same := a.same h hm (inA _ (getD_mem hp2)).1 hx (li.1.symm.trans h1) (li.2.1.symm.trans h2)
    rw [← same, val p hp2]
  · cases z : q (rN x).toNat
    · exact r0 x z
    · obtain ⟨i, i1, i2⟩ := inR x hx z
      have li := l1 i i1
      rw [i2] at li
      exact (no i (by omega) li.1 li.2.1).elim
  · obtain ⟨i, i1, i2⟩ := inR x hx hq
    have li := l1 i i1
    rw [i2] at li
    exact ⟨i, i1, li.1, li.2.1⟩
  · obtain ⟨i', i1, i2⟩ := inR _ (getD_mem (L := A) (i := i) (by omega)) (rq _ (by rw [g2]; exact g1))
    obtain ⟨j', j1, j2⟩ := inR _ (getD_mem hj) (rq _ g1)
    have lt := srt_lt a.1 hij hj
    rw [← i2, ← j2] at g2 lt ⊢
    rw [← j2] at g1
    rw [val _ i1, val _ j1] at g2
    rw [val _ j1] at g1
    have ij : i' < j' := by
      rcases Nat.lt_trichotomy i' j' with y | y | y
      · exact y
      · rw [y] at lt
        exact absurd lt (Int.lt_irrefl _)
      · have := srt_lt sR y i1
        omega
    exact l2 i' j' ij j1 g2 (by rw [g2]; exact g1)
/-- so many dates without a room -/
theorem none_eq {q : Nat → Bool} {R : List Int} (hR : R = A.filter (fun x => q (rN x).toNat)) (val : ∀ i, i < R.length → rho M R q (R.getD i 0) = iV M 122 i) : cnF (fun x => q (rN x).toNat && decide (rho M R q x = -1)) A A.length = ctN (fun i => decide (iV M 122 i = -1)) R.length := by
  rw [cnF_all, ← filter_two (p := fun x => q (rN x).toNat) (q := fun x => decide (rho M R q x = -1)), ← hR, ← cnF_all, cnF_ctN]
  exact ctN_of _ (fun i hi => by rw [val i hi])
theorem lp_497 {n0 rc bc p : Nat} {ρ : Int → Int} {v5 v6 : Int} (h : RH M m n n0 rc fd lo hi A ρ) (hm : m ≤ 12) (l0 : 10000 ≤ lo) (l2 : hi ≤ 150000000) (hl : A.length ≤ 132) (hp : p < 8) (hr : ∀ i, i < A.length → iV M rc i = ρ (A.getD i 0)) (ab : Ar bc 4 M) (hbc : ∀ q : Nat, q < 4 → iV M bc q = iV M 5 q ∧ 0 ≤ iV M 5 q ∧ iV M 5 q ≤ 9) (hf : 400 ≤ f) : ∀ (r t b : Nat), b + r = A.length → r < t → ∃ t', f_Law_areLaid_497 O f t 1 bc v5 v6 n rc (p : Int) ((sumN (fun b => ctN (fun a => decide (a < b) && pP M p ρ (A.getD a 0) (A.getD b 0)) A.length) b : Nat) : Int) (b : Int) M = f_Law_areLaid_497 O f (t' + 1) 1 bc v5 v6 n rc (p : Int) ((sumN (fun b => ctN (fun a => decide (a < b) && pP M p ρ (A.getD a 0) (A.getD b 0)) A.length) A.length : Nat) : Int) (A.length : Int) M := by
  intro r
  induction r with
  | zero =>
    intro t b hb ht
    obtain ⟨t, rfl⟩ : ∃ n', t = n' + 1 := ⟨t - 1, by omega⟩
    obtain rfl : b = A.length := by omega
    exact ⟨t, rfl⟩
  | succ r ih =>
    intro t b hb ht
    obtain ⟨t, rfl⟩ : ∃ n', t = n' + 1 := ⟨t - 1, by omega⟩
    obtain ⟨t', q⟩ := ih t (b + 1) (by omega) (by omega)
    rw [show ((b + 1 : Nat) : Int) = (b : Int) + 1 by omega] at q
    refine ⟨t', ?_⟩
    rw [← q]
    have z := lp_510 (O := O) (f := f) (K := f_Law_areLaid_497 O f t) (v5 := v5) (v6 := v6) (b := b) (c := sumN (fun b => ctN (fun a => decide (a < b) && pP M p ρ (A.getD a 0) (A.getD b 0)) A.length) b) h hm l0 l2 hl hp (by omega) hr ab hbc hf A.length f 0 (by omega) (by omega)
    show (gJ O M n 13 4).bind _ = _
    rw [h.2.2.1.gJ, h.2.2.2.1.1, le_F (by omega) (by omega) (by omega)]
    exact z
end RHO
end
/-! draft 594.lawlaid -/
section
/-! ===== the law of rooms, from all dates on ===== -/
section LLD
variable {O : Nat → Option va_E} {f m n bc : Nat} {M N : xM} {A : List Int} {lo hi fd : Int}
theorem LI.ofV {e : Int → Int} {L : List Int} {k : Nat} (h : LI e M L k) (g : ∀ b j, 119 < b → b < 123 → iV N b j = iV M b j) : LI e N L k := by
  obtain ⟨h1, h2, h3⟩ := h
  unfold LI
  simp (disch := omega) only [g]
  exact ⟨h1, h2, h3⟩
theorem ll_131 {t : Nat} (h : SR M m fd) (hm : m ≤ 12) (a : AL M m lo hi A) (l0 : 14400 ≤ lo) (l1 : lo < hi) (l2 : hi ≤ 150000000) (l3 : hi - lo ≤ 10080) (hs : LTs n M) (hv : LTv n M A) (ab : Ar bc 4 M) (hbn : 1044 ≤ bc) (hbc : ∀ q : Nat, q < 4 → iV M bc q = iV M 5 q ∧ 0 ≤ iV M 5 q ∧ iV M 5 q ≤ 9) (hM : M.1 ≤ 1100) (hM2 : M.2.1 ≤ 60000) (hf : 10000 ≤ f) : ∃ M', f_Law_areLaid_131 O f (t + 1) 1 0 bc lo hi n ((mxN (fun k => cnF (pM M A k) A A.length) A.length : Nat) : Int) (A.length : Int) M = some (1, M') ∧ M'.1 ≤ 2000 ∧ M'.2.1 ≤ 200000 := by
  have hw := h.1.1
  have hl := (len_fil (q := qR M) h hm a (by omega) (by omega))
  obtain ⟨R, eR⟩ : ∃ R, R = A.filter (fun x => qR M (rN x).toNat) := ⟨_, rfl⟩
  -- rooms laid
  obtain ⟨M1, e1, u1, c1, i1⟩ := layRooms_ok (O := O) (f := f) h hm a l0 l1 l2 l3 (by omega)
  rw [← eR] at e1 c1 i1 hl
  have iv1 : ∀ b j, b < 116 → iV M1 b j = iV M b j := fun b j hb => u1.i (by unfold P8; omega)
  have b1 : Bs M1 := h.1.un u1 (by unfold P8; omega) (fun j hj => by unfold P8; omega)
  have h1 : SR M1 m fd := h.un hm u1 b1 (fun a p q => by unfold P8; omega)
  have a1 : AL M1 m lo hi A := a.of h hm (fun b j p q => iv1 b j (by omega))
  have nb : ∀ x : Int, 0 ≤ rN x ∧ rN x < 16 := fun x => ⟨Int.emod_nonneg _ (by decide), Int.emod_lt_of_pos _ (by decide)⟩
  have ens : ∀ {P : xM}, (∀ b j, 29 ≤ b → b < 120 → b ≠ 116 → b ≠ 117 → b ≠ 118 → b ≠ 119 → iV P b j = iV M b j) → ∀ x, x ∈ A → EnS P x = EnS M x := fun {P} g x hx => by
    have b := a.b h hm hx
    unfold EnS
    rw [g _ _ (by omega) (by omega) (by omega) (by omega) (by omega) (by omega)]
  have qr : ∀ {P : xM}, (∀ b j, 29 ≤ b → b < 101 → iV P b j = iV M b j) → ∀ x, x ∈ A → qR P (rN x).toNat = qR M (rN x).toNat := fun {P} g x hx => by
    have b := a.b h hm hx
    unfold qR
    rw [g _ _ (by omega) (by omega)]
  -- rooms needed
  obtain ⟨M2, e2, u2⟩ := roomsNeeded_ok (O := O) (f := f) h1 hm a1 l0 l1 l2 l3 (by omega)
  have fR1 : A.filter (fun x => qR M1 (rN x).toNat) = R := by
    rw [eR]
    exact List.filter_congr (fun x hx => qr (fun b j p q => iv1 b j (by omega)) x hx)
  have ens1 : ∀ x, x ∈ R → EnS M1 x = EnS M x := fun x hx => ens (fun b j p q r s t z => by
    by_cases g : b < 116
    · exact iv1 b j g
    · omega) x (by rw [eR] at hx; exact (List.mem_filter.mp hx).1)
  rw [fR1, most_of ens1] at e2
  have sR : srt R := by rw [eR]; exact a.fil
  have em : mxN (fun k => cnF (onB (EnS M) (rM (R.getD k 0))) R (k + 1)) R.length = mxN (fun k => cnF (pM M A k) A A.length) A.length := by
    have z := most_eq (p := fun x => qR M (rN x).toNat) (e := EnS M) (L := A) a.1 (by rw [← eR]; exact sR)
    rw [← eR] at z
    exact z
  have nm := none_most i1 sR (fun i hi => by
    have hx := getD_mem hi
    rw [eR] at hx
    have b := a.b h hm (List.mem_filter.mp hx).1
    have : EnS M (R.getD i 0) = rM (R.getD i 0) + iV M (29 + 6 * (rN (R.getD i 0)).toNat) 3 := rfl
    rw [← eR] at b
    omega)
  rw [em] at nm e2
  have w1 := b1.1
  have b2 : Bs M2 := b1.un u2 (by unfold P3; omega) (fun j hj => by unfold P3; omega)
  have w2 := b2.1
  have u12 : Un P8 M M2 := u1.tr (u2.le (fun b q => by unfold P8 at q; unfold P3; omega))
  -- the array of rooms
  have s12 : M2.1 = M.1 ∧ M2.2.1 = M.2.1 := ⟨u12.1.1, u12.1.2.1⟩
  obtain ⟨M3, e3, x3, ar3, z3, k3, s3⟩ := ar_new (x := (A.length : Int)) (M := M2) (by omega) (by omega) (by omega)
  rw [show ((A.length : Int)).toNat = A.length by omega] at ar3 s3
  have hMM := hw.1
  have kp3 : Kp P8 M M3 := u12.kp.tr x3.kp
  have b3 : Bs M3 := b2.kp (P := fun _ => True) x3.kp (by omega) trivial (fun _ _ => trivial)
  have iv3 : ∀ b j, b < 116 → iV M3 b j = iV M b j := fun b j hb => kp3.i (by omega) (by unfold P8; omega)
  have iv31 : ∀ b j, b ≠ 116 → b ≠ 117 → b ≠ 118 → b < 1044 → iV M3 b j = iV M1 b j := fun b j p q r s => by
    rw [x3.i (by omega), u2.i ⟨p, q, r⟩]
  have h3 : SR M3 m fd := h.kp hm kp3 b3 (fun a p q => by unfold P8; omega)
  have a3 : AL M3 m lo hi A := a.of h hm (fun b j p q => iv3 b j (by omega))
  have hrn : ∀ y, y ∈ A → rN y < 12 := fun y hy => by
    have := a.b h hm hy
    omega
  have hs3 : LTs n M3 := hs.kp kp3 (by omega)
  have hn5 := hs.2.1
  have hn1 := hs.1
  have hv3 : LTv n M3 A := hv.kp hs kp3 (fun a p q => by unfold P8; omega) (fun a p q => by unfold P8; omega) hrn
  have q3 : ∀ x, x ∈ A → qR M3 (rN x).toNat = qR M (rN x).toNat := qr (fun b j p q => iv3 b j (by omega))
  have ens3 : ∀ x, x ∈ A → EnS M3 x = EnS M x := fun x hx => by
    have b := a.b h hm hx
    unfold EnS
    rw [iv3 _ _ (by omega)]
  have i3 : LI (EnS M3) M3 R R.length := (i1.ofV (fun b j p q => iv31 b j (by omega) (by omega) (by omega) (by omega))).ofE (fun x hx => (ens3 x (by rw [eR] at hx; exact (List.mem_filter.mp hx).1)).symm)
  have c3 : iV M3 119 0 = R.length := by rw [iv31 _ _ (by omega) (by omega) (by omega) (by omega)]; exact c1
  have eR3 : R = A.filter (fun x => qR M3 (rN x).toNat) := by
    rw [eR]
    exact List.filter_congr (fun x hx => (q3 x hx).symm)
  obtain ⟨ro1, ro2, ro3, ro4, ro5, ro6⟩ := rho_all h3 hm a3 eR3 i3 c3
  have ne := none_eq (A := A) eR3 ro6
  generalize rho M3 R (qR M3) = ρ at ro1 ro2 ro3 ro4 ro5 ro6 ne
  have hRH : RH M3 m n R.length M2.1 fd lo hi A ρ := ⟨h3, a3, hs3, hv3, ro1, ro2, ⟨c3, by omega⟩, ro3, ro4, ro5, ar3, by omega, by omega⟩
  have cn : ctN (fun i => decide (iV M3 122 i = -1)) R.length = ctN (fun i => decide (iV M1 122 i = -1)) R.length := ctN_of _ (fun i hi => by rw [iv31 _ _ (by omega) (by omega) (by omega) (by omega)])
  have cle := ctN_le (p := fun i => decide (iV M1 122 i = -1)) R.length
  obtain ⟨M4, t4, e4, u4, r4⟩ := lr_303 (O := O) (f := f) (v4 := bc) (v5 := lo) (v6 := hi) (v9 := ((ctN (fun i => decide (iV M1 122 i = -1)) R.length : Nat) : Int)) hRH hm (by omega) l2 hl.1 (by omega) (by omega) (by omega) A.length f 0 M3 (by omega) (by omega) Un.rf (fun i hi => absurd hi (Nat.not_lt_zero _))
  have e0 : cnF (pN M3 ρ) A A.length = ctN (fun i => decide (iV M1 122 i = -1)) R.length := by
    rw [← cn, ← ne]
    rfl
  rw [e0, Int.sub_self] at e4
  have z0 : cnF (pN M3 ρ) A 0 = 0 := rfl
  rw [z0, show ((ctN (fun i => decide (iV M1 122 i = -1)) R.length : Nat) : Int) - ((0 : Nat) : Int) = ((ctN (fun i => decide (iV M1 122 i = -1)) R.length : Nat) : Int) by omega] at e4
  have rh4 := hRH.un hm u4
  have w4 := rh4.1.1.1
  -- the person
  obtain ⟨x5, M5, e5, x50, x51, w5, u5, i5⟩ := dn_ok (O := O) (f := f) (m := 3) w4 (by omega) (by omega)
  have u45 : Un (fun a => a ≠ M2.1 ∧ a ≠ 0) M3 M5 := (u4.le (fun a q => q.1)).tr (u5.le (fun a q => q.2))
  have b5 : Bs M5 := b3.un u45 (by (try dsimp only); omega) (fun j hj => by (try dsimp only); omega)
  have iv5 : ∀ b j, b < 1044 → iV M5 b j = iV M3 b j := fun b j hb => by rw [i5, u4.i (by (try dsimp only); omega)]
  obtain ⟨g1, g2, g3, g4, g5, g6, g7, g8, g9, g10, g11, g12, g13⟩ := rh4
  have rh5 : RH M5 m n R.length M2.1 fd lo hi A ρ := by
    have iv : ∀ b j, iV M5 b j = iV M4 b j := i5
    have qe : ∀ x, qR M5 (rN x).toNat = qR M4 (rN x).toNat := fun x => by
      unfold qR
      rw [iv]
    have ee : EnS M5 = EnS M4 := funext (fun x => by
      unfold EnS
      rw [iv])
    refine ⟨g1.un hm u5 b5 (fun a p q => by (try dsimp only); omega), g2.of g1 hm (fun b j p q => iv b j), g3.sm u5.1, g4.kp g3 u5.kp (fun a p q => by (try dsimp only); omega) (fun a p q => by (try dsimp only); omega) hrn, fun x hx => ?_, fun x hx g => ?_, ⟨by rw [iv]; exact g7.1, g7.2⟩, g8, fun x hx g => g9 x hx (by rw [← qe x]; exact g), fun i j p q r s => by rw [ee]; exact g10 i j p q r s, g11.un u5, g12, g13⟩
    · obtain ⟨y1, y2⟩ := g5 x hx
      unfold RO
      simp only [iv]
      exact ⟨y1, y2⟩
    · rw [qe] at g
      simp only [iv]
      exact g6 x hx g
  have r5 : ∀ i, i < A.length → iV M5 M2.1 i = ρ (A.getD i 0) := fun i hi => by
    rw [i5]
    exact r4 i hi
  obtain ⟨p, ep⟩ : ∃ p : Nat, x5 = (p : Int) := ⟨x5.toNat, by omega⟩
  subst ep
  have ab5 : Ar bc 4 M5 := ((ab.kp kp3 (by omega)).un u4).un u5
  have hab := ab.1
  have hbc5 : ∀ q : Nat, q < 4 → iV M5 bc q = iV M5 5 q ∧ 0 ≤ iV M5 5 q ∧ iV M5 5 q ≤ 9 := fun q hq => by
    have z := hbc q hq
    rw [iv5 5 q (by omega), iv3 5 q (by omega), i5, u4.i (show bc ≠ M2.1 by omega), kp3.i (a := bc) (by omega) (by unfold P8; omega)]
    exact z
  obtain ⟨t6, e6⟩ := lp_497 (O := O) (f := f) (v5 := lo) (v6 := hi) (p := p) rh5 hm (by omega) l2 hl.1 (by omega) r5 ab5 hbc5 (by omega) A.length f 0 (by omega) (by omega)
  obtain ⟨M6, e7, u7⟩ := clashes_ok (O := O) (f := f) (ρ := ρ) (p := p) (n := R.length) rh5.1 hm rh5.2.1 rfl (by omega) l0 l1 l2 l3 (fun q hq => (hbc5 q hq).2) ro3 rh5.2.2.2.2.1 (by omega) rh5.2.2.2.2.2.2.1.1 (by omega)
  refine ⟨M6, ?_, by rw [u7.1.1, u5.1.1, u4.1.1]; omega, by rw [u7.1.2.1, u5.1.2.1, u4.1.2.1]; omega⟩
  have last : f_Law_areLaid_497 O f (t6 + 1) 1 bc lo hi n M2.1 (p : Int) ((sumN (fun b => ctN (fun a => decide (a < b) && pP M5 p ρ (A.getD a 0) (A.getD b 0)) A.length) A.length : Nat) : Int) (A.length : Int) M5 = some (1, M6) := by
    show (gJ O M5 n 13 4).bind _ = _
    rw [rh5.2.2.1.gJ, rh5.2.2.2.1.1, le_T (by omega) (by omega) (by omega), a_Cal_is w5, e7, xcl_e]
    have pe := pairs_eq (c := clS M5 ρ) (P := fun x => tpB M5 p (rN x).toNat) (A := A)
    rw [← pe]
    exact eq_T rfl
  have s497 : f_Law_areLaid_497 O f f 1 bc lo hi n M2.1 (p : Int) 0 0 M5 = some (1, M6) := e6.trans last
  have s303 : f_Law_areLaid_303 O f (t4 + 1) 1 0 bc lo hi n 0 M2.1 (A.length : Int) M4 = some (1, M6) := by
    show (gJ O M4 n 13 4).bind _ = _
    rw [g3.gJ, g4.1, le_T (by omega) (by omega) (by omega), eq_T rfl, w4.is (k := 0) (ci := 15) (by decide) (by decide), e5, xcl_e]
    exact s497
  have s286 : ∀ v : Int, f_Law_areLaid_286 O f 1 0 bc lo hi n ((ctN (fun i => decide (iV M1 122 i = -1)) R.length : Nat) : Int) v v M2 = some (1, M6) := by
    intro v
    have lv2 : iV M2 n 4 = A.length := by
      rw [u12.i (by unfold P8; omega)]
      exact hv.1
    have ls2 : LTs n M2 := hs.sm u12.1
    unfold f_Law_areLaid_286
    rw [eq_T rfl, ls2.gJ, lv2, e3, xcl_e]
    exact e4.trans s303
  have bmx : mxN (fun k => cnF (pM M A k) A A.length) A.length ≤ 1000 := mxN_le (fun i hi => Nat.le_trans (cnF_n _) (by omega))
  show (gJ O M n 13 4).bind _ = _
  rw [hs.gJ, hv.1, le_T (by omega) (by omega) (by omega), a_Cal_is hw, e1, xcl_e, a_Cal_is w1, e2, xcl_e, eq_T rfl]
  unfold f_Law_areLaid_275
  by_cases g : ctN (fun i => decide (iV M1 122 i = -1)) R.length = 0
  · have g' := nm.mp g
    rw [eq_T (by omega), lt_F (by omega) (by omega) (by omega)]
    exact s286 1
  · have g' : ¬ mxN (fun k => cnF (pM M A k) A A.length) A.length ≤ 4 := fun z => g (nm.mpr z)
    rw [eq_F (by omega) (by omega) (by omega) (by omega) (by omega), lt_T (by omega) (by omega) (by omega)]
    exact s286 0
end LLD
end
/-! draft 595.arelaid -/
section
/-! ===== the law of rooms holds ===== -/
section LLE
variable {O : Nat → Option va_E} {f m : Nat} {M N : xM} {fd : Int}
/-- where the rooms are set -/
def QB (m bc : Nat) (fd : Int) (M : xM) : Prop := SR M m fd ∧ Ar bc 4 M ∧ (∀ q : Nat, q < 4 → 0 ≤ iV M bc q ∧ iV M bc q ≤ 9)
theorem ll_65 (hm : m ≤ 12) (f0 : 100 ≤ fd) (f1 : fd ≤ 500) (hf : 10000 ≤ f) : ∀ (r t k : Nat) (M : xM), QB m 1044 fd M → (∀ q : Nat, q < k → iV M 1044 q = iV M 5 q) → k + r = 4 → M.1 = 1045 → M.2.1 ≤ 40010 → r < t → ∃ M', f_Law_areLaid_65 O f t 1 0 fd (m : Int) 1044 (k : Int) M = some (1, M') ∧ M'.1 ≤ 2000 ∧ M'.2.1 ≤ 200000 := by
  intro r
  induction r with
  | zero =>
    intro t k M hQ he hk hM hM2 ht
    obtain ⟨t, rfl⟩ : ∃ n', t = n' + 1 := ⟨t - 1, by omega⟩
    obtain rfl : k = 4 := by omega
    obtain ⟨h, ab, hb⟩ := hQ
    have hw := h.1.1
    obtain ⟨x1, M1, e1, x10, x11, w1, u1, i1⟩ := dn_ok (O := O) (f := f) (m := 10080) hw (by omega) (by omega)
    have b1 : Bs M1 := h.1.un u1 (by (try dsimp only); omega) (fun j hj => by (try dsimp only); omega)
    have h1 : SR M1 m fd := h.un hm u1 b1 (fun a h1 h2 => by (try dsimp only); omega)
    obtain ⟨lo, elo⟩ : ∃ lo, lo = 1440 * fd := ⟨_, rfl⟩
    obtain ⟨hi, ehi⟩ : ∃ hi, hi = lo + 1 + x1 := ⟨_, rfl⟩
    have s1 : M1.1 = M.1 ∧ M1.2.1 = M.2.1 := ⟨u1.1.1, u1.1.2.1⟩
    obtain ⟨N1, M2, A, e2, e3, x2, k2, s2, ls, lv, hA⟩ := ldates_ok (O := O) (f := f) (m := m) (lo := lo) (hi := hi) h1.hs (by omega) hm (fun j hj => (h1.2.2.1 j hj).1.1) (by omega) (by omega) (by omega) (by omega) (fun k hk d hd hbg p q => by
      have := hcov_ok h1 hm hk hd hbg
      omega) hf
    have kp2 : Kp (fun _ => True) M1 M2 := x2.kp
    have b2 : Bs M2 := b1.kp kp2 (by omega) trivial (fun _ _ => trivial)
    have h2 : SR M2 m fd := h1.kp hm kp2 b2 (fun _ _ _ => trivial)
    have sA : srt A := lv.2.1
    have a1 : AL M1 m lo hi A := ⟨sA, hA⟩
    have a2 : AL M2 m lo hi A := a1.of h1 hm (fun b j p q => kp2.i (by omega) trivial)
    have ab1 : Ar 1044 4 M1 := ab.un u1
    have ab2 : Ar 1044 4 M2 := ab1.kp kp2 (by omega)
    have bc2 : ∀ q : Nat, q < 4 → iV M2 1044 q = iV M2 5 q ∧ 0 ≤ iV M2 5 q ∧ iV M2 5 q ≤ 9 := fun q hq => by
      have z := hb q hq
      have z2 := he q hq
      rw [kp2.i (a := 1044) (by omega) trivial, kp2.i (a := 5) (by omega) trivial, i1, i1]
      omega
    have hl := (len_fil (q := fun _ => true) h2 hm a2 (by omega) (by omega)).1
    obtain ⟨t', e5⟩ := lm_131 (O := O) (f := f) (v4 := 1044) (v5 := lo) (v6 := hi) h2 hm a2 (by omega) (by omega) hl ls lv (by omega) A.length f 0 (by omega) (by omega)
    obtain ⟨M', e6, z⟩ := ll_131 (O := O) (f := f) (t := t') (bc := 1044) h2 hm a2 (by omega) (by omega) (by omega) (by omega) ls lv ab2 (by omega) bc2 (by omega) (by omega) hf
    refine ⟨M', ?_, z⟩
    show (if yw 4 ≤ yw ((4 : Nat) : Int) then _ else _) = _
    rw [le_T (by omega) (by omega) (by omega), hw.is (k := 0) (ci := 15) (by decide) (by decide), e1, xcl_e, ← elo, ← ehi, e2, xcl_e, e3, xcl_e]
    exact e5.trans e6
  | succ r ih =>
    intro t k M hQ he hk hM hM2 ht
    obtain ⟨t, rfl⟩ : ∃ n', t = n' + 1 := ⟨t - 1, by omega⟩
    obtain ⟨h, ab, hb⟩ := hQ
    have hw := h.1.1
    have kz : ((k : Int)).toNat = k := by omega
    have b := hb k (by omega)
    obtain ⟨M1, y, e1, b1, u1, o1, v1⟩ := setRoom_ok (O := O) (f := f) (q := (k : Int)) (b := iV M 1044 k) h.1 (by omega) (by omega) b.1 b.2 (by omega)
    rw [kz] at o1 v1
    have h1 : SR M1 m fd := h.un hm u1 b1 (fun a h1 h2 => by (try dsimp only); omega)
    have i1 : ∀ q, iV M1 1044 q = iV M 1044 q := fun q => u1.i (by (try dsimp only); omega)
    obtain ⟨M', e', z⟩ := ih t (k + 1) M1 ⟨h1, ab.un u1, fun q hq => by rw [i1]; exact hb q hq⟩ (fun q hq => by
      rw [i1]
      by_cases z : q = k
      · rw [z, v1]
      · rw [o1 q z]
        exact he q (by omega)) (by omega) (by rw [u1.1.1]; exact hM) (by rw [u1.1.2.1]; exact hM2) (by omega)
    rw [show ((k + 1 : Nat) : Int) = (k : Int) + 1 by omega] at e'
    refine ⟨M', ?_, z⟩
    show (if yw 4 ≤ yw (k : Int) then _ else _) = _
    rw [le_F (by omega) (by omega) (by omega), ab.aJ (by omega) (by omega), kz, a_Cal_is hw, e1, xcl_e]
    exact e'
theorem areLaid_ok (h : St0 M) (hf : 10000 ≤ f) : ∃ M', f_Law_areLaid O f 1 0 M = some (1, M') ∧ M'.1 ≤ 2000 ∧ M'.2.1 ≤ 200000 := by
  have hsr0 : ∀ fd : Int, SR M 0 fd := fun fd => h.sr
  obtain ⟨hw, hM, hM2, -⟩ := h
  obtain ⟨x1, M1, e1, x10, x11, w1, u1, i1⟩ := dn_ok (O := O) (f := f) (m := 400) hw (by omega) (by omega)
  obtain ⟨x2, M2, e2, x20, x21, w2, u2, i2⟩ := dn_ok (O := O) (f := f) (m := 12) w1 (by omega) (by omega)
  have u12 := u1.tr u2
  have b2 : Bs M2 := (hsr0 (100 + x1)).1.un u12 (by (try dsimp only); omega) (fun j hj => by (try dsimp only); omega)
  have R2 : SR M2 0 (100 + x1) := (hsr0 (100 + x1)).un (by omega) u12 b2 (fun a h1 h2 => by (try dsimp only); omega)
  obtain ⟨m, em⟩ : ∃ m : Nat, (m : Int) = 1 + x2 := ⟨(1 + x2).toNat, by omega⟩
  have hm : m ≤ 12 := by omega
  obtain ⟨M3, e3, R3, u3⟩ := series_ok (O := O) (f := f) (m := m) (people := 3) R2 (by omega) (by omega) (by omega) (by omega) hm (by omega)
  have c3 : M3.1 = 1044 := by rw [u3.1.1, u12.1.1]; exact hM
  have s3 : M3.2.1 = M.2.1 := by rw [u3.1.2.1, u12.1.2.1]
  obtain ⟨M4, e4, x4, a4, z4, k4, s4⟩ := ar_new (x := 4) (M := M3) (by omega) (by omega) (by omega)
  rw [c3] at e4 a4 z4
  have a4 : Ar 1044 4 M4 := a4
  have s4 : M4.2.1 = M3.2.1 + 4 := s4
  have kp4 : Kp (fun _ => True) M3 M4 := x4.kp
  have b4 : Bs M4 := R3.1.kp kp4 (by omega) trivial (fun _ _ => trivial)
  have w4 := b4.1
  obtain ⟨x5, M5, e5, x50, x51, w5, u5, i5⟩ := dn_ok (O := O) (f := f) (m := 10) w4 (by omega) (by omega)
  obtain ⟨M6, e6⟩ : ∃ M6, M6 = iS M5 1044 0 x5 := ⟨_, rfl⟩
  have u6 : Un (fun a => a ≠ 0 ∧ a ≠ 1044) M4 M6 := by rw [e6]; exact (u5.le (fun a q => q.1)).iS (fun q => q.2 rfl)
  have w6 := u6.wd w4
  obtain ⟨x7, M7, e7, x70, x71, w7, u7, i7⟩ := dn_ok (O := O) (f := f) (m := 10) w6 (by omega) (by omega)
  obtain ⟨M8, e8⟩ : ∃ M8, M8 = iS M7 1044 1 x7 := ⟨_, rfl⟩
  have u8 : Un (fun a => a ≠ 0 ∧ a ≠ 1044) M4 M8 := by rw [e8]; exact (u6.tr (u7.le (fun a q => q.1))).iS (fun q => q.2 rfl)
  have w8 := u8.wd w4
  obtain ⟨x9, M9, e9, x90, x91, w9, u9, i9⟩ := dn_ok (O := O) (f := f) (m := 3) w8 (by omega) (by omega)
  obtain ⟨M10, e10⟩ : ∃ M10, M10 = iS M9 1044 2 x9 := ⟨_, rfl⟩
  have u10 : Un (fun a => a ≠ 0 ∧ a ≠ 1044) M4 M10 := by rw [e10]; exact (u8.tr (u9.le (fun a q => q.1))).iS (fun q => q.2 rfl)
  obtain ⟨M11, e11⟩ : ∃ M11, M11 = iS M10 1044 3 3 := ⟨_, rfl⟩
  have u11 : Un (fun a => a ≠ 0 ∧ a ≠ 1044) M4 M11 := by rw [e11]; exact u10.iS (fun q => q.2 rfl)
  have b11 : Bs M11 := b4.un u11 (by (try dsimp only); omega) (fun j hj => by (try dsimp only); omega)
  have R4 : SR M4 m (100 + x1) := R3.kp hm kp4 b4 (fun _ _ _ => trivial)
  have R11 : SR M11 m (100 + x1) := R4.un hm u11 b11 (fun a h1 h2 => by (try dsimp only); omega)
  have v0 : ∀ q : Nat, q < 4 → 0 ≤ iV M11 1044 q ∧ iV M11 1044 q ≤ 9 := fun q hq => by
    rw [e11]
    by_cases q3 : q = 3
    · rw [q3, iV_s (by omega) (by omega)]
      omega
    · rw [iV_o (Or.inr q3), e10]
      by_cases q2 : q = 2
      · rw [q2, iV_s (by omega) (by omega)]
        omega
      · rw [iV_o (Or.inr q2), i9, e8]
        by_cases q1 : q = 1
        · rw [q1, iV_s (by omega) (by omega)]
          omega
        · rw [iV_o (Or.inr q1), i7, e6]
          obtain rfl : q = 0 := by omega
          rw [iV_s (by omega) (by omega)]
          omega
  obtain ⟨M', e', z⟩ := ll_65 (O := O) (f := f) (m := m) (fd := 100 + x1) hm (by omega) (by omega) hf 4 f 0 M11 ⟨R11, a4.un u11, v0⟩ (fun q hq => absurd hq (Nat.not_lt_zero _)) (by omega) (by rw [u11.1.1, k4, c3]) (by rw [u11.1.2.1, s4, s3]; omega) (by omega)
  refine ⟨M', ?_, z⟩
  have j5 : ∀ {A : xM → Option (Int × xM)}, (wJ M5 1044 0 x5).bind A = A M6 := fun {A} => by
    rw [e6]
    exact (a4.un u5).wJ (ix := 0) (by omega) (by omega)
  have j7 : ∀ {A : xM → Option (Int × xM)}, (wJ M7 1044 1 x7).bind A = A M8 := fun {A} => by
    rw [e8]
    exact ((a4.un u6).un u7).wJ (ix := 1) (by omega) (by omega)
  have j9 : ∀ {A : xM → Option (Int × xM)}, (wJ M9 1044 2 x9).bind A = A M10 := fun {A} => by
    rw [e10]
    exact ((a4.un u8).un u9).wJ (ix := 2) (by omega) (by omega)
  have j10 : ∀ {A : xM → Option (Int × xM)}, (wJ M10 1044 3 3).bind A = A M11 := fun {A} => by
    rw [e11]
    exact (a4.un u10).wJ (ix := 3) (by omega) (by omega)
  unfold f_Law_areLaid
  rw [hw.is (k := 0) (ci := 15) (by decide) (by decide), e1, xcl_e, w1.is (k := 0) (ci := 15) (by decide) (by decide), e2, xcl_e, ← em, e3, xcl_e, e4, xcl_e, w4.is (k := 0) (ci := 15) (by decide) (by decide), e5, xcl_e, j5, w6.is (k := 0) (ci := 15) (by decide) (by decide), e7, xcl_e, j7, w8.is (k := 0) (ci := 15) (by decide) (by decide), e9, xcl_e, j9, j10]
  exact e'
end LLE
end
/-! draft 600.planspec -/
section
/-! ===== plans: what is the least ===== -/
def mvs : List Int := [0, -30, 30, -60, 60, -90, 90, -120, 120]
def ups (g : Nat → Int) (k : Nat) (x : Int) (i : Nat) : Int := if i = k then x else g i
/-- a date is hindered by one ahead of it -/
def hin (ln : Nat → Int) (tk : Nat → Nat → Prop) (g : Nat → Int) (k : Nat) : Prop := ∃ j, j < k ∧ g j < g k + ln k ∧ g k < g j + ln j ∧ tk j k
/-- a completion of a prefix, and its cost -/
def CPl (b ln : Nat → Int) (tk : Nat → Nat → Prop) (lo hi : Int) : Nat → Nat → (Nat → Int) → Int → Prop
  | 0, _, _, c => c = 0
  | r + 1, k, g, c => ∃ y, y ∈ mvs ∧ lo ≤ b k + y ∧ b k + y < hi ∧ ¬ hin ln tk (ups g k (b k + y)) k ∧ ∃ c', CPl b ln tk lo hi r (k + 1) (ups g k (b k + y)) c' ∧ c = c' + (y.natAbs : Int)
def lst (P : Int → Prop) (v : Int) : Prop := (v = -1 ∧ ∀ c, ¬ P c) ∨ (P v ∧ ∀ c, P c → v ≤ c)
theorem mvs_b {y : Int} (h : y ∈ mvs) : -120 ≤ y ∧ y ≤ 120 := by
  have : ∀ y, y ∈ mvs → -120 ≤ y ∧ y ≤ 120 := by decide
  exact this y h
theorem mvs_iff {y : Int} : y ∈ mvs ↔ -120 ≤ y ∧ y ≤ 120 ∧ y % 30 = 0 := by
  constructor
  · intro h
    have : ∀ y, y ∈ mvs → -120 ≤ y ∧ y ≤ 120 ∧ y % 30 = 0 := by decide
    exact this y h
  · rintro ⟨h1, h2, h3⟩
    have c : y = -120 ∨ y = -90 ∨ y = -60 ∨ y = -30 ∨ y = 0 ∨ y = 30 ∨ y = 60 ∨ y = 90 ∨ y = 120 := by omega
    rcases c with rfl | rfl | rfl | rfl | rfl | rfl | rfl | rfl | rfl <;> decide
theorem lst_uniq {P : Int → Prop} {v w : Int} (p0 : ∀ c, P c → 0 ≤ c) (h : lst P v) (g : lst P w) : v = w := by
  rcases h with ⟨h1, h2⟩ | ⟨h1, h2⟩ <;> rcases g with ⟨g1, g2⟩ | ⟨g1, g2⟩
  · omega
  · exact (h2 w g1).elim
  · exact (g2 v h1).elim
  · have := h2 w g1
    have := g2 v h1
    omega
section PLN
variable {b ln : Nat → Int} {tk : Nat → Nat → Prop} {lo hi : Int}
theorem CPl.pos : ∀ (r k : Nat) (g : Nat → Int) (c : Int), CPl b ln tk lo hi r k g c → 0 ≤ c ∧ c ≤ 120 * r
  | 0, _, _, c, h => by
    have : c = 0 := h
    omega
  | r + 1, k, g, c, h => by
    obtain ⟨y, y1, -, -, -, c', q, e⟩ := h
    have := CPl.pos r (k + 1) _ c' q
    have := mvs_b y1
    omega
/-- only the prefix counts -/
theorem CPl.ext : ∀ (r k : Nat) (g g' : Nat → Int) (c : Int), (∀ i, i < k → g i = g' i) → CPl b ln tk lo hi r k g c → CPl b ln tk lo hi r k g' c
  | 0, _, _, _, _, _, h => h
  | r + 1, k, g, g', c, e, h => by
    obtain ⟨y, y1, y2, y3, y4, c', q, ec⟩ := h
    have eu : ∀ i, i < k + 1 → ups g k (b k + y) i = ups g' k (b k + y) i := fun i hi => by
      unfold ups
      by_cases z : i = k
      · rw [if_pos z, if_pos z]
      · rw [if_neg z, if_neg z]
        exact e i (by omega)
    refine ⟨y, y1, y2, y3, fun w => y4 ?_, c', CPl.ext r (k + 1) _ _ c' eu q, ec⟩
    obtain ⟨j, j1, j2, j3, j4⟩ := w
    rw [← eu j (by omega), ← eu k (by omega)] at j2
    rw [← eu j (by omega), ← eu k (by omega)] at j3
    exact ⟨j, j1, j2, j3, j4⟩
/-- the best of the moves seen -/
def seen (b ln : Nat → Int) (tk : Nat → Nat → Prop) (lo hi : Int) (r k : Nat) (g : Nat → Int) (Q : Int → Prop) (c : Int) : Prop := ∃ y, y ∈ mvs ∧ Q y ∧ lo ≤ b k + y ∧ b k + y < hi ∧ ¬ hin ln tk (ups g k (b k + y)) k ∧ ∃ c', CPl b ln tk lo hi r (k + 1) (ups g k (b k + y)) c' ∧ c = c' + (y.natAbs : Int)
theorem seen_all {r k : Nat} {g : Nat → Int} {c : Int} : seen b ln tk lo hi r k g (fun _ => True) c ↔ CPl b ln tk lo hi (r + 1) k g c := ⟨fun ⟨y, a, _, d⟩ => ⟨y, a, d⟩, fun ⟨y, a, d⟩ => ⟨y, a, trivial, d⟩⟩
/-- one move more that cannot be made -/
theorem lst_no {r k : Nat} {g : Nat → Int} {Q Q' : Int → Prop} {v y : Int} (h : lst (seen b ln tk lo hi r k g Q) v) (hq : ∀ z, z ∈ mvs → (Q' z ↔ Q z ∨ z = y)) (hn : ¬ (lo ≤ b k + y ∧ b k + y < hi ∧ ¬ hin ln tk (ups g k (b k + y)) k ∧ ∃ c', CPl b ln tk lo hi r (k + 1) (ups g k (b k + y)) c')) : lst (seen b ln tk lo hi r k g Q') v := by
  have e : ∀ c, seen b ln tk lo hi r k g Q' c ↔ seen b ln tk lo hi r k g Q c := by
    intro c
    constructor
    · rintro ⟨z, z1, z2, z3, z4, z5, c', z6, z7⟩
      rcases (hq z z1).mp z2 with w | w
      · exact ⟨z, z1, w, z3, z4, z5, c', z6, z7⟩
      · subst w
        exact (hn ⟨z3, z4, z5, c', z6⟩).elim
    · rintro ⟨z, z1, z2, z3⟩
      exact ⟨z, z1, (hq z z1).mpr (Or.inl z2), z3⟩
  rcases h with ⟨h1, h2⟩ | ⟨h1, h2⟩
  · exact Or.inl ⟨h1, fun c q => h2 c ((e c).mp q)⟩
  · exact Or.inr ⟨(e v).mpr h1, fun c q => h2 c ((e c).mp q)⟩
/-- one move more that can be made -/
theorem lst_yes {r k : Nat} {g : Nat → Int} {Q Q' : Int → Prop} {v w y : Int} (h : lst (seen b ln tk lo hi r k g Q) v) (hy : y ∈ mvs) (hq : ∀ z, z ∈ mvs → (Q' z ↔ Q z ∨ z = y)) (y1 : lo ≤ b k + y) (y2 : b k + y < hi) (y3 : ¬ hin ln tk (ups g k (b k + y)) k) (hw : CPl b ln tk lo hi r (k + 1) (ups g k (b k + y)) w) (hl : ∀ c, CPl b ln tk lo hi r (k + 1) (ups g k (b k + y)) c → w ≤ c) : lst (seen b ln tk lo hi r k g Q') (if v = -1 ∨ w + (y.natAbs : Int) < v then w + (y.natAbs : Int) else v) := by
  have new : seen b ln tk lo hi r k g Q' (w + (y.natAbs : Int)) := ⟨y, hy, (hq y hy).mpr (Or.inr rfl), y1, y2, y3, w, hw, rfl⟩
  have old : ∀ c, seen b ln tk lo hi r k g Q c → seen b ln tk lo hi r k g Q' c := fun c ⟨z, z1, z2, z3⟩ => ⟨z, z1, (hq z z1).mpr (Or.inl z2), z3⟩
  have spl : ∀ c, seen b ln tk lo hi r k g Q' c → seen b ln tk lo hi r k g Q c ∨ w + (y.natAbs : Int) ≤ c := by
    rintro c ⟨z, z1, z2, z3, z4, z5, c', z6, z7⟩
    rcases (hq z z1).mp z2 with u | u
    · exact Or.inl ⟨z, z1, u, z3, z4, z5, c', z6, z7⟩
    · subst u
      have := hl c' z6
      exact Or.inr (by omega)
  have wp := (CPl.pos r (k + 1) _ w hw).1
  rcases h with ⟨h1, h2⟩ | ⟨h1, h2⟩
  · rw [if_pos (Or.inl h1)]
    refine Or.inr ⟨new, fun c q => ?_⟩
    rcases spl c q with u | u
    · exact (h2 c u).elim
    · exact u
  · have vp : 0 ≤ v := by
      obtain ⟨z, z1, -, -, -, -, c', z6, z7⟩ := h1
      have := (CPl.pos r (k + 1) _ c' z6).1
      omega
    by_cases g1 : w + (y.natAbs : Int) < v
    · rw [if_pos (Or.inr g1)]
      refine Or.inr ⟨new, fun c q => ?_⟩
      rcases spl c q with u | u
      · have := h2 c u
        omega
      · exact u
    · rw [if_neg (by omega)]
      refine Or.inr ⟨old v h1, fun c q => ?_⟩
      rcases spl c q with u | u
      · exact h2 c u
      · omega
end PLN
end
/-! draft 601.lawleast -/
section
/-! ===== the law's least: what hinders ===== -/
/-- somebody takes part in both -/
def shr (M : xM) (A : List Int) (j k : Nat) : Prop := ∃ p, p < 3 ∧ tp M (rN (A.getD j 0)).toNat p ∧ tp M (rN (A.getD k 0)).toNat p
/-- what stays while the least is sought -/
def LQ (M : xM) (m n rc : Nat) (fd lo hi : Int) (A : List Int) : Prop := SR M m fd ∧ AL M m lo hi A ∧ LTs n M ∧ LTv n M A ∧ Ar rc A.length M ∧ A.length ≤ 132 ∧ 1044 ≤ rc ∧ (rc < n ∨ n + 5 ≤ rc)
section LLS
variable {O : Nat → Option va_E} {f m n rc : Nat} {M N : xM} {A : List Int} {lo hi fd : Int}
theorem lw_117 {K : Nat → Nat → Nat → Int → Int → Int → Int → Int → Int → Int → xM → Option (Int × xM)} {v4 v5 v6 v7 : Int} {j k : Nat} (h : LQ M m n rc fd lo hi A) (hm : m ≤ 12) (hj : j < A.length) (hk : k < A.length) : ∀ (r t p : Nat) (c : Int), p + r = 3 → r < t → (c = 0 ∨ c = 1) → ∃ c', f_Law_least_117 O f K t 1 n rc (k : Int) v4 v5 v6 v7 c (j : Int) 1 (p : Int) M = K 1 n rc (k : Int) v4 v5 v6 v7 c' ((j : Int) + 1) M ∧ (c' = 0 ∨ c' = 1) ∧ (c' = 1 ↔ c = 1 ∧ ∀ q, p ≤ q → q < 3 → ¬ (tp M (rN (A.getD j 0)).toNat q ∧ tp M (rN (A.getD k 0)).toNat q)) := by
  obtain ⟨h1, h2, h3, h4, h5, h6, h7, h8⟩ := h
  have jz : ((j : Int)).toNat = j := by omega
  have kz : ((k : Int)).toNat = k := by omega
  have bj := h2.b h1 hm (getD_mem hj)
  have bk := h2.b h1 hm (getD_mem hk)
  have gj := h4.2.2 j hj
  have gk := h4.2.2 k hk
  intro r
  induction r with
  | zero =>
    intro t p c hp ht hc
    obtain ⟨t, rfl⟩ : ∃ n', t = n' + 1 := ⟨t - 1, by omega⟩
    obtain rfl : p = 3 := by omega
    refine ⟨c, ?_, hc, ⟨fun z => ⟨z, fun q q1 q2 => by omega⟩, fun z => z.1⟩⟩
    show (if yw 3 ≤ yw ((3 : Nat) : Int) then _ else _) = _
    rw [le_T (by omega) (by omega) (by omega)]
  | succ r ih =>
    intro t p c hp ht hc
    obtain ⟨t, rfl⟩ : ∃ n', t = n' + 1 := ⟨t - 1, by omega⟩
    have step : ∀ s : Int, (s = 0 ∨ s = 1) → (s = 1 ↔ c = 1 ∧ ¬ (tp M (rN (A.getD j 0)).toNat p ∧ tp M (rN (A.getD k 0)).toNat p)) → ∃ c', f_Law_least_169 O f (f_Law_least_117 O f K t) 1 n rc (k : Int) v4 v5 v6 v7 (j : Int) 1 (p : Int) s M = K 1 n rc (k : Int) v4 v5 v6 v7 c' ((j : Int) + 1) M ∧ (c' = 0 ∨ c' = 1) ∧ (c' = 1 ↔ c = 1 ∧ ∀ q, p ≤ q → q < 3 → ¬ (tp M (rN (A.getD j 0)).toNat q ∧ tp M (rN (A.getD k 0)).toNat q)) := by
      intro s hs he
      obtain ⟨c', e', z1, z2⟩ := ih t (p + 1) s (by omega) (by omega) hs
      rw [show ((p + 1 : Nat) : Int) = (p : Int) + 1 by omega] at e'
      refine ⟨c', e', z1, z2.trans ⟨fun z => ⟨(he.mp z.1).1, fun q q1 q2 => ?_⟩, fun z => ⟨he.mpr ⟨z.1, z.2 p (by omega) (by omega)⟩, fun q q1 q2 => z.2 q (by omega) q2⟩⟩⟩
      by_cases g : q = p
      · rw [g]
        exact (he.mp z.1).2
      · exact z.2 q (by omega) q2
    obtain ⟨y1, e1, o1⟩ := takesPart_ok (O := O) (f := f) (kk := rN (A.getD j 0)) (pp := (p : Int)) (k := (rN (A.getD j 0)).toNat) (p := p) h1 hm (by omega) bj.2.1 rfl (by omega)
    obtain ⟨y2, e2, o2⟩ := takesPart_ok (O := O) (f := f) (kk := rN (A.getD k 0)) (pp := (p : Int)) (k := (rN (A.getD k 0)).toNat) (p := p) h1 hm (by omega) bk.2.1 rfl (by omega)
    show ∃ c', (if yw 3 ≤ yw (p : Int) then _ else _) = _ ∧ _
    rw [le_F (by omega) (by omega) (by omega), eq_F (by omega) (by omega) (by omega) (by omega) (by omega)]
    unfold f_Law_least_168 f_Law_least_164
    rcases hc with rfl | rfl
    · rw [eq_T rfl]
      exact step 0 (Or.inl rfl) ⟨fun z => by omega, fun z => by have := z.1; omega⟩
    · rw [eq_F (by omega) (by omega) (by omega) (by omega) (by omega), h3.gR (j := 0) (by decide), h3.aJ (j := 0) (by decide) (by omega) (by omega), jz, show n + 1 + 0 = n + 1 by omega, gj.1, e1, xcl_e]
      rcases o1 with ⟨rfl, o1⟩ | ⟨rfl, o1⟩
      · rw [eq_F (by omega) (by omega) (by omega) (by omega) (by omega), h3.gR (j := 0) (by decide), h3.aJ (j := 0) (by decide) (by omega) (by omega), kz, show n + 1 + 0 = n + 1 by omega, gk.1, e2, xcl_e]
        rcases o2 with ⟨rfl, o2⟩ | ⟨rfl, o2⟩
        · rw [eq_F (by omega) (by omega) (by omega) (by omega) (by omega)]
          exact step 0 (Or.inl rfl) ⟨fun z => by omega, fun z => (z.2 ⟨o1, o2⟩).elim⟩
        · rw [eq_T rfl]
          exact step 1 (Or.inr rfl) ⟨fun _ => ⟨rfl, fun z => o2 z.2⟩, fun _ => rfl⟩
      · rw [eq_T rfl]
        exact step 1 (Or.inr rfl) ⟨fun _ => ⟨rfl, fun z => o1 z.1⟩, fun _ => rfl⟩
end LLS
end
/-! draft 602.lawhin -/
section
/-! ===== the law's least: dates ahead ===== -/
def lnA (M : xM) (A : List Int) (i : Nat) : Int := iV M (29 + 6 * (rN (A.getD i 0)).toNat) 3
section LLH
variable {O : Nat → Option va_E} {f m n rc : Nat} {M N : xM} {A : List Int} {lo hi fd : Int}
theorem lw_61 {K : Nat → Nat → Nat → Int → Int → Int → Int → Int → xM → Option (Int × xM)} {KS : Nat → Nat → Nat → Int → Int → Int → xM → Option (Int × xM)} {v4 v5 v6 v7 : Int} {k : Nat} (h : LQ M m n rc fd lo hi A) (hm : m ≤ 12) (hk : k < A.length) (hg : ∀ i, i ≤ k → 0 ≤ iV M rc i ∧ iV M rc i ≤ 1000000000) (hf : 10 ≤ f) : ∀ (r t j : Nat) (c : Int), j + r = k → r < t → (c = 0 ∨ c = 1) → ∃ c', f_Law_least_61 O f K KS t 1 n rc (k : Int) v4 v5 v6 v7 c (j : Int) M = f_Law_least_183 O f K KS 1 n rc (k : Int) v4 v5 v6 v7 c' M ∧ (c' = 0 ∨ c' = 1) ∧ (c' = 1 ↔ c = 1 ∧ ∀ i, j ≤ i → i < k → ¬ (iV M rc i < iV M rc k + lnA M A k ∧ iV M rc k < iV M rc i + lnA M A i ∧ shr M A i k)) := by
  have hh := h
  obtain ⟨h1, h2, h3, h4, h5, h6, h7, h8⟩ := h
  have kz : ((k : Int)).toNat = k := by omega
  have gk := h4.2.2 k hk
  have bk := h2.b h1 hm (getD_mem hk)
  intro r
  induction r with
  | zero =>
    intro t j c hj ht hc
    obtain ⟨t, rfl⟩ : ∃ n', t = n' + 1 := ⟨t - 1, by omega⟩
    obtain rfl : j = k := by omega
    refine ⟨c, ?_, hc, ⟨fun z => ⟨z, fun i i1 i2 => by omega⟩, fun z => z.1⟩⟩
    show (if yw (j : Int) ≤ yw (j : Int) then _ else _) = _
    rw [le_T (by omega) (by omega) (by omega)]
  | succ r ih =>
    intro t j c hj ht hc
    obtain ⟨t, rfl⟩ : ∃ n', t = n' + 1 := ⟨t - 1, by omega⟩
    have jz : ((j : Int)).toNat = j := by omega
    have gj := h4.2.2 j (by omega)
    have bj := h2.b h1 hm (getD_mem (L := A) (i := j) (by omega))
    have vj := hg j (by omega)
    have vk := hg k (by omega)
    have lj : iV M (n + 4) j = lnA M A j := gj.2.2.2
    have lk : iV M (n + 4) k = lnA M A k := gk.2.2.2
    have ljb : 1 ≤ lnA M A j ∧ lnA M A j ≤ 600 := ⟨bj.2.2.2.2.1, bj.2.2.2.2.2.1⟩
    have lkb : 1 ≤ lnA M A k ∧ lnA M A k ≤ 600 := ⟨bk.2.2.2.2.1, bk.2.2.2.2.2.1⟩
    have nxt : ∀ s : Int, (s = 0 ∨ s = 1) → (s = 1 ↔ c = 1 ∧ ¬ (iV M rc j < iV M rc k + lnA M A k ∧ iV M rc k < iV M rc j + lnA M A j ∧ shr M A j k)) → ∃ c', f_Law_least_61 O f K KS t 1 n rc (k : Int) v4 v5 v6 v7 s ((j : Int) + 1) M = f_Law_least_183 O f K KS 1 n rc (k : Int) v4 v5 v6 v7 c' M ∧ (c' = 0 ∨ c' = 1) ∧ (c' = 1 ↔ c = 1 ∧ ∀ i, j ≤ i → i < k → ¬ (iV M rc i < iV M rc k + lnA M A k ∧ iV M rc k < iV M rc i + lnA M A i ∧ shr M A i k)) := by
      intro s hs he
      obtain ⟨c', e', z1, z2⟩ := ih t (j + 1) s (by omega) (by omega) hs
      rw [show ((j + 1 : Nat) : Int) = (j : Int) + 1 by omega] at e'
      refine ⟨c', e', z1, z2.trans ⟨fun z => ⟨(he.mp z.1).1, fun i i1 i2 => ?_⟩, fun z => ⟨he.mpr ⟨z.1, z.2 j (by omega) (by omega)⟩, fun i i1 i2 => z.2 i (by omega) i2⟩⟩⟩
      by_cases g : i = j
      · rw [g]
        exact (he.mp z.1).2
      · exact z.2 i (by omega) i2
    have off : ∀ s : Int, (s = 0 ∨ s = 1) → f_Law_least_111 O f (f_Law_least_61 O f K KS t) 1 n rc (k : Int) v4 v5 v6 v7 s (j : Int) M = f_Law_least_61 O f K KS t 1 n rc (k : Int) v4 v5 v6 v7 s ((j : Int) + 1) M := by
      intro s _
      obtain ⟨f', ef⟩ : ∃ f', f = f' + 1 := ⟨f - 1, by omega⟩
      unfold f_Law_least_111 f_Law_least_112
      rw [show f_Law_least_117 O f (f_Law_least_61 O f K KS t) f 1 n rc (k : Int) v4 v5 v6 v7 s (j : Int) 0 0 M = f_Law_least_117 O f (f_Law_least_61 O f K KS t) (f' + 1) 1 n rc (k : Int) v4 v5 v6 v7 s (j : Int) 0 0 M by rw [← ef]]
      show (if yw 3 ≤ yw 0 then _ else _) = _
      rw [le_F (by omega) (by omega) (by omega), eq_T rfl]
    show ∃ c', (if yw (k : Int) ≤ yw (j : Int) then _ else _) = _ ∧ _
    rw [le_F (by omega) (by omega) (by omega)]
    rcases hc with rfl | rfl
    · refine ⟨0, ?_, Or.inl rfl, ⟨fun z => by omega, fun z => by have := z.1; omega⟩⟩
      rw [eq_T rfl]
    · rw [eq_F (by omega) (by omega) (by omega) (by omega) (by omega), h5.aJ (by omega) (by omega), h5.aJ (by omega) (by omega), h3.gR (j := 3) (by decide), h3.aJ (j := 3) (by decide) (by omega) (by omega), jz, kz, show n + 1 + 3 = n + 4 by omega, lj]
      by_cases g1 : iV M rc j + lnA M A j ≤ iV M rc k
      · rw [le_T g1 (by omega) (by omega), off 1 (Or.inr rfl)]
        exact nxt 1 (Or.inr rfl) ⟨fun _ => ⟨rfl, fun z => by omega⟩, fun _ => rfl⟩
      · rw [le_F (by omega) (by omega) (by omega), h5.aJ (by omega) (by omega), h5.aJ (by omega) (by omega), h3.gR (j := 3) (by decide), h3.aJ (j := 3) (by decide) (by omega) (by omega), jz, kz, show n + 1 + 3 = n + 4 by omega, lk]
        by_cases g2 : iV M rc k + lnA M A k ≤ iV M rc j
        · rw [le_T g2 (by omega) (by omega), off 1 (Or.inr rfl)]
          exact nxt 1 (Or.inr rfl) ⟨fun _ => ⟨rfl, fun z => by omega⟩, fun _ => rfl⟩
        · rw [le_F (by omega) (by omega) (by omega)]
          obtain ⟨s, es, s1, s2⟩ := lw_117 (O := O) (f := f) (K := f_Law_least_61 O f K KS t) (v4 := v4) (v5 := v5) (v6 := v6) (v7 := v7) (j := j) (k := k) hh hm (by omega) hk 3 f 0 1 (by omega) (by omega) (Or.inr rfl)
          have z := nxt s s1 (s2.trans ⟨fun z => ⟨rfl, fun w => by
            obtain ⟨p, p1, p2⟩ := w.2.2
            exact z.2 p (by omega) p1 p2⟩, fun z => ⟨rfl, fun q _ q2 q3 => z.2 ⟨by omega, by omega, q, q2, q3⟩⟩⟩)
          unfold f_Law_least_112
          rw [show ((0 : Nat) : Int) = 0 from rfl] at es
          rw [es]
          exact z
end LLH
end
