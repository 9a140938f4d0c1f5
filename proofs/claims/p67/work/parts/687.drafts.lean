/-! draft 687.appint -/
section
/-! ===== a number is appended ===== -/
section API
variable {O : Nat → Option va_E} {f s x A n k : Nat} {M N : xM} {L L2 : List Int} {i y : Int} {γ : Type}
theorem jdn {v : Nat} (hv : v < 10000) : jdiv (-(v : Int)) 100 = -((v / 100 : Nat) : Int) := by
  rw [jdiv_t (by omega) (by omega) (by omega) (by omega), Int.neg_tdiv, Int.tdiv_eq_ediv_of_nonneg (by omega)]
  omega
/-- the last one or two signs -/
theorem gc_last {v : Nat} {p : Int} (hd : DGo O) (hb : inM M k) (hs : mS M k = .inr (3, n)) (hv : v < 100) (hn : n ≤ 5000) (p0 : 0 ≤ p) (p1 : p + (dgs v).length ≤ n) (t : Nat) : ∃ N, f_Integer_getChars_22 O f (t + 1) (-(v : Int)) k (p + (dgs v).length) 0 M = some (p, N) ∧ Un (fun a => a ≠ k) M N ∧ ∀ j : Nat, iV N k j = if p ≤ j ∧ (j : Int) < p + (dgs v).length then (dgs v).getD (j - p.toNat) 0 else iV M k j := by
  obtain ⟨d2, d3⟩ := hd.at (M := M) (r := (v : Int)) (by omega) (by omega)
  have t104 : ∀ (q : Int) (K : xM), f_Integer_getChars_104 O f k q 0 K = some (q, K) := fun q K => by
    unfold f_Integer_getChars_104
    rw [eq_T rfl]
  show ∃ N, (if yw (-100) < yw (-(v : Int)) then _ else _) = _ ∧ _
  rw [lt_T (by omega) (by omega) (by omega), Int.neg_neg, d3]
  by_cases c : v < 10
  · have e : dgs v = [48 + (v : Int)] := if_pos c
    have el : ((dgs v).length : Int) = 1 := by rw [e]; rfl
    rw [el] at p1 ⊢
    rw [z_wB hb hs (by omega) (by omega) (by omega) (by omega) (by omega), le_T (by omega) (by omega) (by omega), t104]
    refine ⟨_, by rw [show p + 1 + -1 = p by omega], Un.rf.iS (fun q => q rfl), fun j => ?_⟩
    by_cases g : p ≤ j ∧ (j : Int) < p + 1
    · rw [if_pos g, show p.toNat = j by omega, iV_s (by omega) (by omega), e, show j - j = 0 by omega]
      show 48 + (v : Int) % 10 = 48 + v
      omega
    · rw [if_neg g, iV_o (by omega)]
  · have e : dgs v = [48 + ((v / 10 : Nat) : Int), 48 + ((v % 10 : Nat) : Int)] := by
      unfold dgs
      rw [if_neg c, if_pos hv]
    have el : ((dgs v).length : Int) = 2 := by rw [e]; rfl
    rw [el] at p1 ⊢
    obtain ⟨E, eE⟩ : ∃ E, E = iS M k (p + 2 + -1).toNat (48 + (v : Int) % 10) := ⟨_, rfl⟩
    have bE : inM E k := by rw [eE]; exact hb
    have sE : mS E k = .inr (3, n) := by rw [eE]; exact hs
    obtain ⟨d2', -⟩ := hd.at (M := E) (r := (v : Int)) (by omega) (by omega)
    rw [z_wB hb hs (by omega) (by omega) (by omega) (by omega) (by omega), ← eE, le_F (by omega) (by omega) (by omega), d2', z_wB bE sE (by omega) (by omega) (by omega) (by omega) (by omega), t104]
    refine ⟨_, by rw [show p + 2 + -1 + -1 = p by omega], ?_, fun j => ?_⟩
    · rw [eE]
      exact (Un.rf.iS (fun q => q rfl)).iS (fun q => q rfl)
    · by_cases g : p ≤ j ∧ (j : Int) < p + 2
      · rw [if_pos g, e]
        by_cases g2 : j = p.toNat
        · rw [show p.toNat = j by omega, iV_s (by omega) (by omega), show j - j = 0 by omega]
          show 48 + (v : Int) / 10 = 48 + ((v / 10 : Nat) : Int)
          omega
        · rw [iV_o (by omega), eE, show (p + 2 + -1).toNat = j by omega, iV_s (by omega) (by omega), show j - p.toNat = 1 by omega]
          show 48 + (v : Int) % 10 = 48 + ((v % 10 : Nat) : Int)
          omega
      · rw [if_neg g, iV_o (by omega), eE, iV_o (by omega)]
theorem getChars_ok {v : Nat} {p : Int} (hd : DGo O) (hb : inM M k) (hs : mS M k = .inr (3, n)) (hv : v < 10000) (hn : n ≤ 5000) (p0 : 0 ≤ p) (p1 : p + (dgs v).length ≤ n) (hf : 10 ≤ f) : ∃ N, f_Integer_getChars O f (v : Int) (p + (dgs v).length) k M = some (p, N) ∧ Un (fun a => a ≠ k) M N ∧ ∀ j : Nat, iV N k j = if p ≤ j ∧ (j : Int) < p + (dgs v).length then (dgs v).getD (j - p.toNat) 0 else iV M k j := by
  obtain ⟨t, rfl⟩ : ∃ t, f = t + 1 + 1 := ⟨f - 2, by omega⟩
  unfold f_Integer_getChars f_Integer_getChars_12
  rw [le_T (by omega) (by omega) (by omega), eq_T rfl]
  by_cases c : v < 100
  · exact gc_last hd hb hs c hn p0 p1 (t + 1)
  have dd : dgs v = dgs (v / 100) ++ [48 + ((v / 10 % 10 : Nat) : Int), 48 + ((v % 10 : Nat) : Int)] := by
    unfold dgs
    by_cases c2 : v < 1000
    · rw [if_neg (by omega), if_neg c, if_pos c2, if_pos (by omega)]
      rfl
    · rw [if_neg (by omega), if_neg c, if_neg c2, if_neg (by omega), if_pos (by omega), show v / 100 / 10 = v / 1000 by omega]
      rfl
  have el : ((dgs v).length : Int) = (dgs (v / 100)).length + 2 := by rw [dd, List.length_append]; rfl
  rw [el] at p1 ⊢
  obtain ⟨q, eq⟩ : ∃ q, q = p + (dgs (v / 100)).length := ⟨_, rfl⟩
  rw [show p + (((dgs (v / 100)).length : Int) + 2) = q + 2 by omega] at p1 ⊢
  have hm : jdiv (-(v : Int)) 100 * 100 - -(v : Int) = ((v % 100 : Nat) : Int) := by
    rw [jdn hv]
    omega
  obtain ⟨-, d3⟩ := hd.at (M := M) (r := ((v % 100 : Nat) : Int)) (by omega) (by omega)
  obtain ⟨E, eE⟩ : ∃ E, E = iS M k (q + 2 + -1).toNat (48 + ((v % 100 : Nat) : Int) % 10) := ⟨_, rfl⟩
  have bE : inM E k := by rw [eE]; exact hb
  have sE : mS E k = .inr (3, n) := by rw [eE]; exact hs
  obtain ⟨d2, -⟩ := hd.at (M := E) (r := ((v % 100 : Nat) : Int)) (by omega) (by omega)
  obtain ⟨G, eG⟩ : ∃ G, G = iS E k (q + 2 + -1 + -1).toNat (48 + ((v % 100 : Nat) : Int) / 10) := ⟨_, rfl⟩
  have bG : inM G k := by rw [eG]; exact bE
  have sG : mS G k = .inr (3, n) := by rw [eG]; exact sE
  obtain ⟨N, eN, uN, vN⟩ := gc_last (f := t + 1 + 1) (v := v / 100) (p := p) hd bG sG (by omega) hn p0 (by omega) t
  show ∃ N, (if yw (-100) < yw (-(v : Int)) then _ else _) = _ ∧ _
  refine ⟨N, ?_, ?_, fun j => ?_⟩
  · rw [lt_F (by omega) (by omega) (by omega), hm, d3, z_wB hb hs (by omega) (by omega) (by omega) (by omega) (by omega), ← eE, d2, z_wB bE sE (by omega) (by omega) (by omega) (by omega) (by omega), ← eG, jdn hv, ← eN, ← eq, show q + 2 + -1 + -1 = q by omega]
  · have u0 : Un (fun a => a ≠ k) M G := by
      rw [eG, eE]
      exact (Un.rf.iS (fun z => z rfl)).iS (fun z => z rfl)
    exact u0.tr uN
  · rw [vN, ← eq]
    by_cases g1 : p ≤ j ∧ (j : Int) < q
    · rw [if_pos g1, if_pos ⟨g1.1, by omega⟩, dd, gd_app, if_pos (by omega)]
    · rw [if_neg g1]
      by_cases g2 : p ≤ j ∧ (j : Int) < q + 2
      · rw [if_pos g2, dd, gd_app, if_neg (by omega)]
        by_cases g3 : (j : Int) = q
        · rw [eG, show (q + 2 + -1 + -1).toNat = j by omega, iV_s (by omega) (by omega), show j - p.toNat - (dgs (v / 100)).length = 0 by omega]
          show 48 + ((v % 100 : Nat) : Int) / 10 = 48 + ((v / 10 % 10 : Nat) : Int)
          omega
        · rw [eG, iV_o (by omega), eE, show (q + 2 + -1).toNat = j by omega, iV_s (by omega) (by omega), show j - p.toNat - (dgs (v / 100)).length = 1 by omega]
          show 48 + ((v % 100 : Nat) : Int) % 10 = 48 + ((v % 10 : Nat) : Int)
          omega
      · rw [if_neg g2, eG, iV_o (by omega), eE, iV_o (by omega)]
end API
end
/-! draft 688.appends -/
section
/-! ===== numbers and signs appended ===== -/
section APE
variable {O : Nat → Option va_E} {f s x A n k : Nat} {M N : xM} {L L2 : List Int} {i y : Int} {γ : Type}
theorem dgs_len {v : Nat} : 1 ≤ (dgs v).length ∧ (dgs v).length ≤ 4 := by
  unfold dgs
  split
  · simp only [List.length_cons, List.length_nil]
    omega
  · split
    · simp only [List.length_cons, List.length_nil]
      omega
    · split
      · simp only [List.length_cons, List.length_nil]
        omega
      · simp only [List.length_cons, List.length_nil]
        omega
/-- what a builder has after its row was filled on, and its count put -/
theorem bd_fill {G : xM} (h : BD M x A n L) (u : Un (fun a => a ≠ A) M G) (hl : L.length + L2.length ≤ n) (h3 : L.length + L2.length ≤ 1000) (hc : ∀ z, z ∈ L2 → 0 ≤ z ∧ z ≤ 127) (hv : ∀ j : Nat, iV G A j = if L.length ≤ j ∧ j < L.length + L2.length then L2.getD (j - L.length) 0 else iV M A j) : (∀ {B : xM → Option γ}, (pJ G x 1 3 ((L.length : Int) + (L2.length : Int))).bind B = B (iS G x 3 ((L.length : Int) + (L2.length : Int)))) ∧ BD (iS G x 3 ((L.length : Int) + (L2.length : Int))) x A n (L ++ L2) := by
  have ne := h.ne
  obtain ⟨a1, a2, a3, a4, a5, a6, a7, a8, a9, a10, a11, a12⟩ := h
  have xG : inM G x := u.1.inM a1
  have tG : mS G x = .inl 1 := by rw [u.1.s]; exact a2
  have uK : Un (fun a => a ≠ x) G (iS G x 3 ((L.length : Int) + (L2.length : Int))) := Un.rf.iS (fun q => q rfl)
  refine ⟨fun {B} => z_pJ xG tG (by decide) (by decide) rfl, uK.1.inM xG, by rw [uK.1.s]; exact tG, by rw [uK.1.r, u.1.r]; exact a3, ?_, ?_, uK.1.inM (u.1.inM a6), by rw [uK.1.s, u.1.s]; exact a7, by rw [List.length_append]; omega, a9, fun j hj => ?_, fun y hy => ?_, fun j hj => ?_⟩
  · rw [iV_o (by omega), u.i (by (try dsimp only); exact ne)]
    exact a4
  · rw [iV_s (by omega) (by omega), List.length_append]
    omega
  · rw [List.length_append] at hj
    rw [uK.i (by (try dsimp only); exact fun z => ne z.symm), hv, gd_app]
    by_cases q : j < L.length
    · rw [if_neg (by omega), if_pos q]
      exact a10 j q
    · rw [if_pos ⟨by omega, by omega⟩, if_neg q]
  · rcases List.mem_append.mp hy with z | z
    · exact a11 y z
    · exact hc y z
  · rw [uK.i (by (try dsimp only); exact fun z => ne z.symm), hv]
    split
    · next q =>
      have := hc _ (getD_mem (show j - L.length < L2.length by omega))
      omega
    · exact a12 j hj
theorem bg_fill {E G : xM} {A' n' : Nat} {c : Int} (hA : A < M.1) (g : BG M E x A A' n n') (u : Un (fun a => a ≠ A') E G) : BG M (iS G x 3 c) x A A' n n' := by
  obtain ⟨kE, rA, k1, k2, k3, k4⟩ := g
  have uK : Un (fun a => a ≠ x) G (iS G x 3 c) := Un.rf.iS (fun q => q rfl)
  refine ⟨⟨by rw [uK.1.1, u.1.1]; omega, fun a ha => by rw [uK.1.s, u.1.s]; exact kE.2.1 a ha, fun a ha p => ?_⟩, by rw [uK.1.1, u.1.1]; exact rA, by rw [uK.1.1, u.1.1]; omega, by rw [uK.1.1, u.1.1]; omega, by rw [uK.1.2.1, u.1.2.1]; omega, k4⟩
  have q0 := kE.2.2 a ha p
  have q1 := u.2 a (by (try dsimp only); omega)
  have q2 := uK.2 a p.1
  rw [q2.1, q2.2, q1.1, q1.2, uK.1.r, u.1.r]
  exact q0
theorem api_ok {v : Nat} (hd : DGo O) (h : BD M x A n L) (hv : v < 10000) (hM : M.1 ≤ 300000000) (n2 : n ≤ 1000) (m1 : L.length ≤ 200) (hf : 10 ≤ f) : ∃ A' n' N, f_StringBuilder_append_285 O f x (v : Int) M = some (x, N) ∧ BD N x A' n' (L ++ dgs v) ∧ n' ≤ max n 600 ∧ BG M N x A A' n n' := by
  have dl := dgs_len (v := v)
  obtain ⟨A', n', E, eE, bE, m2, n3, gE⟩ := ens_ok (O := O) (f := f) (m := (L.length : Int) + ((dgs v).length : Int)) h hM n2 (by omega) (by omega)
  have bE' := bE
  obtain ⟨a1, a2, a3, a4, a5, a6, a7, a8, a9, a10, a11, a12⟩ := bE'
  obtain ⟨G, eG, uG, vG⟩ := getChars_ok (O := O) (f := f) (v := v) (p := (L.length : Int)) hd a6 a7 hv a9 (by omega) (by omega) hf
  have fl := bd_fill (L2 := dgs v) (γ := Nat × xM) bE uG (by omega) (by omega) (fun z hz => by have := dgs_r z hz hv; omega) (fun j => by
    rw [vG]
    by_cases q : L.length ≤ j ∧ j < L.length + (dgs v).length
    · rw [if_pos q, if_pos (by omega), show j - ((L.length : Int)).toNat = j - L.length by omega]
    · rw [if_neg q, if_neg (by omega)])
  refine ⟨A', n', _, ?_, fl.2, by omega, bg_fill h.2.2.2.2.2.1.2 gE uG⟩
  unfold f_StringBuilder_append_285 f_AbstractStringBuilder_append_286 f_AbstractStringBuilder_isLatin1
  rw [h.is, h.ct, size_ok hv hf, xcl_e, h.is, eE, xcl_e, bE.is, eq_F (by omega) (by omega) (by omega) (by omega) (by omega), bE.co, eq_T rfl, xcl_e, eq_F (by omega) (by omega) (by omega) (by omega) (by omega), bE.v, eG, xcl_e, fl.1, xcl_e]
/-- one sign -/
theorem apc_ok {c : Int} (h : BD M x A n L) (c0 : 0 ≤ c) (c1 : c ≤ 127) (hM : M.1 ≤ 300000000) (n2 : n ≤ 1000) (m1 : L.length ≤ 200) : ∃ A' n' N, f_StringBuilder_append_299 O f x c M = some (x, N) ∧ BD N x A' n' (L ++ [c]) ∧ n' ≤ max n 600 ∧ BG M N x A A' n n' := by
  obtain ⟨A', n', E, eE, bE, m2, n3, gE⟩ := ens_ok (O := O) (f := f) (m := (L.length : Int) + 1) h hM n2 (by omega) (by omega)
  have neE := bE.ne
  have bE' := bE
  obtain ⟨a1, a2, a3, a4, a5, a6, a7, a8, a9, a10, a11, a12⟩ := bE'
  obtain ⟨z, ez⟩ := Int.eq_ofNat_of_zero_le c0
  have ab := (asc z (by omega)).2.2.2
  rw [← ez] at ab
  -- the count first, then the sign
  obtain ⟨G, eG⟩ : ∃ G, G = iS E A' L.length c := ⟨_, rfl⟩
  have uG : Un (fun a => a ≠ A') E G := by rw [eG]; exact Un.rf.iS (fun q => q rfl)
  have fl := bd_fill (L2 := [c]) (γ := Nat × xM) bE uG (by show L.length + 1 ≤ n'; omega) (by show L.length + 1 ≤ 1000; omega) (fun z hz => by
    rw [List.mem_singleton] at hz
    omega) (fun j => by
    rw [eG]
    by_cases q : j = L.length
    · rw [q, iV_s (by omega) (by omega), if_pos ⟨by omega, by show L.length < L.length + 1; omega⟩, Nat.sub_self]
      rfl
    · rw [iV_o (by omega), if_neg (fun z => by have : j < L.length + 1 := z.2; omega)])
  have e1 : (([c] : List Int).length : Int) = 1 := rfl
  rw [e1] at fl
  obtain ⟨K, eK⟩ : ∃ K, K = iS E x 3 ((L.length : Int) + 1) := ⟨_, rfl⟩
  have uK : Un (fun a => a ≠ x) E K := by rw [eK]; exact Un.rf.iS (fun q => q rfl)
  have sw : iS K A' L.length c = iS G x 3 ((L.length : Int) + 1) := by
    rw [eK, eG]
    show ((E.1, E.2.1, mS E, _, mL E, mR E) : xM) = (E.1, E.2.1, mS E, _, mL E, mR E)
    congr 4
    funext a
    show (if a = A' then mup (if A' = x then _ else mI E A') L.length (yw c) else if a = x then _ else mI E a) = (if a = x then mup (if x = A' then _ else mI E x) 3 _ else if a = A' then _ else mI E a)
    by_cases g1 : a = A'
    · have g2 : ¬ a = x := fun z => neE (by rw [← z, g1])
      rw [if_pos g1, if_neg g2, if_pos g1, if_neg (fun z => neE z.symm)]
    · rw [if_neg g1]
      by_cases g2 : a = x
      · rw [if_pos g2, if_pos g2, if_neg neE]
      · rw [if_neg g2, if_neg g2, if_neg g1]
  refine ⟨A', n', _, ?_, fl.2, by omega, bg_fill h.2.2.2.2.2.1.2 gE uG⟩
  unfold f_StringBuilder_append_299 f_AbstractStringBuilder_append_300 f_AbstractStringBuilder_isLatin1 f_StringLatin1_canEncode
  rw [h.is, h.ct, h.is, eE, xcl_e, bE.is, eq_F (by omega) (by omega) (by omega) (by omega) (by omega), bE.co, eq_T rfl, xcl_e, eq_F (by omega) (by omega) (by omega) (by omega) (by omega), lt_F (by omega) (by omega) (by omega), xcl_e, eq_F (by omega) (by omega) (by omega) (by omega) (by omega), bE.v, bE.ct, z_pJ a1 a2 (by decide) (by decide) rfl, ← eK, ab, z_wB (uK.1.inM a6) (by rw [uK.1.s]; exact a7) (by omega) (by omega) (by omega) c0 c1, Int.toNat_natCast, sw, xcl_e]
end APE
end
/-! draft 689.sbexpr -/
section
/-! ===== strings put together ===== -/
/-- the old strings' signs, by their places: mo tu we th fr sa su (10 - 22), first .. fifth (24 - 32), nothing (34), a space (36), and so on -/
def tq (k : Nat) : List Int := match k with
  | 10 => [109, 111]
  | 12 => [116, 117]
  | 14 => [119, 101]
  | 16 => [116, 104]
  | 18 => [102, 114]
  | 20 => [115, 97]
  | 22 => [115, 117]
  | 24 => [102, 105, 114, 115, 116]
  | 26 => [115, 101, 99, 111, 110, 100]
  | 28 => [116, 104, 105, 114, 100]
  | 30 => [102, 111, 117, 114, 116, 104]
  | 32 => [102, 105, 102, 116, 104]
  | 34 => []
  | 36 => [32]
  | 38 => [101, 118, 101, 114, 121, 32]
  | 40 => [111, 110, 99, 101]
  | 42 => [100, 97, 121, 115]
  | 44 => [119, 101, 101, 107, 115, 32, 111, 110]
  | 46 => [121, 101, 97, 114, 115]
  | 48 => [109, 111, 110, 116, 104, 115, 32, 111, 110, 32]
  | 50 => [108, 97, 115, 116]
  | 52 => [101, 110, 100, 32]
  | 54 => [32, 102, 111, 114, 32]
  | 56 => [32, 117, 110, 116, 105, 108, 32]
  | 58 => [101, 118, 101, 114, 121]
  | 60 => [119, 101, 101, 107, 115]
  | 62 => [111, 110]
  | 64 => [109, 111, 116, 117, 119, 101, 116, 104, 102, 114, 115, 97, 115, 117]
  | 66 => [109, 111, 110, 116, 104, 115]
  | 68 => [102, 111, 114]
  | 70 => [117, 110, 116, 105, 108]
  | _ => []
/-- what the old heap must hold of them -/
def STo (O : Nat → Option va_E) : Prop := ∀ k, k ∈ [10, 12, 14, 16, 18, 20, 22, 24, 26, 28, 30, 32, 34, 36, 38, 40, 42, 44, 46, 48, 50, 52, 54, 56, 58, 60, 62, 64, 66, 68, 70] → ∀ M : xM, SG O M (1000000000 + k) (tq k)
section SBX
variable {O : Nat → Option va_E} {f s x A n k : Nat} {M N : xM} {L L2 : List Int} {i y : Int} {γ : Type}
/-- a builder begun, behind a place -/
def BB (M : xM) (x A n : Nat) (L : List Int) : Prop := BD M x A n L ∧ x < A ∧ n ≤ 600 ∧ M.1 ≤ 200000000
theorem BB.ex (h : BB M x A n L) (e : Ex M N) (hN : N.1 ≤ 200000000) : BB N x A n L := ⟨h.1.kq (P := fun _ => True) e.kq (by omega) trivial trivial, h.2.1, h.2.2.1, hN⟩
theorem SG.ex (h : SG O M s L) (e : Ex M N) : SG O N s L := h.kq (P := fun _ => True) e.kq (fun _ => ⟨trivial, trivial⟩)
/-- a new builder with a string in it -/
theorem sb_s (hM : M.1 ≤ 100000000) (hs : SG O M s L) (hl : L.length ≤ 250) : ∃ A n N, (∀ {B : Nat → xM → Option γ}, (xcl (nO M 1) fun x1 M1 => xcl (f_StringBuilder_ctor O f x1 M1) fun _ M2 => (isO O M2 x1 1).bind fun _ => xcl (f_StringBuilder_append_256 O f x1 s M2) fun x3 M3 => B x3 M3) = B M.1 N) ∧ BB N M.1 A n L ∧ A < N.1 ∧ Ex M N ∧ N.1 ≤ M.1 + 3 ∧ N.2.1 ≤ M.2.1 + 2 * n := by
  obtain ⟨E, eE, bE, kE, E1, E2⟩ := sb_new (O := O) (f := f) (γ := γ) (M := M) (by omega)
  have sE : SG O E s L := hs.kq (P := fun _ => True) kE.kq (fun _ => ⟨trivial, trivial⟩)
  have lt := hs.lt
  obtain ⟨A, n, N, eN, bN, n6, kN, rA, k1, k2, k3, k4⟩ := app_ok (O := O) (f := f) bE sE (by omega) (by omega) (by omega) (by show 0 + L.length ≤ 300; omega)
  have al := bN.2.2.2.2.2.1.2
  refine ⟨A, n, N, fun {B} => ?_, ⟨bN, by omega, by omega, by omega⟩, al, ((kE.kq.le (Q := fun a => a < M.1) (fun a _ => trivial)).tr (kN.le (fun a q => by (try dsimp only at q ⊢); omega))).ex (fun a q => q), by omega, by omega⟩
  have q : (xcl (nO M 1) fun x1 M1 => xcl (f_StringBuilder_ctor O f x1 M1) fun _ M2 => (isO O M2 x1 1).bind fun _ => xcl (f_StringBuilder_append_256 O f x1 s M2) fun x3 M3 => B x3 M3) = ((isO O E M.1 1).bind fun _ => xcl (f_StringBuilder_append_256 O f M.1 s E) fun x3 M3 => B x3 M3) := eE (B := fun x1 M2 => (isO O M2 x1 1).bind fun _ => xcl (f_StringBuilder_append_256 O f x1 s M2) fun x3 M3 => B x3 M3)
  rw [q, bE.is, eN, xcl_e]
/-- a string more, then the whole -/
theorem sb_fin (h : BB M x A n L) (hs : SG O M s L2) (sA : s + 1 ≠ A) (hl : L.length + L2.length ≤ 250) : ∃ t N, (∀ {B : Nat → xM → Option γ}, ((isO O M x 1).bind fun _ => xcl (f_StringBuilder_append_256 O f x s M) fun x1 M1 => (isO O M1 x1 1).bind fun _ => xcl (f_StringBuilder_toString O f x1 M1) fun x2 M2 => B x2 M2) = B t N) ∧ SG O N t (L ++ L2) ∧ M.1 ≤ t ∧ t + 1 < N.1 ∧ Kq (fun a => a < x) M N ∧ N.1 ≤ M.1 + 3 ∧ N.2.1 + 2 * n ≤ M.2.1 + 1700 ∧ M.1 ≤ N.1 := by
  obtain ⟨h1, h2, h3, h4⟩ := h
  obtain ⟨A', n', E, eE, bE, n6, kE, rA, k1, k2, k3, k4⟩ := app_ok (O := O) (f := f) h1 hs sA (by omega) (by omega) (by omega)
  have hl2 : (L ++ L2).length ≤ 250 := by rw [List.length_append]; exact hl
  obtain ⟨N, eN, sN, xN, N1, N2⟩ := toString_ok (O := O) (f := f) bE (by omega) (by omega)
  refine ⟨E.1, N, fun {B} => ?_, sN, by omega, by omega, (kE.le (fun a q => by (try dsimp only at q ⊢); omega)).tr xN.kq, by omega, by omega, by omega⟩
  rw [h1.is, eE, xcl_e, bE.is, eN, xcl_e]
/-- two strings -/
theorem sb_two {s2 : Nat} (hM : M.1 ≤ 100000000) (hs : SG O M s L) (hs2 : SG O M s2 L2) (hl : L.length + L2.length ≤ 250) : ∃ t N, (∀ {B : Nat → xM → Option γ}, (xcl (nO M 1) fun x1 M1 => xcl (f_StringBuilder_ctor O f x1 M1) fun _ M2 => (isO O M2 x1 1).bind fun _ => xcl (f_StringBuilder_append_256 O f x1 s M2) fun x3 M3 => (isO O M3 x3 1).bind fun _ => xcl (f_StringBuilder_append_256 O f x3 s2 M3) fun x4 M4 => (isO O M4 x4 1).bind fun _ => xcl (f_StringBuilder_toString O f x4 M4) fun x5 M5 => B x5 M5) = B t N) ∧ SG O N t (L ++ L2) ∧ t + 1 < N.1 ∧ M.1 ≤ t ∧ Ex M N ∧ N.1 ≤ M.1 + 6 ∧ N.2.1 ≤ M.2.1 + 1700 := by
  obtain ⟨A, n, E, eE, bE, aE, xE, e1, e2⟩ := sb_s (O := O) (f := f) (γ := γ) hM hs (by omega)
  have l2 := hs2.lt
  have m1 := xE.1
  have aM : M.1 < A := bE.2.1
  have a9 := bE.1.2.2.2.2.2.1.1
  obtain ⟨t, N, eN, sN, t0, t1, kN, n1, n2, n3⟩ := sb_fin (O := O) (f := f) (γ := γ) bE (hs2.ex xE) (by omega) hl
  refine ⟨t, N, fun {B} => ?_, sN, t1, by omega, ((xE.kq (P := fun a => a < M.1)).tr kN).ex (fun a q => q), by omega, by omega⟩
  rw [eE (B := fun x3 M3 => (isO O M3 x3 1).bind fun _ => xcl (f_StringBuilder_append_256 O f x3 s2 M3) fun x4 M4 => (isO O M4 x4 1).bind fun _ => xcl (f_StringBuilder_toString O f x4 M4) fun x5 M5 => B x5 M5), eN]
/-- a string and a number -/
theorem sb_num {v : Nat} (hd : DGo O) (hM : M.1 ≤ 100000000) (hs : SG O M s L) (hv : v < 10000) (hl : L.length ≤ 150) (hf : 10 ≤ f) : ∃ t N, (∀ {B : Nat → xM → Option γ}, (xcl (nO M 1) fun x1 M1 => xcl (f_StringBuilder_ctor O f x1 M1) fun _ M2 => (isO O M2 x1 1).bind fun _ => xcl (f_StringBuilder_append_256 O f x1 s M2) fun x3 M3 => (isO O M3 x3 1).bind fun _ => xcl (f_StringBuilder_append_285 O f x3 (v : Int) M3) fun x4 M4 => (isO O M4 x4 1).bind fun _ => xcl (f_StringBuilder_toString O f x4 M4) fun x5 M5 => B x5 M5) = B t N) ∧ SG O N t (L ++ dgs v) ∧ t + 1 < N.1 ∧ M.1 ≤ t ∧ Ex M N ∧ N.1 ≤ M.1 + 6 ∧ N.2.1 ≤ M.2.1 + 1700 := by
  obtain ⟨A, n, E, eE, bE, aE, xE, e1, e2⟩ := sb_s (O := O) (f := f) (γ := γ) hM hs (by omega)
  have m1 := xE.1
  have dl := dgs_len (v := v)
  obtain ⟨b1, b2, b3, b4⟩ := bE
  obtain ⟨A', n', G, eG, bG, n6, kG, rA, k1, k2, k3, k4⟩ := api_ok (O := O) (f := f) (v := v) hd b1 hv (by omega) (by omega) (by omega) hf
  obtain ⟨N, eN, sN, xN, N1, N2⟩ := toString_ok (O := O) (f := f) bG (by omega) (by rw [List.length_append]; omega)
  have ll : (L ++ dgs v).length ≤ 154 := by rw [List.length_append]; omega
  refine ⟨G.1, N, fun {B} => ?_, sN, by omega, by omega, (((xE.kq (P := fun a => a < M.1)).tr (kG.le (fun a q => by (try dsimp only at q ⊢); omega))).tr xN.kq).ex (fun a q => q), by omega, by omega⟩
  rw [eE (B := fun x3 M3 => (isO O M3 x3 1).bind fun _ => xcl (f_StringBuilder_append_285 O f x3 (v : Int) M3) fun x4 M4 => (isO O M4 x4 1).bind fun _ => xcl (f_StringBuilder_toString O f x4 M4) fun x5 M5 => B x5 M5), b1.is, eG, xcl_e, bG.is, eN, xcl_e]
/-- a number more, then the whole -/
theorem sb_finn {v : Nat} (hd : DGo O) (h : BB M x A n L) (hv : v < 10000) (hl : L.length ≤ 150) (hf : 10 ≤ f) : ∃ t N, (∀ {B : Nat → xM → Option γ}, ((isO O M x 1).bind fun _ => xcl (f_StringBuilder_append_285 O f x (v : Int) M) fun x1 M1 => (isO O M1 x1 1).bind fun _ => xcl (f_StringBuilder_toString O f x1 M1) fun x2 M2 => B x2 M2) = B t N) ∧ SG O N t (L ++ dgs v) ∧ M.1 ≤ t ∧ t + 1 < N.1 ∧ Kq (fun a => a < x) M N ∧ N.1 ≤ M.1 + 3 ∧ N.2.1 + 2 * n ≤ M.2.1 + 1700 ∧ M.1 ≤ N.1 := by
  obtain ⟨h1, h2, h3, h4⟩ := h
  have dl := dgs_len (v := v)
  obtain ⟨A', n', E, eE, bE, n6, kE, rA, k1, k2, k3, k4⟩ := api_ok (O := O) (f := f) (v := v) hd h1 hv (by omega) (by omega) (by omega) hf
  have hl2 : (L ++ dgs v).length ≤ 154 := by rw [List.length_append]; omega
  obtain ⟨N, eN, sN, xN, N1, N2⟩ := toString_ok (O := O) (f := f) bE (by omega) (by omega)
  refine ⟨E.1, N, fun {B} => ?_, sN, by omega, by omega, (kE.le (fun a q => by (try dsimp only at q ⊢); omega)).tr xN.kq, by omega, by omega, by omega⟩
  rw [h1.is, eE, xcl_e, bE.is, eN, xcl_e]
/-- a string more -/
theorem sb_app (h : BB M x A n L) (hs : SG O M s L2) (sA : s + 1 ≠ A) (hl : L.length + L2.length ≤ 250) (hM : M.1 ≤ 100000000) : ∃ A' n' N, (∀ {B : Nat → xM → Option γ}, ((isO O M x 1).bind fun _ => xcl (f_StringBuilder_append_256 O f x s M) fun x1 M1 => B x1 M1) = B x N) ∧ BB N x A' n' (L ++ L2) ∧ (A' = A ∨ (M.1 ≤ A' ∧ A' < N.1)) ∧ Kq (fun a => a ≠ x ∧ a ≠ A) M N ∧ N.1 ≤ M.1 + 1 ∧ N.2.1 + 2 * n ≤ M.2.1 + 2 * n' ∧ M.1 ≤ N.1 := by
  obtain ⟨h1, h2, h3, h4⟩ := h
  have xl := h1.1.2
  obtain ⟨A', n', E, eE, bE, n6, kE, rA, k1, k2, k3, k4⟩ := app_ok (O := O) (f := f) h1 hs sA (by omega) (by omega) (by omega)
  refine ⟨A', n', E, fun {B} => ?_, ⟨bE, by omega, by omega, by omega⟩, rA, kE, by omega, by omega, by omega⟩
  rw [h1.is, eE, xcl_e]
end SBX
end
/-! draft 690.ltext -/
section
/-! ===== the law's text of a rule: its end ===== -/
/-- the end's words -/
def txE (r : Nat → Int) : List Int := if r 5 = 1 then tq 54 ++ dgs (r 6).toNat else if r 5 = 2 then tq 56 ++ dgs (r 6).toNat else tq 34
section LT1
variable {O : Nat → Option va_E} {f m v v5 s x A n : Nat} {M N : xM} {L L2 : List Int} {γ : Type}
theorem LRp.ex (h : LRp m M) (e : Ex M N) (hN : N.1 ≤ 500000000) : LRp m N := ⟨⟨h.1.1, Nat.lt_of_lt_of_le h.1.2 e.1⟩, by rw [(e.2 m h.1.2).1]; exact h.2⟩
theorem LRp.iv (h : LRp m M) (e : Ex M N) : iV N m = iV M m := funext (fun j => e.i h.1.2)
theorem tx_517 (hO : STo O) (hd : DGo O) (lr : LRp m M) (hv : LVr (iV M m)) (hs : SG O M v5 L) (hl : L.length ≤ 130) (hM : M.1 ≤ 50000000) (hf : 10 ≤ f) : ∃ t N, f_LRule_text_517 O f m v5 M = some (t, N) ∧ SG O N t (L ++ txE (iV M m)) ∧ t + 1 < N.1 ∧ Ex M N ∧ N.1 ≤ M.1 + 20 ∧ N.2.1 ≤ M.2.1 + 6000 := by
  have r5 := iV_r M m 5
  have en := hv.2.2.2.2.2.2.2.2.2.2.2
  have f0 := hv.1
  obtain ⟨A, n, E, eE, bE, aE, xE, e1, e2⟩ := sb_s (O := O) (f := f) (γ := Nat × xM) (by omega) hs (by omega)
  have lE := lr.ex xE (by omega)
  have iE := lr.iv xE
  have m1 := xE.1
  have xA : M.1 < A := bE.2.1
  have a9 := bE.1.2.2.2.2.2.1.1
  have n6 := bE.2.2.1
  -- the last string, and the whole
  have fin : ∀ (s : Nat) (L2 : List Int) (G : xM), Ex E G → SG O G s L2 → L2.length ≤ 60 → (1000000000 ≤ s ∨ E.1 ≤ s) → G.1 ≤ E.1 + 6 → G.2.1 ≤ E.2.1 + 1700 → ∃ t N, f_LRule_text_597 O f M.1 s G = some (t, N) ∧ SG O N t (L ++ L2) ∧ t + 1 < N.1 ∧ Ex M N ∧ N.1 ≤ M.1 + 20 ∧ N.2.1 ≤ M.2.1 + 6000 := by
    intro s L2 G xG sG l2 hs2 g1 g2
    have bG := bE.ex xG (by omega)
    obtain ⟨t, N, eN, sN, t0, t1, kN, n1, n2, n3⟩ := sb_fin (O := O) (f := f) (γ := Nat × xM) bG sG (by omega) (by omega)
    refine ⟨t, N, ?_, sN, t1, ((xE.tr xG).kq (P := fun a => a < M.1) |>.tr kN).ex (fun a q => q), by omega, by omega⟩
    unfold f_LRule_text_597
    exact eN (B := fun x2 M2 => some (x2, M2))
  unfold f_LRule_text_517
  rw [eE (B := fun x3 M3 => (gJ O M3 m 16 5).bind fun x4 => if yw x4 = yw 1 then (xcl (nO M3 1) fun x5 M4 => xcl (f_StringBuilder_ctor O f x5 M4) fun _ M5 => (isO O M5 x5 1).bind fun _ => xcl (f_StringBuilder_append_256 O f x5 1000000054 M5) fun x7 M6 => (gJ O M6 m 16 6).bind fun x8 => (isO O M6 x7 1).bind fun _ => xcl (f_StringBuilder_append_285 O f x7 x8 M6) fun x9 M7 => (isO O M7 x9 1).bind fun _ => xcl (f_StringBuilder_toString O f x9 M7) fun x10 M8 => f_LRule_text_597 O f x3 x10 M8) else ((gJ O M3 m 16 5).bind fun x11 => if yw x11 = yw 2 then (xcl (nO M3 1) fun x12 M9 => xcl (f_StringBuilder_ctor O f x12 M9) fun _ M10 => (isO O M10 x12 1).bind fun _ => xcl (f_StringBuilder_append_256 O f x12 1000000056 M10) fun x14 M11 => (gJ O M11 m 16 6).bind fun x15 => (isO O M11 x14 1).bind fun _ => xcl (f_StringBuilder_append_285 O f x14 x15 M11) fun x16 M12 => (isO O M12 x16 1).bind fun _ => xcl (f_StringBuilder_toString O f x16 M12) fun x17 M13 => f_LRule_text_597 O f x3 x17 M13) else f_LRule_text_597 O f x3 1000000034 M3)), lE.gJ (j := 5) (by decide), iE]
  -- a word and the number
  have num : ∀ k : Nat, (k = 54 ∨ k = 56) → 0 ≤ iV M m 6 → iV M m 6 < 10000 → ∃ t N, (xcl (nO E 1) fun x5 M4 => xcl (f_StringBuilder_ctor O f x5 M4) fun _ M5 => (isO O M5 x5 1).bind fun _ => xcl (f_StringBuilder_append_256 O f x5 (1000000000 + k) M5) fun x7 M6 => (gJ O M6 m 16 6).bind fun x8 => (isO O M6 x7 1).bind fun _ => xcl (f_StringBuilder_append_285 O f x7 x8 M6) fun x9 M7 => (isO O M7 x9 1).bind fun _ => xcl (f_StringBuilder_toString O f x9 M7) fun x10 M8 => f_LRule_text_597 O f M.1 x10 M8) = some (t, N) ∧ SG O N t (L ++ (tq k ++ dgs (iV M m 6).toNat)) ∧ t + 1 < N.1 ∧ Ex M N ∧ N.1 ≤ M.1 + 20 ∧ N.2.1 ≤ M.2.1 + 6000 := by
    intro k hk n0 n1
    have sk := hO k (by rcases hk with rfl | rfl <;> decide) E
    have lk : (tq k).length ≤ 7 := by rcases hk with rfl | rfl <;> decide
    obtain ⟨A2, n2, G, eG, bG, aG, xG, q1, q2⟩ := sb_s (O := O) (f := f) (γ := Nat × xM) (by omega) sk (by omega)
    have lG := lE.ex xG (by omega)
    have iG := lE.iv xG
    obtain ⟨v, ev⟩ := Int.eq_ofNat_of_zero_le n0
    have g1 := xG.1
    obtain ⟨t, K, eK, sK, t0, t1, kK, w1, w2, w3⟩ := sb_finn (O := O) (f := f) (γ := Nat × xM) (v := v) hd bG (by omega) (by omega) hf
    have dl := dgs_len (v := v)
    have xK : Ex E K := ((xG.kq (P := fun a => a < E.1)).tr kK).ex (fun a q => q)
    have r := fin t (tq k ++ dgs v) K xK sK (by rw [List.length_append]; omega) (Or.inr (by omega)) (by omega) (by have := bG.2.2.1; omega)
    rw [show (iV M m 6).toNat = v by omega]
    rw [eG (B := fun x7 M6 => (gJ O M6 m 16 6).bind fun x8 => (isO O M6 x7 1).bind fun _ => xcl (f_StringBuilder_append_285 O f x7 x8 M6) fun x9 M7 => (isO O M7 x9 1).bind fun _ => xcl (f_StringBuilder_toString O f x9 M7) fun x10 M8 => f_LRule_text_597 O f M.1 x10 M8), lG.gJ (j := 6) (by decide), iG, iE, ev, eK (B := fun x10 M8 => f_LRule_text_597 O f M.1 x10 M8)]
    exact r
  by_cases c1 : iV M m 5 = 1
  · rw [eq_T c1]
    have e : txE (iV M m) = tq 54 ++ dgs (iV M m 6).toNat := if_pos c1
    rw [e]
    exact num 54 (Or.inl rfl) (by omega) (by omega)
  rw [eq_F c1 (by omega) (by omega) (by omega) (by omega), lE.gJ (j := 5) (by decide), iE]
  by_cases c2 : iV M m 5 = 2
  · rw [eq_T c2]
    have e : txE (iV M m) = tq 56 ++ dgs (iV M m 6).toNat := by
      unfold txE
      rw [if_neg c1, if_pos c2]
    rw [e]
    exact num 56 (Or.inr rfl) (by omega) (by omega)
  · rw [eq_F c2 (by omega) (by omega) (by omega) (by omega)]
    have e : txE (iV M m) = tq 34 := by
      unfold txE
      rw [if_neg c1, if_neg c2]
    rw [e]
    exact fin 1000000034 (tq 34) E Ex.rf (hO 34 (by decide) E) (by decide) (Or.inl (by omega)) (by omega) (by omega)
end LT1
end
/-! draft 691.ltext2 -/
section
/-! ===== the law's text of a rule: the place ===== -/
/-- the place's words: of a day of the month, of a day of a set -/
def txP3 (r : Nat → Int) : List Int := if 0 < r 4 then tq 34 ++ dgs (r 4).toNat else if r 4 = -1 then tq 50 else tq 52 ++ dgs (-r 4).toNat
def txP4 (r : Nat → Int) : List Int := if 0 < r 4 then tq (22 + 2 * (r 4).toNat) else if r 4 = -1 then tq 50 else tq 52 ++ dgs (-r 4).toNat
section LT2
variable {O : Nat → Option va_E} {f m v v5 s s0 s1 v2 v3 x A n : Nat} {M N : xM} {L L1 L2 LD : List Int} {γ : Type}
theorem LRp.kq {P : Nat → Prop} (h : LRp m M) (e : Kq P M N) : LRp m N := ⟨⟨h.1.1, Nat.lt_of_lt_of_le h.1.2 e.1⟩, by rw [e.2.1 m h.1.2]; exact h.2⟩
theorem LRp.ivq {P : Nat → Prop} (h : LRp m M) (e : Kq P M N) (p : P m) : iV N m = iV M m := funext (fun j => e.i h.1.2 p)
theorem tx_505 (hO : STo O) (hd : DGo O) (lr : LRp m M) (mx : m < x) (hv : LVr (iV M m)) (h : BB M x A n L) (hs : SG O M s1 L1) (sA : s1 + 1 ≠ A) (h3 : SG O M v3 LD) (vA : v3 + 1 ≠ A) (hl : L.length + L1.length + LD.length ≤ 130) (hM : M.1 ≤ 40000000) (hf : 10 ≤ f) (v3x : v3 + 1 < x ∨ 1000000000 ≤ v3) : ∃ t N, f_LRule_text_505 O f m v3 x s1 M = some (t, N) ∧ SG O N t (L ++ L1 ++ LD ++ txE (iV M m)) ∧ t + 1 < N.1 ∧ Kq (fun a => a < x) M N ∧ N.1 ≤ M.1 + 30 ∧ N.2.1 + 2 * n ≤ M.2.1 + 9000 := by
  have xA := h.2.1
  have l3 := h3.lt
  have a9 := h.1.2.2.2.2.2.1.1
  obtain ⟨A1, n1, E, eE, bE, rA, kE, e1, e2, e3⟩ := sb_app (O := O) (f := f) (γ := Nat × xM) h hs sA (by omega) (by omega)
  have b9 := bE.1.2.2.2.2.2.1.1
  have h3E : SG O E v3 LD := h3.kq kE (fun q => ⟨⟨by omega, by omega⟩, by omega, vA⟩)
  have ll : (L ++ L1).length = L.length + L1.length := List.length_append
  obtain ⟨t, G, eG, sG, t0, t1, kG, w1, w2, w3⟩ := sb_fin (O := O) (f := f) (γ := Nat × xM) bE h3E (by omega) (by omega)
  have kMG : Kq (fun a => a < x) M G := (kE.le (fun a q => by (try dsimp only at q ⊢); omega)).tr kG
  have lG := lr.kq kMG
  have iG := lr.ivq kMG mx
  have ll2 : (L ++ L1 ++ LD).length = L.length + L1.length + LD.length := by rw [List.length_append, List.length_append]
  obtain ⟨u, N, eN, sN, u1, xN, y1, y2⟩ := tx_517 (O := O) (f := f) hO hd lG (by rw [iG]; exact hv) sG (by omega) (by omega) hf
  rw [iG] at sN
  refine ⟨u, N, ?_, sN, u1, kMG.tr xN.kq, by omega, by omega⟩
  unfold f_LRule_text_505
  rw [eE (B := fun x1 M1 => (isO O M1 x1 1).bind fun _ => xcl (f_StringBuilder_append_256 O f x1 v3 M1) fun x2 M2 => (isO O M2 x2 1).bind fun _ => xcl (f_StringBuilder_toString O f x2 M2) fun x3 M3 => f_LRule_text_517 O f m x3 M3), eG (B := fun x3 M3 => f_LRule_text_517 O f m x3 M3), eN]
/-- the row of ordinals -/
def OrR (O : Nat → Option va_E) (v2 : Nat) (M : xM) : Prop := inM M v2 ∧ mS M v2 = .inr (11, 5) ∧ ∀ j : Nat, j < 5 → mR M v2 j = some (1000000024 + 2 * j)
theorem OrR.kq {P : Nat → Prop} (h : OrR O v2 M) (e : Kq P M N) (p : P v2) : OrR O v2 N := ⟨⟨h.1.1, Nat.lt_of_lt_of_le h.1.2 e.1⟩, by rw [e.2.1 v2 h.1.2]; exact h.2.1, fun j hj => by rw [(e.2.2 v2 h.1.2 p).2.2]; exact h.2.2 j hj⟩
/-- what 431 adds: the place of a day of a set, and the end -/
def tx431 (r : Nat → Int) (LD : List Int) : List Int := if r 1 = 4 then txP4 r ++ LD ++ txE r else txE r
theorem tx_431 (hO : STo O) (hd : DGo O) (lr : LRp m M) (hv : LVr (iV M m)) (ho : OrR O v2 M) (hs : SG O M v5 L) (h3 : SG O M v3 LD) (hl : L.length + LD.length ≤ 100) (hM : M.1 ≤ 30000000) (hf : 10 ≤ f) : ∃ t N, f_LRule_text_431 O f m v2 v3 v5 M = some (t, N) ∧ SG O N t (L ++ tx431 (iV M m) LD) ∧ t + 1 < N.1 ∧ Ex M N ∧ N.1 ≤ M.1 + 60 ∧ N.2.1 ≤ M.2.1 + 16000 := by
  have hv' := hv
  obtain ⟨-, ⟨k0, k5⟩, -, -, -, -, -, ⟨p0, p1⟩, -, p4, -, -⟩ := hv'
  unfold f_LRule_text_431
  rw [lr.gJ (j := 1) (by decide)]
  by_cases c4 : iV M m 1 = 4
  · have e4 : tx431 (iV M m) LD = txP4 (iV M m) ++ LD ++ txE (iV M m) := if_pos c4
    have q4 := p4 c4
    obtain ⟨A, n, E, eE, bE, aE, xE, e1, e2⟩ := sb_s (O := O) (f := f) (γ := Nat × xM) (by omega) hs (by omega)
    have lE := lr.ex xE (by omega)
    have iE := lr.iv xE
    have m1 := xE.1
    have mM := lr.1.2
    have l3 := h3.lt
    have xA : M.1 < A := bE.2.1
    have n6 := bE.2.2.1
    have a9 := bE.1.2.2.2.2.2.1.1
    have h3E := h3.ex xE
    -- the place told by a string
    have fin : ∀ (s1 : Nat) (L1 : List Int) (G : xM), Ex E G → SG O G s1 L1 → (1000000000 ≤ s1 ∨ E.1 ≤ s1) → L1.length ≤ 10 → G.1 ≤ E.1 + 6 → G.2.1 ≤ E.2.1 + 1700 → L1 = txP4 (iV M m) → ∃ t N, f_LRule_text_505 O f m v3 M.1 s1 G = some (t, N) ∧ SG O N t (L ++ tx431 (iV M m) LD) ∧ t + 1 < N.1 ∧ Ex M N ∧ N.1 ≤ M.1 + 60 ∧ N.2.1 ≤ M.2.1 + 16000 := by
      intro s1 L1 G xG sG s9 l1 g1 g2 eL
      have bG := bE.ex xG (by omega)
      have lG := lE.ex xG (by omega)
      have iG := lE.iv xG
      obtain ⟨t, N, eN, sN, t1, kN, w1, w2⟩ := tx_505 (O := O) (f := f) hO hd lG mM (by rw [iG, iE]; exact hv) bG sG (by omega) (h3E.ex xG) (by omega) (by omega) (by omega) hf (by omega)
      rw [iG, iE] at sN
      refine ⟨t, N, eN, ?_, t1, ((xE.tr xG).kq (P := fun a => a < M.1) |>.tr kN).ex (fun a q => q), by omega, by omega⟩
      rw [e4, ← eL, ← List.append_assoc, ← List.append_assoc]
      exact sN
    rw [eq_T c4, eE (B := fun x4 M3 => (gJ O M3 m 16 4).bind fun x5 => if yw x5 ≤ yw 0 then ((gJ O M3 m 16 4).bind fun x6 => if yw x6 = yw (-1) then f_LRule_text_505 O f m v3 x4 1000000050 M3 else (xcl (nO M3 1) fun x7 M4 => xcl (f_StringBuilder_ctor O f x7 M4) fun _ M5 => (isO O M5 x7 1).bind fun _ => xcl (f_StringBuilder_append_256 O f x7 1000000052 M5) fun x9 M6 => (gJ O M6 m 16 4).bind fun x10 => (isO O M6 x9 1).bind fun _ => xcl (f_StringBuilder_append_285 O f x9 (-x10) M6) fun x11 M7 => (isO O M7 x11 1).bind fun _ => xcl (f_StringBuilder_toString O f x11 M7) fun x12 M8 => f_LRule_text_505 O f m v3 x4 x12 M8)) else ((gJ O M3 m 16 4).bind fun x13 => (aJR O M3 v2 (x13 - 1)).bind fun x14 => f_LRule_text_505 O f m v3 x4 x14 M3)), lE.gJ (j := 4) (by decide), iE]
    by_cases cp : iV M m 4 ≤ 0
    · rw [le_T cp (by omega) (by omega), lE.gJ (j := 4) (by decide), iE]
      by_cases c1 : iV M m 4 = -1
      · rw [eq_T c1]
        refine fin 1000000050 (tq 50) E Ex.rf (hO 50 (by decide) E) (Or.inl (by omega)) (by decide) (by omega) (by omega) ?_
        unfold txP4
        rw [if_neg (by omega), if_pos c1]
      · rw [eq_F c1 (by omega) (by omega) (by omega) (by omega)]
        have sk := hO 52 (by decide) E
        obtain ⟨A2, n2, G, eG, bG, aG, xG, q1, q2⟩ := sb_s (O := O) (f := f) (γ := Nat × xM) (by omega) sk (by decide)
        have lG := lE.ex xG (by omega)
        have iG := lE.iv xG
        obtain ⟨v, ev⟩ := Int.eq_ofNat_of_zero_le (show 0 ≤ -iV M m 4 by omega)
        have g1 := xG.1
        obtain ⟨t, K, eK, sK, t0, t1, kK, w1, w2, w3⟩ := sb_finn (O := O) (f := f) (γ := Nat × xM) (v := v) hd bG (by omega) (by decide) hf
        have dl := dgs_len (v := v)
        have xK : Ex E K := ((xG.kq (P := fun a => a < E.1)).tr kK).ex (fun a q => q)
        have n62 := bG.2.2.1
        have r := fin t (tq 52 ++ dgs v) K xK sK (Or.inr (by omega)) (by rw [List.length_append]; show 4 + (dgs v).length ≤ 10; omega) (by omega) (by omega) (by
          unfold txP4
          rw [if_neg (by omega), if_neg c1, show (-iV M m 4).toNat = v by omega])
        rw [show (1000000052 : Nat) = 1000000000 + 52 from rfl, eG (B := fun x9 M6 => (gJ O M6 m 16 4).bind fun x10 => (isO O M6 x9 1).bind fun _ => xcl (f_StringBuilder_append_285 O f x9 (-x10) M6) fun x11 M7 => (isO O M7 x11 1).bind fun _ => xcl (f_StringBuilder_toString O f x11 M7) fun x12 M8 => f_LRule_text_505 O f m v3 M.1 x12 M8), lG.gJ (j := 4) (by decide), iG, iE, ev, eK (B := fun x12 M8 => f_LRule_text_505 O f m v3 M.1 x12 M8)]
        exact r
    · have hoE := ho.kq (P := fun _ => True) xE.kq trivial
      rw [le_F (by omega) (by omega) (by omega), lE.gJ (j := 4) (by decide), iE, z_aJR hoE.1 hoE.2.1 (by decide) (by omega) (by omega) (by omega) (hoE.2.2 _ (by omega))]
      have ek : 1000000024 + 2 * (iV M m 4 - 1).toNat = 1000000000 + (22 + 2 * (iV M m 4).toNat) := by omega
      have hk : (iV M m 4).toNat = 1 ∨ (iV M m 4).toNat = 2 ∨ (iV M m 4).toNat = 3 ∨ (iV M m 4).toNat = 4 ∨ (iV M m 4).toNat = 5 := by omega
      rw [ek]
      refine fin _ (tq (22 + 2 * (iV M m 4).toNat)) E Ex.rf (hO _ ?_ E) (Or.inl (by omega)) ?_ (by omega) (by omega) ?_
      · rcases hk with q | q | q | q | q <;> rw [q] <;> decide
      · rcases hk with q | q | q | q | q <;> rw [q] <;> decide
      · unfold txP4
        rw [if_pos (by omega)]
  · have e4 : tx431 (iV M m) LD = txE (iV M m) := if_neg c4
    rw [eq_F c4 (by omega) (by omega) (by omega) (by omega), e4]
    obtain ⟨t, N, eN, sN, t1, xN, w1, w2⟩ := tx_517 (O := O) (f := f) hO hd lr hv hs (by omega) (by omega) hf
    exact ⟨t, N, eN, sN, t1, xN, by omega, by omega⟩
end LT2
end
/-! draft 692.ltext3 -/
section
/-! ===== the law's text of a rule: a day of the month ===== -/
def tx333 (r : Nat → Int) (LD : List Int) : List Int := if r 1 = 3 then txP3 r ++ tx431 r LD else tx431 r LD
section LT3
variable {O : Nat → Option va_E} {f m v v5 s s0 s1 v2 v3 x A n : Nat} {M N : xM} {L L1 L2 LD : List Int} {γ : Type}
theorem tx_333 (hO : STo O) (hd : DGo O) (lr : LRp m M) (hv : LVr (iV M m)) (ho : OrR O v2 M) (hs : SG O M s0 L) (h3 : SG O M v3 LD) (hl : L.length + LD.length ≤ 80) (hM : M.1 ≤ 20000000) (hf : 10 ≤ f) : ∃ t N, f_LRule_text_333 O f m v2 v3 s0 M = some (t, N) ∧ SG O N t (L ++ tx333 (iV M m) LD) ∧ t + 1 < N.1 ∧ Ex M N ∧ N.1 ≤ M.1 + 80 ∧ N.2.1 ≤ M.2.1 + 22000 := by
  have hv' := hv
  obtain ⟨-, ⟨k0, k5⟩, -, -, -, -, -, ⟨p0, p1⟩, p3, -⟩ := hv'
  unfold f_LRule_text_333
  rw [lr.gJ (j := 1) (by decide)]
  by_cases c3 : iV M m 1 = 3
  · have e3 : tx333 (iV M m) LD = txP3 (iV M m) ++ tx431 (iV M m) LD := if_pos c3
    have q3 := p3 c3
    obtain ⟨A, n, E, eE, bE, aE, xE, e1, e2⟩ := sb_s (O := O) (f := f) (γ := Nat × xM) (by omega) hs (by omega)
    have lE := lr.ex xE (by omega)
    have iE := lr.iv xE
    have m1 := xE.1
    have mM := lr.1.2
    have xA : M.1 < A := bE.2.1
    have n6 := bE.2.2.1
    have a9 := bE.1.2.2.2.2.2.1.1
    -- the place told by a string
    have fin : ∀ (s1 : Nat) (L1 : List Int) (G : xM), Ex E G → SG O G s1 L1 → (1000000000 ≤ s1 ∨ E.1 ≤ s1) → L1.length ≤ 10 → G.1 ≤ E.1 + 6 → G.2.1 ≤ E.2.1 + 1700 → L1 = txP3 (iV M m) → ∃ t N, f_LRule_text_423 O f m v2 v3 M.1 s1 G = some (t, N) ∧ SG O N t (L ++ tx333 (iV M m) LD) ∧ t + 1 < N.1 ∧ Ex M N ∧ N.1 ≤ M.1 + 80 ∧ N.2.1 ≤ M.2.1 + 22000 := by
      intro s1 L1 G xG sG s9 l1 g1 g2 eL
      have bG := bE.ex xG (by omega)
      obtain ⟨u, K, eK, sK, u0, u1, kK, w1, w2, w3⟩ := sb_fin (O := O) (f := f) (γ := Nat × xM) bG sG (by omega) (by omega)
      have xK : Ex M K := ((xE.tr xG).kq (P := fun a => a < M.1) |>.tr kK).ex (fun a q => q)
      have lK := lr.ex xK (by omega)
      have iK := lr.iv xK
      obtain ⟨t, N, eN, sN, t1, xN, y1, y2⟩ := tx_431 (O := O) (f := f) hO hd lK (by rw [iK]; exact hv) (ho.kq (P := fun _ => True) xK.kq trivial) sK (h3.ex xK) (by rw [List.length_append]; omega) (by omega) hf
      rw [iK] at sN
      refine ⟨t, N, ?_, ?_, t1, xK.tr xN, by omega, by omega⟩
      · unfold f_LRule_text_423
        rw [eK (B := fun x2 M2 => f_LRule_text_431 O f m v2 v3 x2 M2), eN]
      · rw [e3, ← eL, ← List.append_assoc]
        exact sN
    -- a word and a number
    have num : ∀ (k : Nat) (y : Int), (k = 34 ∨ k = 52) → 0 ≤ y → y ≤ 31 → tq k ++ dgs y.toNat = txP3 (iV M m) → ∃ A2 n2 G t K, (∀ {B : Nat → xM → Option (Nat × xM)}, (xcl (nO E 1) fun x1 M1 => xcl (f_StringBuilder_ctor O f x1 M1) fun _ M2 => (isO O M2 x1 1).bind fun _ => xcl (f_StringBuilder_append_256 O f x1 (1000000000 + k) M2) fun x3 M3 => B x3 M3) = B E.1 G) ∧ LRp m G ∧ iV G m = iV M m ∧ BB G E.1 A2 n2 (tq k) ∧ (∀ {B : Nat → xM → Option (Nat × xM)}, ((isO O G E.1 1).bind fun _ => xcl (f_StringBuilder_append_285 O f E.1 y G) fun x1 M1 => (isO O M1 x1 1).bind fun _ => xcl (f_StringBuilder_toString O f x1 M1) fun x2 M2 => B x2 M2) = B t K) ∧ ∃ t2 N, f_LRule_text_423 O f m v2 v3 M.1 t K = some (t2, N) ∧ SG O N t2 (L ++ tx333 (iV M m) LD) ∧ t2 + 1 < N.1 ∧ Ex M N ∧ N.1 ≤ M.1 + 80 ∧ N.2.1 ≤ M.2.1 + 22000 := by
      intro k y hk y0 y1 ey
      have sk := hO k (by rcases hk with rfl | rfl <;> decide) E
      have lk : (tq k).length ≤ 4 := by rcases hk with rfl | rfl <;> decide
      obtain ⟨A2, n2, G, eG, bG, aG, xG, q1, q2⟩ := sb_s (O := O) (f := f) (γ := Nat × xM) (by omega) sk (by omega)
      have lG := lE.ex xG (by omega)
      have iG := lE.iv xG
      obtain ⟨v, ev⟩ := Int.eq_ofNat_of_zero_le y0
      have g1 := xG.1
      obtain ⟨t, K, eK, sK, t0, t1, kK, w1, w2, w3⟩ := sb_finn (O := O) (f := f) (γ := Nat × xM) (v := v) hd bG (by omega) (by omega) hf
      have dl := dgs_len (v := v)
      have xK : Ex E K := ((xG.kq (P := fun a => a < E.1)).tr kK).ex (fun a q => q)
      have n62 := bG.2.2.1
      have r := fin t (tq k ++ dgs v) K xK sK (Or.inr (by omega)) (by rw [List.length_append]; omega) (by omega) (by omega) (by rw [← ey, show y.toNat = v by omega])
      exact ⟨A2, n2, G, t, K, eG, lG, by rw [iG, iE], bG, by rw [ev]; exact eK, r⟩
    rw [eq_T c3, eE (B := fun x4 M3 => (gJ O M3 m 16 4).bind fun x5 => if yw x5 ≤ yw 0 then ((gJ O M3 m 16 4).bind fun x6 => if yw x6 = yw (-1) then f_LRule_text_423 O f m v2 v3 x4 1000000050 M3 else (xcl (nO M3 1) fun x7 M4 => xcl (f_StringBuilder_ctor O f x7 M4) fun _ M5 => (isO O M5 x7 1).bind fun _ => xcl (f_StringBuilder_append_256 O f x7 1000000052 M5) fun x9 M6 => (gJ O M6 m 16 4).bind fun x10 => (isO O M6 x9 1).bind fun _ => xcl (f_StringBuilder_append_285 O f x9 (-x10) M6) fun x11 M7 => (isO O M7 x11 1).bind fun _ => xcl (f_StringBuilder_toString O f x11 M7) fun x12 M8 => f_LRule_text_423 O f m v2 v3 x4 x12 M8)) else (xcl (nO M3 1) fun x13 M9 => xcl (f_StringBuilder_ctor O f x13 M9) fun _ M10 => (isO O M10 x13 1).bind fun _ => xcl (f_StringBuilder_append_256 O f x13 1000000034 M10) fun x15 M11 => (gJ O M11 m 16 4).bind fun x16 => (isO O M11 x15 1).bind fun _ => xcl (f_StringBuilder_append_285 O f x15 x16 M11) fun x17 M12 => (isO O M12 x17 1).bind fun _ => xcl (f_StringBuilder_toString O f x17 M12) fun x18 M13 => f_LRule_text_423 O f m v2 v3 x4 x18 M13)), lE.gJ (j := 4) (by decide), iE]
    by_cases cp : iV M m 4 ≤ 0
    · rw [le_T cp (by omega) (by omega), lE.gJ (j := 4) (by decide), iE]
      by_cases c1 : iV M m 4 = -1
      · rw [eq_T c1]
        refine fin 1000000050 (tq 50) E Ex.rf (hO 50 (by decide) E) (Or.inl (by omega)) (by decide) (by omega) (by omega) ?_
        unfold txP3
        rw [if_neg (by omega), if_pos c1]
      · obtain ⟨A2, n2, G, t, K, eG, lG, iG, bG, eK, r⟩ := num 52 (-iV M m 4) (Or.inr rfl) (by omega) (by omega) (by
          unfold txP3
          rw [if_neg (by omega), if_neg c1])
        rw [eq_F c1 (by omega) (by omega) (by omega) (by omega), show (1000000052 : Nat) = 1000000000 + 52 from rfl, eG (B := fun x9 M6 => (gJ O M6 m 16 4).bind fun x10 => (isO O M6 x9 1).bind fun _ => xcl (f_StringBuilder_append_285 O f x9 (-x10) M6) fun x11 M7 => (isO O M7 x11 1).bind fun _ => xcl (f_StringBuilder_toString O f x11 M7) fun x12 M8 => f_LRule_text_423 O f m v2 v3 M.1 x12 M8), lG.gJ (j := 4) (by decide), iG, eK (B := fun x12 M8 => f_LRule_text_423 O f m v2 v3 M.1 x12 M8)]
        exact r
    · obtain ⟨A2, n2, G, t, K, eG, lG, iG, bG, eK, r⟩ := num 34 (iV M m 4) (Or.inl rfl) (by omega) (by omega) (by
        unfold txP3
        rw [if_pos (by omega)])
      rw [le_F (by omega) (by omega) (by omega), show (1000000034 : Nat) = 1000000000 + 34 from rfl, eG (B := fun x15 M11 => (gJ O M11 m 16 4).bind fun x16 => (isO O M11 x15 1).bind fun _ => xcl (f_StringBuilder_append_285 O f x15 x16 M11) fun x17 M12 => (isO O M12 x17 1).bind fun _ => xcl (f_StringBuilder_toString O f x17 M12) fun x18 M13 => f_LRule_text_423 O f m v2 v3 M.1 x18 M13), lG.gJ (j := 4) (by decide), iG, eK (B := fun x18 M13 => f_LRule_text_423 O f m v2 v3 M.1 x18 M13)]
      exact r
  · have e4 : tx333 (iV M m) LD = tx431 (iV M m) LD := if_neg c3
    rw [eq_F c3 (by omega) (by omega) (by omega) (by omega), e4]
    obtain ⟨t, N, eN, sN, t1, xN, w1, w2⟩ := tx_431 (O := O) (f := f) hO hd lr hv ho hs h3 (by omega) (by omega) hf
    exact ⟨t, N, eN, sN, t1, xN, by omega, by omega⟩
end LT3
end
/-! draft 693.ltext4 -/
section
/-! ===== the law's text of a rule: what repeats ===== -/
def tx196 (r : Nat → Int) (LS LD : List Int) : List Int := (if r 1 = 0 then tq 40 else if r 1 = 1 then LS ++ tq 42 else if r 1 = 2 then LS ++ tq 44 ++ LD else if r 1 = 5 then LS ++ tq 46 else LS ++ tq 48) ++ tx333 r LD
section LT4
variable {O : Nat → Option va_E} {f m v v5 s s0 s1 v2 v3 x A n : Nat} {M N : xM} {L L1 L2 LD : List Int} {γ : Type}
/-- three strings -/
theorem sb_three {s2 s3 : Nat} {L3 : List Int} (hM : M.1 ≤ 90000000) (hs : SG O M s L) (hs2 : SG O M s2 L2) (hs3 : SG O M s3 L3) (hl : L.length + L2.length + L3.length ≤ 250) : ∃ t N, (∀ {B : Nat → xM → Option γ}, (xcl (nO M 1) fun x1 M1 => xcl (f_StringBuilder_ctor O f x1 M1) fun _ M2 => (isO O M2 x1 1).bind fun _ => xcl (f_StringBuilder_append_256 O f x1 s M2) fun x3 M3 => (isO O M3 x3 1).bind fun _ => xcl (f_StringBuilder_append_256 O f x3 s2 M3) fun x4 M4 => (isO O M4 x4 1).bind fun _ => xcl (f_StringBuilder_append_256 O f x4 s3 M4) fun x5 M5 => (isO O M5 x5 1).bind fun _ => xcl (f_StringBuilder_toString O f x5 M5) fun x6 M6 => B x6 M6) = B t N) ∧ SG O N t (L ++ L2 ++ L3) ∧ t + 1 < N.1 ∧ M.1 ≤ t ∧ Ex M N ∧ N.1 ≤ M.1 + 8 ∧ N.2.1 ≤ M.2.1 + 3000 := by
  obtain ⟨A, n, E, eE, bE, aE, xE, e1, e2⟩ := sb_s (O := O) (f := f) (γ := γ) (by omega) hs (by omega)
  have l2 := hs2.lt
  have l3 := hs3.lt
  have m1 := xE.1
  have aM : M.1 < A := bE.2.1
  have a9 := bE.1.2.2.2.2.2.1.1
  obtain ⟨A', n', G, eG, bG, rA, kG, g1, g2, g3⟩ := sb_app (O := O) (f := f) (γ := γ) bE (hs2.ex xE) (by omega) (by omega) (by omega)
  have b9 := bG.1.2.2.2.2.2.1.1
  have hn := bE.2.2.1
  have hn' := bG.2.2.1
  have s3G : SG O G s3 L3 := (hs3.ex xE).kq kG (fun q => ⟨⟨by omega, by omega⟩, by omega, by omega⟩)
  have ll : (L ++ L2).length = L.length + L2.length := List.length_append
  obtain ⟨t, N, eN, sN, t0, t1, kN, n1, n2, n3⟩ := sb_fin (O := O) (f := f) (γ := γ) bG s3G (by omega) (by omega)
  refine ⟨t, N, fun {B} => ?_, sN, t1, by omega, (((xE.kq (P := fun a => a < M.1)).tr (kG.le (fun a q => by (try dsimp only at q ⊢); omega))).tr kN).ex (fun a q => q), by omega, by omega⟩
  rw [eE (B := fun x3 M3 => (isO O M3 x3 1).bind fun _ => xcl (f_StringBuilder_append_256 O f x3 s2 M3) fun x4 M4 => (isO O M4 x4 1).bind fun _ => xcl (f_StringBuilder_append_256 O f x4 s3 M4) fun x5 M5 => (isO O M5 x5 1).bind fun _ => xcl (f_StringBuilder_toString O f x5 M5) fun x6 M6 => B x6 M6), eG (B := fun x4 M4 => (isO O M4 x4 1).bind fun _ => xcl (f_StringBuilder_append_256 O f x4 s3 M4) fun x5 M5 => (isO O M5 x5 1).bind fun _ => xcl (f_StringBuilder_toString O f x5 M5) fun x6 M6 => B x6 M6), eN]
theorem tx_196 (hO : STo O) (hd : DGo O) (lr : LRp m M) (mx : m < x) (hv : LVr (iV M m)) (ho : OrR O v2 M) (v2x : v2 < x) (h : BB M x A n L) (hs : SG O M s1 L1) (sA : s1 + 1 ≠ A) (h3 : SG O M v3 LD) (v3x : v3 + 1 < x ∨ 1000000000 ≤ v3) (hl : L.length + L1.length ≤ 15) (hl2 : LD.length ≤ 25) (hM : M.1 ≤ 10000000) (hf : 10 ≤ f) : ∃ t N, f_LRule_text_196 O f m v2 v3 x s1 M = some (t, N) ∧ SG O N t (tx196 (iV M m) (L ++ L1) LD) ∧ t + 1 < N.1 ∧ Kq (fun a => a < x) M N ∧ N.1 ≤ M.1 + 100 ∧ N.2.1 ≤ M.2.1 + 30000 := by
  have hv' := hv
  obtain ⟨-, ⟨k0, k5⟩, -⟩ := hv'
  obtain ⟨u, E, eE, sE, u0, u1, kE, w1, w2, w3⟩ := sb_fin (O := O) (f := f) (γ := Nat × xM) h hs sA (by omega)
  have ll : (L ++ L1).length = L.length + L1.length := List.length_append
  have lE := lr.kq kE
  have iE := lr.ivq kE mx
  have oE := ho.kq kE v2x
  have h3E : SG O E v3 LD := h3.kq kE (fun q => ⟨by (try dsimp only); omega, by (try dsimp only); omega⟩)
  -- what follows the words
  have fin : ∀ (s2 : Nat) (L2 : List Int) (G : xM), Ex E G → SG O G s2 L2 → L2.length ≤ 60 → L2.length + LD.length ≤ 80 → G.1 ≤ E.1 + 8 → G.2.1 ≤ E.2.1 + 3000 → L2 ++ tx333 (iV M m) LD = tx196 (iV M m) (L ++ L1) LD → ∃ t N, f_LRule_text_333 O f m v2 v3 s2 G = some (t, N) ∧ SG O N t (tx196 (iV M m) (L ++ L1) LD) ∧ t + 1 < N.1 ∧ Kq (fun a => a < x) M N ∧ N.1 ≤ M.1 + 100 ∧ N.2.1 ≤ M.2.1 + 30000 := by
    intro s2 L2 G xG sG l2 l3 g1 g2 eL
    have lG := lE.ex xG (by omega)
    have iG := lE.iv xG
    obtain ⟨t, N, eN, sN, t1, xN, y1, y2⟩ := tx_333 (O := O) (f := f) hO hd lG (by rw [iG, iE]; exact hv) (oE.kq (P := fun _ => True) xG.kq trivial) sG (h3E.ex xG) (by omega) (by omega) hf
    rw [iG, iE, eL] at sN
    exact ⟨t, N, eN, sN, t1, (kE.tr xG.kq).tr xN.kq, by omega, by omega⟩
  unfold f_LRule_text_196
  rw [eE (B := fun x2 M2 => (gJ O M2 m 16 1).bind fun x3 => if yw x3 = yw 0 then f_LRule_text_333 O f m v2 v3 1000000040 M2 else ((gJ O M2 m 16 1).bind fun x4 => if yw x4 = yw 1 then (xcl (nO M2 1) fun x5 M3 => xcl (f_StringBuilder_ctor O f x5 M3) fun _ M4 => (isO O M4 x5 1).bind fun _ => xcl (f_StringBuilder_append_256 O f x5 x2 M4) fun x7 M5 => (isO O M5 x7 1).bind fun _ => xcl (f_StringBuilder_append_256 O f x7 1000000042 M5) fun x8 M6 => (isO O M6 x8 1).bind fun _ => xcl (f_StringBuilder_toString O f x8 M6) fun x9 M7 => f_LRule_text_333 O f m v2 v3 x9 M7) else ((gJ O M2 m 16 1).bind fun x10 => if yw x10 = yw 2 then (xcl (nO M2 1) fun x11 M8 => xcl (f_StringBuilder_ctor O f x11 M8) fun _ M9 => (isO O M9 x11 1).bind fun _ => xcl (f_StringBuilder_append_256 O f x11 x2 M9) fun x13 M10 => (isO O M10 x13 1).bind fun _ => xcl (f_StringBuilder_append_256 O f x13 1000000044 M10) fun x14 M11 => (isO O M11 x14 1).bind fun _ => xcl (f_StringBuilder_append_256 O f x14 v3 M11) fun x15 M12 => (isO O M12 x15 1).bind fun _ => xcl (f_StringBuilder_toString O f x15 M12) fun x16 M13 => f_LRule_text_333 O f m v2 v3 x16 M13) else ((gJ O M2 m 16 1).bind fun x17 => if yw x17 = yw 5 then (xcl (nO M2 1) fun x18 M14 => xcl (f_StringBuilder_ctor O f x18 M14) fun _ M15 => (isO O M15 x18 1).bind fun _ => xcl (f_StringBuilder_append_256 O f x18 x2 M15) fun x20 M16 => (isO O M16 x20 1).bind fun _ => xcl (f_StringBuilder_append_256 O f x20 1000000046 M16) fun x21 M17 => (isO O M17 x21 1).bind fun _ => xcl (f_StringBuilder_toString O f x21 M17) fun x22 M18 => f_LRule_text_333 O f m v2 v3 x22 M18) else (xcl (nO M2 1) fun x23 M19 => xcl (f_StringBuilder_ctor O f x23 M19) fun _ M20 => (isO O M20 x23 1).bind fun _ => xcl (f_StringBuilder_append_256 O f x23 x2 M20) fun x25 M21 => (isO O M21 x25 1).bind fun _ => xcl (f_StringBuilder_append_256 O f x25 1000000048 M21) fun x26 M22 => (isO O M22 x26 1).bind fun _ => xcl (f_StringBuilder_toString O f x26 M22) fun x27 M23 => f_LRule_text_333 O f m v2 v3 x27 M23))))), lE.gJ (j := 1) (by decide), iE]
  -- two strings
  have two : ∀ k : Nat, (k = 42 ∨ k = 46 ∨ k = 48) → (L ++ L1) ++ tq k ++ tx333 (iV M m) LD = tx196 (iV M m) (L ++ L1) LD → ∃ t N, (xcl (nO E 1) fun x5 M3 => xcl (f_StringBuilder_ctor O f x5 M3) fun _ M4 => (isO O M4 x5 1).bind fun _ => xcl (f_StringBuilder_append_256 O f x5 u M4) fun x7 M5 => (isO O M5 x7 1).bind fun _ => xcl (f_StringBuilder_append_256 O f x7 (1000000000 + k) M5) fun x8 M6 => (isO O M6 x8 1).bind fun _ => xcl (f_StringBuilder_toString O f x8 M6) fun x9 M7 => f_LRule_text_333 O f m v2 v3 x9 M7) = some (t, N) ∧ SG O N t (tx196 (iV M m) (L ++ L1) LD) ∧ t + 1 < N.1 ∧ Kq (fun a => a < x) M N ∧ N.1 ≤ M.1 + 100 ∧ N.2.1 ≤ M.2.1 + 30000 := by
    intro k hk ek
    have lk : (tq k).length ≤ 10 := by rcases hk with rfl | rfl | rfl <;> decide
    have sk := hO k (by rcases hk with rfl | rfl | rfl <;> decide) E
    obtain ⟨t, G, eG, sG, t1, t0, xG, g1, g2⟩ := sb_two (O := O) (f := f) (γ := Nat × xM) (by omega) sE sk (by omega)
    have la : (L ++ L1 ++ tq k).length = (L ++ L1).length + (tq k).length := List.length_append
    obtain ⟨t2, N, r1, r2⟩ := fin t (L ++ L1 ++ tq k) G xG sG (by omega) (by omega) (by omega) (by omega) ek
    refine ⟨t2, N, ?_, r2⟩
    rw [eG (B := fun x9 M7 => f_LRule_text_333 O f m v2 v3 x9 M7)]
    exact r1
  by_cases c0 : iV M m 1 = 0
  · rw [eq_T c0]
    exact fin 1000000040 (tq 40) E Ex.rf (hO 40 (by decide) E) (by decide) (by show 4 + LD.length ≤ 80; omega) (by omega) (by omega) (by unfold tx196; rw [if_pos c0])
  rw [eq_F c0 (by omega) (by omega) (by omega) (by omega), lE.gJ (j := 1) (by decide), iE]
  by_cases c1 : iV M m 1 = 1
  · rw [eq_T c1]
    exact two 42 (Or.inl rfl) (by unfold tx196; rw [if_neg c0, if_pos c1])
  rw [eq_F c1 (by omega) (by omega) (by omega) (by omega), lE.gJ (j := 1) (by decide), iE]
  by_cases c2 : iV M m 1 = 2
  · have sk := hO 44 (by decide) E
    obtain ⟨t, G, eG, sG, t1, t0, xG, g1, g2⟩ := sb_three (O := O) (f := f) (γ := Nat × xM) (by omega) sE sk h3E (by rw [ll]; show L.length + L1.length + 8 + LD.length ≤ 250; omega)
    have la : (L ++ L1 ++ tq 44 ++ LD).length = L.length + L1.length + 8 + LD.length := by
      rw [List.length_append, List.length_append, ll]
      rfl
    obtain ⟨t2, N, r1, r2⟩ := fin t (L ++ L1 ++ tq 44 ++ LD) G xG sG (by omega) (by omega) (by omega) (by omega) (by unfold tx196; rw [if_neg c0, if_neg c1, if_pos c2])
    rw [eq_T c2, show (1000000044 : Nat) = 1000000000 + 44 from rfl, eG (B := fun x16 M13 => f_LRule_text_333 O f m v2 v3 x16 M13)]
    exact ⟨t2, N, r1, r2⟩
  rw [eq_F c2 (by omega) (by omega) (by omega) (by omega), lE.gJ (j := 1) (by decide), iE]
  by_cases c5 : iV M m 1 = 5
  · rw [eq_T c5]
    exact two 46 (Or.inr (Or.inl rfl)) (by unfold tx196; rw [if_neg c0, if_neg c1, if_neg c2, if_pos c5])
  · rw [eq_F c5 (by omega) (by omega) (by omega) (by omega)]
    exact two 48 (Or.inr (Or.inr rfl)) (by unfold tx196; rw [if_neg c0, if_neg c1, if_neg c2, if_neg c5])
end LT4
end
/-! draft 694.ltext5 -/
section
/-! ===== the law's text of a rule ===== -/
/-- the weekdays' words -/
def txD (S : Int) : Nat → List Int
  | 0 => tq 34
  | n + 1 => txD S n ++ (if bitz S (n : Int) = 1 then tq 36 ++ tq (10 + 2 * n) else tq 34)
/-- the step's words -/
def txS (r : Nat → Int) : List Int := if r 2 ≤ 1 then tq 34 else dgs (r 2).toNat ++ tq 36
/-- a rule's text -/
def txR (r : Nat → Int) : List Int := tx196 r (tq 38 ++ txS r) (txD (r 3) 7)
section LT5
variable {O : Nat → Option va_E} {f m v v5 s s0 s1 v1 v2 v3 x A n : Nat} {M N : xM} {L L1 L2 LD : List Int} {γ : Type}
theorem txD_len {S : Int} : ∀ n, n ≤ 7 → (txD S n).length ≤ 3 * n
  | 0, _ => by show (0 : Nat) ≤ 0; omega
  | n + 1, h => by
    have ih := txD_len (S := S) n (by omega)
    have q : ∀ k, k < 7 → (tq 36 ++ tq (10 + 2 * k)).length = 3 := by decide
    unfold txD
    rw [List.length_append]
    split
    · rw [q n (by omega)]
      omega
    · show _ + 0 ≤ _
      omega
/-- the row of names -/
def NmR (v1 : Nat) (M : xM) : Prop := inM M v1 ∧ mS M v1 = .inr (11, 7) ∧ ∀ j : Nat, j < 7 → mR M v1 j = some (1000000010 + 2 * j)
theorem NmR.kq {P : Nat → Prop} (h : NmR v1 M) (e : Kq P M N) (p : P v1) : NmR v1 N := ⟨⟨h.1.1, Nat.lt_of_lt_of_le h.1.2 e.1⟩, by rw [e.2.1 v1 h.1.2]; exact h.2.1, fun j hj => by rw [(e.2.2 v1 h.1.2 p).2.2]; exact h.2.2 j hj⟩
theorem tx_78 (hO : STo O) (hd : DGo O) (hf : 10 ≤ f) : ∀ (r t j v3 : Nat) (M : xM), LRp m M → LVr (iV M m) → NmR v1 M → OrR O v2 M → SG O M v3 (txD (iV M m 3) j) → j + r = 7 → r < t → M.1 + 20 * r ≤ 9000000 → ∃ u N, f_LRule_text_78 O f t m v1 v2 v3 (j : Int) M = some (u, N) ∧ SG O N u (txR (iV M m)) ∧ u + 1 < N.1 ∧ Ex M N ∧ N.1 ≤ M.1 + 20 * r + 120 ∧ N.2.1 ≤ M.2.1 + 3500 * r + 35000 := by
  intro r
  induction r with
  | zero =>
    intro t j v3 M lr hv hn ho hs hj ht hM
    obtain ⟨t, rfl⟩ : ∃ n', t = n' + 1 := ⟨t - 1, by omega⟩
    obtain rfl : j = 7 := by omega
    have dl := txD_len (S := iV M m 3) 7 (by omega)
    have hv' := hv
    obtain ⟨-, ⟨k0, k5⟩, st, s0, -⟩ := hv'
    have r2 := iV_r M m 2
    have l3 := hs.lt
    have mM := lr.1.2
    have oM := ho.1.2
    obtain ⟨A, n, E, eE, bE, aE, xE, e1, e2⟩ := sb_s (O := O) (f := f) (γ := Nat × xM) (by omega) (hO 38 (by decide) M) (by decide)
    have lE := lr.ex xE (by omega)
    have iE := lr.iv xE
    have m1 := xE.1
    have xA : M.1 < A := bE.2.1
    have n6 := bE.2.2.1
    have a9 := bE.1.2.2.2.2.2.1.1
    -- the step told by a string
    have fin : ∀ (s1 : Nat) (L1 : List Int) (G : xM), Ex E G → SG O G s1 L1 → (1000000000 ≤ s1 ∨ E.1 ≤ s1) → L1.length ≤ 5 → G.1 ≤ E.1 + 10 → G.2.1 ≤ E.2.1 + 2500 → L1 = txS (iV M m) → ∃ u N, f_LRule_text_196 O f m v2 v3 M.1 s1 G = some (u, N) ∧ SG O N u (txR (iV M m)) ∧ u + 1 < N.1 ∧ Ex M N ∧ N.1 ≤ M.1 + 20 * 0 + 120 ∧ N.2.1 ≤ M.2.1 + 3500 * 0 + 35000 := by
      intro s1 L1 G xG sG s9 l1 g1 g2 eL
      have bG := bE.ex xG (by omega)
      have lG := lE.ex xG (by omega)
      have iG := lE.iv xG
      obtain ⟨u, N, eN, sN, u1, kN, w1, w2⟩ := tx_196 (O := O) (f := f) hO hd lG mM (by rw [iG, iE]; exact hv) (ho.kq (P := fun _ => True) (xE.tr xG).kq trivial) oM bG sG (by omega) (hs.ex (xE.tr xG)) (by omega) (by show 6 + L1.length ≤ 15; omega) (by omega) (by omega) hf
      rw [iG, iE, eL] at sN
      exact ⟨u, N, eN, sN, u1, ((xE.tr xG).kq (P := fun a => a < M.1) |>.tr kN).ex (fun a q => q), by omega, by omega⟩
    show ∃ u N, (if yw 7 ≤ yw (((7 : Nat)) : Int) then _ else _) = _ ∧ _
    rw [le_T (by omega) (by omega) (by omega), show (1000000038 : Nat) = 1000000000 + 38 from rfl, eE (B := fun x3 M3 => (gJ O M3 m 16 2).bind fun x4 => if yw x4 ≤ yw 1 then f_LRule_text_196 O f m v2 v3 x3 1000000034 M3 else (xcl (nO M3 1) fun x5 M4 => xcl (f_StringBuilder_ctor O f x5 M4) fun _ M5 => (gJ O M5 m 16 2).bind fun x7 => (isO O M5 x5 1).bind fun _ => xcl (f_StringBuilder_append_285 O f x5 x7 M5) fun x8 M6 => (isO O M6 x8 1).bind fun _ => xcl (f_StringBuilder_append_256 O f x8 1000000036 M6) fun x9 M7 => (isO O M7 x9 1).bind fun _ => xcl (f_StringBuilder_toString O f x9 M7) fun x10 M8 => f_LRule_text_196 O f m v2 v3 x3 x10 M8)), lE.gJ (j := 2) (by decide), iE]
    by_cases c : iV M m 2 ≤ 1
    · rw [le_T c (by omega) (by omega)]
      exact fin 1000000034 (tq 34) E Ex.rf (hO 34 (by decide) E) (Or.inl (by omega)) (by decide) (by omega) (by omega) (by unfold txS; rw [if_pos c])
    · have stb : iV M m 2 ≤ 20 := by
        by_cases z : iV M m 1 = 0
        · have := s0 z
          omega
        · exact (st z).2
      obtain ⟨G, eG, bG, kG, G1, G2⟩ := sb_new (O := O) (f := f) (γ := Nat × xM) (M := E) (by omega)
      obtain ⟨v, ev⟩ := Int.eq_ofNat_of_zero_le (show 0 ≤ iV M m 2 by omega)
      have lG : LRp m G := lE.kq kG.kq
      have iG : iV G m = iV E m := lE.ivq kG.kq trivial
      obtain ⟨A', n', K, eK, bK, n6', kK, rA, k1, k2, k3, k4⟩ := api_ok (O := O) (f := f) (v := v) hd bG (by omega) (by omega) (by omega) (by show (0 : Nat) ≤ 200; omega) hf
      have bb : BB K E.1 A' n' ([] ++ dgs v) := ⟨bK, by omega, by omega, by omega⟩
      have dl2 := dgs_len (v := v)
      have b9 := bK.2.2.2.2.2.1.1
      obtain ⟨u, R, eR, sR, u0, u1, kR, w1, w2, w3⟩ := sb_fin (O := O) (f := f) (γ := Nat × xM) bb (hO 36 (by decide) K) (by omega) (by show (dgs v).length + 1 ≤ 250; omega)
      have xR : Ex E R := (((kG.kq (P := fun _ => True)).le (Q := fun a => a < E.1) (fun a _ => trivial)).tr ((kK.le (fun a q => by (try dsimp only at q ⊢); omega)).tr kR)).ex (fun a q => q)
      have r := fin u (dgs v ++ tq 36) R xR sR (Or.inr (by omega)) (by rw [List.length_append]; show (dgs v).length + 1 ≤ 5; omega) (by omega) (by omega) (by unfold txS; rw [if_neg c, show (iV M m 2).toNat = v by omega])
      rw [le_F (by omega) (by omega) (by omega), eG (B := fun x5 M5 => (gJ O M5 m 16 2).bind fun x7 => (isO O M5 x5 1).bind fun _ => xcl (f_StringBuilder_append_285 O f x5 x7 M5) fun x8 M6 => (isO O M6 x8 1).bind fun _ => xcl (f_StringBuilder_append_256 O f x8 1000000036 M6) fun x9 M7 => (isO O M7 x9 1).bind fun _ => xcl (f_StringBuilder_toString O f x9 M7) fun x10 M8 => f_LRule_text_196 O f m v2 v3 M.1 x10 M8), lG.gJ (j := 2) (by decide), iG, iE, ev, bG.is, eK, xcl_e, show (1000000036 : Nat) = 1000000000 + 36 from rfl, eR (B := fun x10 M8 => f_LRule_text_196 O f m v2 v3 M.1 x10 M8)]
      exact r
  | succ r ih =>
    intro t j v3 M lr hv hn ho hs hj ht hM
    obtain ⟨t, rfl⟩ : ∃ n', t = n' + 1 := ⟨t - 1, by omega⟩
    have dl := txD_len (S := iV M m 3) j (by omega)
    have s3 := hv.2.2.2.2.1
    obtain ⟨A, n, E, eE, bE, aE, xE, e1, e2⟩ := sb_s (O := O) (f := f) (γ := Nat × xM) (by omega) hs (by omega)
    have lE := lr.ex xE (by omega)
    have iE := lr.iv xE
    have m1 := xE.1
    have xA : M.1 < A := bE.2.1
    have n6 := bE.2.2.1
    have a9 := bE.1.2.2.2.2.2.1.1
    have stp : txD (iV M m 3) (j + 1) = txD (iV M m 3) j ++ (if bitz (iV M m 3) (j : Int) = 1 then tq 36 ++ tq (10 + 2 * j) else tq 34) := rfl
    have fin : ∀ (s1 : Nat) (L1 : List Int) (G : xM), Ex E G → SG O G s1 L1 → (1000000000 ≤ s1 ∨ E.1 ≤ s1) → L1.length ≤ 5 → G.1 ≤ E.1 + 6 → G.2.1 ≤ E.2.1 + 1700 → L1 = (if bitz (iV M m 3) (j : Int) = 1 then tq 36 ++ tq (10 + 2 * j) else tq 34) → ∃ u N, f_LRule_text_136 O f (f_LRule_text_78 O f t) m v1 v2 (j : Int) M.1 s1 G = some (u, N) ∧ SG O N u (txR (iV M m)) ∧ u + 1 < N.1 ∧ Ex M N ∧ N.1 ≤ M.1 + 20 * (r + 1) + 120 ∧ N.2.1 ≤ M.2.1 + 3500 * (r + 1) + 35000 := by
      intro s1 L1 G xG sG s9 l1 g1 g2 eL
      have bG := bE.ex xG (by omega)
      obtain ⟨u, K, eK, sK, u0, u1, kK, w1, w2, w3⟩ := sb_fin (O := O) (f := f) (γ := Nat × xM) bG sG (by omega) (by omega)
      have xK : Ex M K := ((xE.tr xG).kq (P := fun a => a < M.1) |>.tr kK).ex (fun a q => q)
      have lK := lr.ex xK (by omega)
      have iK := lr.iv xK
      rw [eL, ← stp, ← iK] at sK
      obtain ⟨y, N, eN, sN, y1, xN, q1, q2⟩ := ih t (j + 1) u K lK (by rw [iK]; exact hv) (hn.kq (P := fun _ => True) xK.kq trivial) (ho.kq (P := fun _ => True) xK.kq trivial) sK (by omega) (by omega) (by omega)
      rw [iK] at sN
      refine ⟨y, N, ?_, sN, y1, xK.tr xN, by omega, by omega⟩
      unfold f_LRule_text_136
      rw [eK (B := fun x2 M2 => f_LRule_text_78 O f t m v1 v2 x2 ((j : Int) + 1) M2), ← eN, show ((j + 1 : Nat) : Int) = (j : Int) + 1 by omega]
    show ∃ u N, (if yw 7 ≤ yw (j : Int) then _ else _) = _ ∧ _
    rw [le_F (by omega) (by omega) (by omega), eE (B := fun x13 M11 => (gJ O M11 m 16 3).bind fun x14 => if yw (jand (jshr x14 (jand (j : Int) 31)) 1) = yw 1 then (xcl (nO M11 1) fun x15 M12 => xcl (f_StringBuilder_ctor O f x15 M12) fun _ M13 => (isO O M13 x15 1).bind fun _ => xcl (f_StringBuilder_append_256 O f x15 1000000036 M13) fun x17 M14 => (aJR O M14 v1 (j : Int)).bind fun x18 => (isO O M14 x17 1).bind fun _ => xcl (f_StringBuilder_append_256 O f x17 x18 M14) fun x19 M15 => (isO O M15 x19 1).bind fun _ => xcl (f_StringBuilder_toString O f x19 M15) fun x20 M16 => f_LRule_text_136 O f (f_LRule_text_78 O f t) m v1 v2 (j : Int) x13 x20 M16) else f_LRule_text_136 O f (f_LRule_text_78 O f t) m v1 v2 (j : Int) x13 1000000034 M11), lE.gJ (j := 3) (by decide), iE, bit_e s3.1 (by omega) (by omega) (by omega)]
    have bl := bitz_lt (x := iV M m 3) (k := (j : Int))
    by_cases c : bitz (iV M m 3) (j : Int) = 1
    · obtain ⟨A2, n2, G, eG, bG, aG, xG, q1, q2⟩ := sb_s (O := O) (f := f) (γ := Nat × xM) (by omega) (hO 36 (by decide) E) (by decide)
      have hnG := (hn.kq (P := fun _ => True) xE.kq trivial).kq (P := fun _ => True) xG.kq trivial
      have g1 := xG.1
      have hj7 : j = 0 ∨ j = 1 ∨ j = 2 ∨ j = 3 ∨ j = 4 ∨ j = 5 ∨ j = 6 := by omega
      have hk := hO (10 + 2 * j) (by rcases hj7 with q | q | q | q | q | q | q <;> rw [q] <;> decide) G
      have lk : (tq (10 + 2 * j)).length = 2 := by rcases hj7 with q | q | q | q | q | q | q <;> rw [q] <;> rfl
      have b9 := bG.1.2.2.2.2.2.1.1
      have n62 := bG.2.2.1
      obtain ⟨u, K, eK, sK, u0, u1, kK, w1, w2, w3⟩ := sb_fin (O := O) (f := f) (γ := Nat × xM) bG hk (by omega) (by show 1 + (tq (10 + 2 * j)).length ≤ 250; omega)
      have xK : Ex E K := ((xG.kq (P := fun a => a < E.1)).tr kK).ex (fun a q => q)
      have rr := fin u (tq 36 ++ tq (10 + 2 * j)) K xK sK (Or.inr (by omega)) (by rw [List.length_append, lk]; decide) (by omega) (by omega) (by rw [if_pos c])
      rw [eq_T c, show (1000000036 : Nat) = 1000000000 + 36 from rfl, eG (B := fun x17 M14 => (aJR O M14 v1 (j : Int)).bind fun x18 => (isO O M14 x17 1).bind fun _ => xcl (f_StringBuilder_append_256 O f x17 x18 M14) fun x19 M15 => (isO O M15 x19 1).bind fun _ => xcl (f_StringBuilder_toString O f x19 M15) fun x20 M16 => f_LRule_text_136 O f (f_LRule_text_78 O f t) m v1 v2 (j : Int) M.1 x20 M16), z_aJR hnG.1 hnG.2.1 (by decide) (by omega) (by omega) (by omega) (hnG.2.2 _ (by omega)), show 1000000010 + 2 * ((j : Int)).toNat = 1000000000 + (10 + 2 * j) by omega, eK (B := fun x20 M16 => f_LRule_text_136 O f (f_LRule_text_78 O f t) m v1 v2 (j : Int) M.1 x20 M16)]
      exact rr
    · rw [eq_F c (by omega) (by omega) (by omega) (by omega)]
      exact fin 1000000034 (tq 34) E Ex.rf (hO 34 (by decide) E) (Or.inl (by omega)) (by decide) (by omega) (by omega) (by rw [if_neg c])
end LT5
end
/-! draft 695.ltext6 -/
section
/-! ===== the law tells a rule's text ===== -/
section LT6
variable {O : Nat → Option va_E} {f m k n : Nat} {M N : xM} {L : List Int} {i : Int} {γ : Type}
theorem z_wO {K : xM → Option γ} {v : Nat} (hb : inM M k) (hs : mS M k = .inr (11, n)) (hv : SG O M v L) (h0 : 0 ≤ i) (h1 : i < n) (h2 : i ≤ 2147483647) : (wJR O M k i v).bind K = K (rS M k i.toNat v) := by
  have ok : wRok O M 11 v = true := by
    obtain ⟨⟨fs, e1, -⟩, -⟩ := hv
    unfold wRok
    rw [e1]
    rfl
  unfold wJR wR
  rw [hs]
  dsimp only
  rw [if_pos ⟨by decide, c_wX hb.1 hb.2 hs h0 h1 ⟨by omega, h2⟩, ok⟩, yw_nat ⟨by omega, h2⟩]
  rfl
/-- a row of strings partly filled -/
def RwP (k n : Nat) (g : Nat → Nat) (c : Nat) (M : xM) : Prop := inM M k ∧ mS M k = .inr (11, n) ∧ ∀ j : Nat, j < c → mR M k j = some (g j)
theorem rw_put {g : Nat → Nat} {c : Nat} (h : RwP k n g c M) (hc : c < n) (hn : n ≤ 100) (hv : SG O M (g c) L) : ∃ N, (∀ {K : xM → Option γ}, (wJR O M k (c : Int) (g c)).bind K = K N) ∧ RwP k n g (c + 1) N ∧ N.1 = M.1 ∧ N.2.1 = M.2.1 ∧ Kq (fun a => a ≠ k) M N := by
  obtain ⟨h1, h2, h3⟩ := h
  refine ⟨rS M k c (g c), fun {K} => ?_, ⟨h1, h2, fun j hj => ?_⟩, rfl, rfl, ⟨Nat.le_refl _, fun _ _ => rfl, fun a ha p => ⟨rfl, rfl, if_neg p⟩⟩⟩
  · have := z_wO (γ := γ) (K := K) h1 h2 hv (show 0 ≤ (c : Int) by omega) (by omega) (by omega)
    rw [Int.toNat_natCast] at this
    exact this
  · show (if k = k then mup (mR M k) c (some (g c)) else mR M k) j = _
    rw [if_pos rfl]
    show (if j = c then some (g c) else mR M k j) = _
    by_cases q : j = c
    · rw [if_pos q, q]
    · rw [if_neg q]
      exact h3 j (by omega)
theorem rw_new {w : Nat} (hw : w ≤ 100) (hM : M.1 ≤ 400000000) (g : Nat → Nat) : ∃ N, nAJ M 11 (w : Int) = some (M.1, N) ∧ Ex M N ∧ RwP M.1 w g 0 N ∧ N.1 = M.1 + 1 ∧ N.2.1 = M.2.1 + w := by
  refine ⟨_, x_nAJ (by omega) (by omega) (by omega), Ex.new, ⟨⟨by omega, Nat.lt_succ_self _⟩, ?_, fun j hj => absurd hj (Nat.not_lt_zero _)⟩, rfl, ?_⟩
  · show (if M.1 = M.1 then Sum.inr (11, ((w : Int)).toNat) else mS M M.1) = _
    rw [if_pos rfl, Int.toNat_natCast]
  · show M.2.1 + ((w : Int)).toNat = _
    rw [Int.toNat_natCast]
theorem ltext_ok (hO : STo O) (hd : DGo O) (lr : LRp m M) (hv : LVr (iV M m)) (hM : M.1 ≤ 1000000) (hf : 10000 ≤ f) : ∃ u N, f_LRule_text O f m M = some (u, N) ∧ SG O N u (txR (iV M m)) ∧ u + 1 < N.1 ∧ Ex M N ∧ N.1 ≤ M.1 + 262 ∧ N.2.1 ≤ M.2.1 + 59600 := by
  obtain ⟨A, eA, xA, rA, A1, A2⟩ := rw_new (M := M) (w := 7) (by omega) (by omega) (fun j => 1000000010 + 2 * j)
  obtain ⟨B1, e1, q1, n1, w1, k1⟩ := rw_put (γ := Nat × xM) rA (by omega) (by omega) (hO 10 (by decide) A)
  obtain ⟨B2, e2, q2, n2, w2, k2⟩ := rw_put (γ := Nat × xM) q1 (by omega) (by omega) (hO 12 (by decide) B1)
  obtain ⟨B3, e3, q3, n3, w3, k3⟩ := rw_put (γ := Nat × xM) q2 (by omega) (by omega) (hO 14 (by decide) B2)
  obtain ⟨B4, e4, q4, n4, w4, k4⟩ := rw_put (γ := Nat × xM) q3 (by omega) (by omega) (hO 16 (by decide) B3)
  obtain ⟨B5, e5, q5, n5, w5, k5⟩ := rw_put (γ := Nat × xM) q4 (by omega) (by omega) (hO 18 (by decide) B4)
  obtain ⟨B6, e6, q6, n6, w6, k6⟩ := rw_put (γ := Nat × xM) q5 (by omega) (by omega) (hO 20 (by decide) B5)
  obtain ⟨B7, e7, q7, n7, w7, k7⟩ := rw_put (γ := Nat × xM) q6 (by omega) (by omega) (hO 22 (by decide) B6)
  obtain ⟨C, eC, xC, rC, C1, C2⟩ := rw_new (M := B7) (w := 5) (by omega) (by omega) (fun j => 1000000024 + 2 * j)
  obtain ⟨D1, d1, p1, m1, v1, j1⟩ := rw_put (γ := Nat × xM) rC (by omega) (by omega) (hO 24 (by decide) C)
  obtain ⟨D2, d2, p2, m2, v2, j2⟩ := rw_put (γ := Nat × xM) p1 (by omega) (by omega) (hO 26 (by decide) D1)
  obtain ⟨D3, d3, p3, m3, v3, j3⟩ := rw_put (γ := Nat × xM) p2 (by omega) (by omega) (hO 28 (by decide) D2)
  obtain ⟨D4, d4, p4, m4, v4, j4⟩ := rw_put (γ := Nat × xM) p3 (by omega) (by omega) (hO 30 (by decide) D3)
  obtain ⟨D5, d5, p5, m5, v5, j5⟩ := rw_put (γ := Nat × xM) p4 (by omega) (by omega) (hO 32 (by decide) D4)
  have kB : Kq (fun a => a ≠ M.1) A B7 := (((((k1.tr k2).tr k3).tr k4).tr k5).tr k6).tr k7
  have kD : Kq (fun a => a ≠ B7.1) C D5 := (((j1.tr j2).tr j3).tr j4).tr j5
  have nB : B7.1 = M.1 + 1 := by omega
  have xMD : Ex M D5 := ((((xA.kq (P := fun a => a < M.1)).tr (kB.le (fun a q => by (try dsimp only at q ⊢); omega))).tr (xC.kq)).tr (kD.le (fun a q => by (try dsimp only at q ⊢); omega))).ex (fun a q => q)
  have lD := lr.ex xMD (by omega)
  have iD := lr.iv xMD
  have kBD : Kq (fun a => a ≠ B7.1) B7 D5 := (xC.kq).tr kD
  have nm : NmR M.1 D5 := by
    obtain ⟨a1, a2, a3⟩ := q7
    refine ⟨⟨a1.1, by omega⟩, by rw [kBD.2.1 M.1 a1.2]; exact a2, fun j hj => ?_⟩
    rw [(kBD.2.2 M.1 a1.2 (by (try dsimp only); omega)).2.2]
    exact a3 j hj
  have orr : OrR O B7.1 D5 := ⟨p5.1, p5.2.1, p5.2.2⟩
  obtain ⟨u, N, eN, sN, u1, xN, y1, y2⟩ := tx_78 (O := O) (f := f) (m := m) hO hd (by omega) 7 f 0 1000000034 D5 lD (by rw [iD]; exact hv) nm orr (by rw [iD]; exact hO 34 (by decide) D5) (by omega) (by omega) (by omega)
  rw [iD] at sN
  have z1 : ∀ {K : xM → Option (Nat × xM)}, (wJR O A M.1 0 1000000010).bind K = K B1 := fun {K} => e1
  have z2 : ∀ {K : xM → Option (Nat × xM)}, (wJR O B1 M.1 1 1000000012).bind K = K B2 := fun {K} => e2
  have z3 : ∀ {K : xM → Option (Nat × xM)}, (wJR O B2 M.1 2 1000000014).bind K = K B3 := fun {K} => e3
  have z4 : ∀ {K : xM → Option (Nat × xM)}, (wJR O B3 M.1 3 1000000016).bind K = K B4 := fun {K} => e4
  have z5 : ∀ {K : xM → Option (Nat × xM)}, (wJR O B4 M.1 4 1000000018).bind K = K B5 := fun {K} => e5
  have z6 : ∀ {K : xM → Option (Nat × xM)}, (wJR O B5 M.1 5 1000000020).bind K = K B6 := fun {K} => e6
  have z7 : ∀ {K : xM → Option (Nat × xM)}, (wJR O B6 M.1 6 1000000022).bind K = K B7 := fun {K} => e7
  have y1' : ∀ {K : xM → Option (Nat × xM)}, (wJR O C B7.1 0 1000000024).bind K = K D1 := fun {K} => d1
  have y2' : ∀ {K : xM → Option (Nat × xM)}, (wJR O D1 B7.1 1 1000000026).bind K = K D2 := fun {K} => d2
  have y3' : ∀ {K : xM → Option (Nat × xM)}, (wJR O D2 B7.1 2 1000000028).bind K = K D3 := fun {K} => d3
  have y4' : ∀ {K : xM → Option (Nat × xM)}, (wJR O D3 B7.1 3 1000000030).bind K = K D4 := fun {K} => d4
  have y5' : ∀ {K : xM → Option (Nat × xM)}, (wJR O D4 B7.1 4 1000000032).bind K = K D5 := fun {K} => d5
  have eA' : nAJ M 11 7 = some (M.1, A) := eA
  have eC' : nAJ B7 11 5 = some (B7.1, C) := eC
  have eN' : f_LRule_text_78 O f f m M.1 B7.1 1000000034 0 D5 = some (u, N) := eN
  refine ⟨u, N, ?_, sN, u1, xMD.tr xN, by omega, by omega⟩
  unfold f_LRule_text
  rw [eA', xcl_e, z1, z2, z3, z4, z5, z6, z7, eC', xcl_e, y1', y2', y3', y4', y5', eN']
end LT6
end
/-! draft 696.wdkq -/
section
/-! ===== the class's builder ===== -/
section WKQ
variable {O : Nat → Option va_E} {f k A n : Nat} {M N : xM} {L : List Int} {P : Nat → Prop}
theorem rfs_137 (j : Nat) : rfs 137 j = none := by
  unfold rfs
  rw [if_neg (by decide), if_neg (by decide), if_neg (by decide), if_pos rfl]
theorem Kq.wd (u : Kq P M N) (w : Wd M) (hb : N.1 ≤ 500000000) (hp : ∀ a, a < 1044 → a ≠ 137 → P a) : Wd N := by
  obtain ⟨w1, w2, w3, w4⟩ := w
  refine ⟨by have := u.1; omega, hb, fun k hk => ?_, fun k j r hk hr => ?_⟩
  · rw [u.2.1 k (by omega)]
    exact w3 k hk
  · by_cases c : k = 137
    · rw [c, rfs_137] at hr
      cases hr
    · rw [(u.2.2 k (by omega) (hp k hk c)).2.2]
      exact w4 k j r hk hr
/-- emptied -/
theorem sl_ok {x : Nat} (h : BD M x A n L) : ∃ N, f_StringBuilder_setLength O f x 0 M = some ((), N) ∧ BD N x A n [] ∧ Un (fun a => a ≠ x) M N := by
  have ne := h.ne
  have h' := h
  obtain ⟨a1, a2, a3, a4, a5, a6, a7, a8, a9, a10, a11, a12⟩ := h'
  have en : f_AbstractStringBuilder_ensureCapacityInternal O f x 0 M = some ((), M) := by
    unfold f_AbstractStringBuilder_ensureCapacityInternal
    rw [h.v, h.aN, h.co, jshr0 (by omega) (by omega), le_T (by omega) (by omega) (by omega)]
  have fin : ∀ G : xM, Un (fun a => a ≠ x) M G → iV G x 1 = 0 → ∃ N, f_AbstractStringBuilder_setLength_76 O f x 0 G = some ((), N) ∧ BD N x A n [] ∧ Un (fun a => a ≠ x) M N := fun G u c1 => by
    have uN : Un (fun a => a ≠ x) M (iS G x 3 0) := u.iS (fun q => q rfl)
    refine ⟨iS G x 3 0, ?_, ⟨uN.1.inM a1, by rw [uN.1.s]; exact a2, by rw [uN.1.r]; exact a3, by rw [iV_o (by omega)]; exact c1, by rw [iV_s (by omega) (by omega)]; rfl, uN.1.inM a6, by rw [uN.1.s]; exact a7, by show 0 ≤ n; omega, a9, fun j hj => absurd hj (Nat.not_lt_zero _), fun y hy => absurd hy List.not_mem_nil, fun j hj => by rw [uN.i (by (try dsimp only); exact fun z => ne z.symm)]; exact a12 j hj⟩, uN⟩
    unfold f_AbstractStringBuilder_setLength_76
    rw [z_pJ (u.1.inM a1) (by rw [u.1.s]; exact a2) (by decide) (by decide) rfl]
  unfold f_StringBuilder_setLength f_AbstractStringBuilder_setLength
  rw [h.is, le_T (by omega) (by omega) (by omega), h.is, en, xcl_e, h.ct, le_T (by omega) (by omega) (by omega), h.ct]
  by_cases c : (L.length : Int) ≤ 0
  · rw [le_T c (by omega) (by omega)]
    obtain ⟨N, e, q⟩ := fin M Un.rf a4
    exact ⟨N, by rw [e, xcl_e], q⟩
  · have u1 : Un (fun a => a ≠ x) M (iS M x 2 1) := Un.rf.iS (fun q => q rfl)
    obtain ⟨N, e, q⟩ := fin (iS M x 2 1) u1 (by rw [iV_o (by omega)]; exact a4)
    rw [le_F (by omega) (by omega) (by omega), z_pJ a1 a2 (by decide) (by decide) (by decide), e]
    exact ⟨N, rfl, q⟩
theorem bl_ok {x : Nat} (h : BD M x A n L) : f_StringBuilder_length O f x M = some ((L.length : Int), M) := by
  unfold f_StringBuilder_length f_AbstractStringBuilder_length
  rw [h.is, h.ct, xcl_e]
theorem bc_ok {x : Nat} {i : Int} (h : BD M x A n L) (h0 : 0 ≤ i) (h1 : i < L.length) : f_StringBuilder_charAt O f x i M = some (L.getD i.toNat 0, M) := by
  have h' := h
  obtain ⟨a1, a2, a3, a4, a5, a6, a7, a8, a9, a10, a11, a12⟩ := h'
  obtain ⟨z, ez⟩ := Int.eq_ofNat_of_zero_le (a11 _ (getD_mem (show i.toNat < L.length by omega))).1
  have zl := (a11 _ (getD_mem (show i.toNat < L.length by omega))).2
  have a := asc z (by omega)
  unfold f_StringBuilder_charAt f_AbstractStringBuilder_charAt f_String_checkIndex f_Preconditions_checkIndex
  rw [h.is, h.co, h.v, h.ct, h.aN, jshr0 (by omega) (by omega), xc_of (e_min (by omega) (by omega) (by omega) (by omega)), show min (L.length : Int) (n : Int) = L.length by omega, lt_F h0 (by omega) (by omega), lt_T h1 (by omega) (by omega), xcl_e, xcl_e, eq_T rfl, z_aJB a6 a7 (Or.inr rfl) h0 (by omega) (by omega), a10 i.toNat (by omega), ez, a.1, if_pos a.2.1, xcl_e, if_pos a.2.1]
end WKQ
end
