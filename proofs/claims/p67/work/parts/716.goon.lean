/-! draft 716.goon -/
section
/-! ===== digits are passed; the next token ===== -/
/-- the number that signs tell -/
def nvL (T : List Int) (e : Nat) : Nat → Int → Int
  | 0, n => n
  | r + 1, n => nvL T (e + 1) r (min (n * 10 + T.getD e 0 - 48) 1000000)
/-- the token that was read: the text is behind what was read before, the token's signs, and the rest -/
def RT (T : List Int) (M : xM) (W B : List Int) (tk n : Int) : Prop := Wd M ∧ RD M T ∧ ∃ A : List Int, T = A ++ (W ++ B) ∧ iV M 134 3 = (A.length : Int) ∧ iV M 134 4 = ((A.length + W.length : Nat) : Int) ∧ iV M 134 5 = tk ∧ iV M 134 6 = n
def isW (W : List Int) : Prop := 1 ≤ W.length ∧ ∀ y, y ∈ W → 97 ≤ y ∧ y ≤ 122
def isBt (B : List Int) : Prop := B = [] ∨ B.getD 0 0 = 32
section RGO
variable {O : Nat → Option va_E} {f : Nat} {M N : xM} {T A B W : List Int} {i x tk n : Int} {γ : Type}
theorem g188 : ∀ (r t e : Nat) (y : Int) (M : xM), Wd M → RD M T → iV M 134 4 = (e : Int) → iV M 134 5 = 1 → iV M 134 6 = y → 0 ≤ y → y ≤ 1000000 → (∀ j : Nat, e ≤ j → j < e + r → 48 ≤ T.getD j 0 ∧ T.getD j 0 ≤ 57) → e + r ≤ T.length → (e + r = T.length ∨ T.getD (e + r) 0 < 48) → r < t → ∃ N, f_Reader_goOn_188 O f t 134 M = some ((), N) ∧ Wd N ∧ RD N T ∧ iV N 134 4 = ((e + r : Nat) : Int) ∧ iV N 134 6 = nvL T e r y ∧ (∀ j : Nat, j ≠ 4 → j ≠ 6 → iV N 134 j = iV M 134 j) ∧ Un (fun a => a ≠ 134) M N := by
  intro r
  induction r with
  | zero =>
    intro t e y M h rd ee tk ey y0 y1 _ le nx ht
    obtain ⟨t, rfl⟩ : ∃ n', t = n' + 1 := ⟨t - 1, by omega⟩
    have r1 := rd.1
    have r2 := rd.2.1
    refine ⟨M, ?_, h, rd, ee, ey, fun _ _ _ => rfl, Un.rf⟩
    show Option.bind (gJ O M 134 8 5) _ = _
    rw [a_Reader_token h, tk, eq_T rfl, a_Reader_end h, ee, a_Reader_length h, r1]
    by_cases c : e + 0 = T.length
    · rw [le_T (by omega) (by omega) (by omega)]
    · have nx := nx.resolve_left c
      have cr := rd.2.2.2 _ (getD_mem (show e < T.length by omega))
      rw [Nat.add_zero] at nx
      rw [le_F (by omega) (by omega) (by omega), a_Reader_end h, ee, a_Reader_is h, sa_in h rd (by omega) (by omega), xcl_e, Int.toNat_natCast, lt_T nx (by omega) (by omega)]
  | succ r ih =>
    intro t e y M h rd ee tk ey y0 y1 ls le nx ht
    obtain ⟨t, rfl⟩ : ∃ n', t = n' + 1 := ⟨t - 1, by omega⟩
    have r1 := rd.1
    have r2 := rd.2.1
    have c := ls e (by omega) (by omega)
    obtain ⟨z, ez⟩ : ∃ z, z = min (y * 10 + T.getD e 0 - 48) 1000000 := ⟨_, rfl⟩
    obtain ⟨D, eD⟩ : ∃ D, D = iS M 134 6 z := ⟨_, rfl⟩
    obtain ⟨E, eE⟩ : ∃ E, E = iS D 134 4 ((e : Int) + 1) := ⟨_, rfl⟩
    have wD : Wd D := by rw [eD]; exact h
    have wE : Wd E := by rw [eE]; exact wD
    have dE : RD E T := by rw [eE, eD]; exact rd_i (rd_i rd (by omega) (by omega)) (by omega) (by omega)
    have oE : ∀ j : Nat, j ≠ 4 → j ≠ 6 → iV E 134 j = iV M 134 j := fun j hj hj2 => by rw [eE, iV_o (by omega), eD, iV_o (by omega)]
    have uE : Un (fun a => a ≠ 134) M E := by rw [eE, eD]; exact (Un.rf.iS (by (try dsimp only); omega)).iS (by (try dsimp only); omega)
    have d4 : iV D 134 4 = (e : Int) := by rw [eD, iV_o (by omega), ee]
    obtain ⟨N, eN, wN, dN, n4, n6, nO, uN⟩ := ih t (e + 1) z E wE dE (by rw [eE, iV_s (by omega) (by omega)]; omega) (by rw [oE 5 (by decide) (by decide)]; exact tk) (by rw [eE, iV_o (by omega), eD, iV_s (by omega) (by omega)]) (by omega) (by omega) (fun j h1 h2 => ls j (by omega) (by omega)) (by omega) (by rw [show e + 1 + r = e + (r + 1) by omega]; exact nx) (by omega)
    refine ⟨N, ?_, wN, dN, by rw [n4]; omega, by rw [n6, ez]; rfl, fun j hj hj2 => by rw [nO j hj hj2, oE j hj hj2], uE.tr uN⟩
    show Option.bind (gJ O M 134 8 5) _ = _
    rw [a_Reader_token h, tk, eq_T rfl, a_Reader_end h, ee, a_Reader_length h, r1, le_F (by omega) (by omega) (by omega), a_Reader_end h, ee, a_Reader_is h, sa_in h rd (by omega) (by omega), xcl_e, Int.toNat_natCast, lt_F c.1 (by omega) (by omega), a_Reader_end h, ee, a_Reader_is h, sa_in h rd (by omega) (by omega), xcl_e, Int.toNat_natCast, lt_F c.2 (by omega) (by omega), a_Reader_number h, ey, a_Reader_end h, ee, a_Reader_is h, sa_in h rd (by omega) (by omega), xcl_e, Int.toNat_natCast, xc_of (e_min (by omega) (by omega) (by omega) (by omega)), ← ez, p_Reader_number h, ← eD, a_Reader_end wD, d4, p_Reader_end wD, ← eE]
    exact eN
/-- from the token's first sign on -/
theorem g45 (h : Wd M) (rd : RD M (A ++ (W ++ B))) (es : iV M 134 3 = (A.length : Int)) (hB : isBt B) (hf : 200 ≤ f) (c : (isW W ∧ tk = 0 ∧ n = 0) ∨ (∃ v : Nat, v < 10000 ∧ W = dgs v ∧ tk = 1 ∧ n = (v : Int)) ∨ (W = [] ∧ B = [] ∧ tk = 3 ∧ n = 0)) : ∃ N, f_Reader_goOn_45 O f 134 M = some ((), N) ∧ RT (A ++ (W ++ B)) N W B tk n ∧ Un (fun a => a ≠ 134) M N := by
  obtain ⟨T, eT⟩ : ∃ T, T = A ++ (W ++ B) := ⟨_, rfl⟩
  have lT : T.length = A.length + (W.length + B.length) := by rw [eT, List.length_append, List.length_append]
  have gW : ∀ k, k < W.length → T.getD (A.length + k) 0 = W.getD k 0 := fun k hk => by rw [eT]; exact gd_mid hk
  have gB : T.getD (A.length + W.length) 0 = B.getD 0 0 := by
    have := gd_aft (A := A) (W := W) (B := B) (k := 0)
    rw [eT]
    exact this
  rw [← eT] at rd ⊢
  have r1 := rd.1
  have r2 := rd.2.1
  obtain ⟨D, eD⟩ : ∃ D, D = iS M 134 4 (A.length : Int) := ⟨_, rfl⟩
  obtain ⟨E, eE⟩ : ∃ E, E = iS D 134 6 0 := ⟨_, rfl⟩
  have wD : Wd D := by rw [eD]; exact h
  have wE : Wd E := by rw [eE]; exact wD
  have dE : RD E T := by rw [eE, eD]; exact rd_i (rd_i rd (by omega) (by omega)) (by omega) (by omega)
  have uE : Un (fun a => a ≠ 134) M E := by rw [eE, eD]; exact (Un.rf.iS (by (try dsimp only); omega)).iS (by (try dsimp only); omega)
  have E3 : iV E 134 3 = (A.length : Int) := by rw [eE, iV_o (by omega), eD, iV_o (by omega), es]
  have E4 : iV E 134 4 = (A.length : Int) := by rw [eE, iV_o (by omega), eD, iV_s (by omega) (by omega)]
  have E6 : iV E 134 6 = 0 := by rw [eE, iV_s (by omega) (by omega)]
  have hd : f_Reader_goOn_45 O f 134 M = (xcl (f_Reader_signAt O f 134 (A.length : Int) E) fun x3 M3 => (gJ O M3 134 8 3).bind fun x4 => (gJ O M3 134 8 0).bind fun x5 => if yw x4 < yw x5 then (if yw x3 < yw 97 then f_Reader_goOn_106 O f 134 x3 M3 else if yw 122 < yw x3 then f_Reader_goOn_106 O f 134 x3 M3 else (pJ M3 134 8 5 0).bind fun M4 => f_Reader_goOn_131 O f f 134 M4) else (pJ M3 134 8 5 3).bind fun M5 => f_Reader_goOn_131 O f f 134 M5) := by
    unfold f_Reader_goOn_45
    rw [a_Reader_start h, es, p_Reader_end h, ← eD, p_Reader_number wD, ← eE, a_Reader_start wE, E3, a_Reader_is wE]
  -- the token's kind is put
  have put : ∀ q : Int, 0 ≤ q → q ≤ 3 → ∃ G, G = iS E 134 5 q ∧ Wd G ∧ RD G T ∧ Un (fun a => a ≠ 134) M G ∧ iV G 134 5 = q ∧ ∀ j : Nat, j ≠ 5 → iV G 134 j = iV E 134 j := fun q q0 q1 => ⟨_, rfl, wE, rd_i dE (by omega) (by omega), uE.iS (by (try dsimp only); omega), iV_s (by omega) (by omega), fun j hj => iV_o (by omega)⟩
  obtain ⟨g, eg⟩ : ∃ n', f = n' + 1 := ⟨f - 1, by omega⟩
  rw [hd]
  rcases c with ⟨⟨w1, wl⟩, rfl, rfl⟩ | ⟨v, hv, eW, rfl, rfl⟩ | ⟨rfl, rfl, rfl, rfl⟩
  · -- a word
    have c0 := wl _ (getD_mem (show 0 < W.length by omega))
    have g0 := gW 0 (by omega)
    rw [Nat.add_zero] at g0
    obtain ⟨G, eG, wG, dG, uG, G5, Go⟩ := put 0 (by omega) (by omega)
    obtain ⟨N, eN, wN, dN, n4, nO, uN⟩ := g131 (O := O) (f := f) (T := T) W.length f A.length G wG dG (by rw [Go 4 (by decide)]; exact E4) G5 (fun j h1 h2 => by
      have := wl _ (getD_mem (show j - A.length < W.length by omega))
      have q := gW (j - A.length) (by omega)
      rw [show A.length + (j - A.length) = j by omega] at q
      rw [q]
      exact this) (by omega) (by
        rcases hB with rfl | hB
        · left
          rw [lT]
          show A.length + W.length = A.length + (W.length + 0)
          omega
        · right
          rw [gB, hB]
          decide) (by omega) (by omega)
    refine ⟨N, ?_, ⟨wN, dN, A, eT, by rw [nO 3 (by decide), Go 3 (by decide)]; exact E3, n4, by rw [nO 5 (by decide)]; exact G5, by rw [nO 6 (by decide), Go 6 (by decide)]; exact E6⟩, uG.tr uN⟩
    rw [sa_in wE dE (by omega) (by omega), xcl_e, Int.toNat_natCast, g0, a_Reader_start wE, E3, a_Reader_length wE, dE.1, lt_T (by omega) (by omega) (by omega), lt_F c0.1 (by omega) (by omega), lt_F c0.2 (by omega) (by omega), p_Reader_token wE, ← eG]
    exact eN
  · -- a number
    have dl := dgs_len (v := v)
    have w1 : 1 ≤ W.length := by rw [eW]; exact dl.1
    have wl : ∀ y, y ∈ W → 48 ≤ y ∧ y ≤ 57 := fun y hy => dgs_r y (by rw [← eW]; exact hy) hv
    have c0 := wl _ (getD_mem (show 0 < W.length by omega))
    have g0 := gW 0 (by omega)
    rw [Nat.add_zero] at g0
    obtain ⟨G, eG, wG, dG, uG, G5, Go⟩ := put 1 (by omega) (by omega)
    have G6 : iV G 134 6 = 0 := by rw [Go 6 (by decide)]; exact E6
    obtain ⟨N, eN, wN, dN, n4, n6, nO, uN⟩ := g188 (O := O) (f := f) (T := T) W.length f A.length 0 G wG dG (by rw [Go 4 (by decide)]; exact E4) G5 G6 (by omega) (by omega) (fun j h1 h2 => by
      have := wl _ (getD_mem (show j - A.length < W.length by omega))
      have q := gW (j - A.length) (by omega)
      rw [show A.length + (j - A.length) = j by omega] at q
      rw [q]
      exact this) (by omega) (by
        rcases hB with rfl | hB
        · left
          rw [lT]
          show A.length + W.length = A.length + (W.length + 0)
          omega
        · right
          rw [gB, hB]
          decide) (by omega)
    have val : nvL T A.length W.length 0 = (v : Int) := by
      have a0 := gW 0
      have a1 := gW 1
      have a2 := gW 2
      have a3 := gW 3
      rw [eW] at a0 a1 a2 a3 ⊢
      unfold dgs at a0 a1 a2 a3 ⊢
      by_cases c1 : v < 10
      · rw [if_pos c1] at a0 ⊢
        have b0 := a0 (by show 0 < 1; decide)
        show min ((0 : Int) * 10 + T.getD A.length 0 - 48) 1000000 = _
        rw [Nat.add_zero] at b0
        rw [b0]
        show min ((0 : Int) * 10 + (48 + (v : Int)) - 48) 1000000 = _
        omega
      rw [if_neg c1] at a0 a1 a2 a3 ⊢
      by_cases c2 : v < 100
      · rw [if_pos c2] at a0 a1 ⊢
        have b0 := a0 (by show 0 < 2; decide)
        have b1 := a1 (by show 1 < 2; decide)
        rw [Nat.add_zero] at b0
        show min ((min ((0 : Int) * 10 + T.getD A.length 0 - 48) 1000000) * 10 + T.getD (A.length + 1) 0 - 48) 1000000 = _
        rw [b0, b1]
        show min ((min ((0 : Int) * 10 + (48 + ((v / 10 : Nat) : Int)) - 48) 1000000) * 10 + (48 + ((v % 10 : Nat) : Int)) - 48) 1000000 = _
        omega
      rw [if_neg c2] at a0 a1 a2 a3 ⊢
      by_cases c3 : v < 1000
      · rw [if_pos c3] at a0 a1 a2 ⊢
        have b0 := a0 (by show 0 < 3; decide)
        have b1 := a1 (by show 1 < 3; decide)
        have b2 := a2 (by show 2 < 3; decide)
        rw [Nat.add_zero] at b0
        show min ((min ((min ((0 : Int) * 10 + T.getD A.length 0 - 48) 1000000) * 10 + T.getD (A.length + 1) 0 - 48) 1000000) * 10 + T.getD (A.length + 1 + 1) 0 - 48) 1000000 = _
        rw [show A.length + 1 + 1 = A.length + 2 by omega, b0, b1, b2]
        show min ((min ((min ((0 : Int) * 10 + (48 + ((v / 100 : Nat) : Int)) - 48) 1000000) * 10 + (48 + ((v / 10 % 10 : Nat) : Int)) - 48) 1000000) * 10 + (48 + ((v % 10 : Nat) : Int)) - 48) 1000000 = _
        omega
      · rw [if_neg c3] at a0 a1 a2 a3 ⊢
        have b0 := a0 (by show 0 < 4; decide)
        have b1 := a1 (by show 1 < 4; decide)
        have b2 := a2 (by show 2 < 4; decide)
        have b3 := a3 (by show 3 < 4; decide)
        rw [Nat.add_zero] at b0
        show min ((min ((min ((min ((0 : Int) * 10 + T.getD A.length 0 - 48) 1000000) * 10 + T.getD (A.length + 1) 0 - 48) 1000000) * 10 + T.getD (A.length + 1 + 1) 0 - 48) 1000000) * 10 + T.getD (A.length + 1 + 1 + 1) 0 - 48) 1000000 = _
        rw [show A.length + 1 + 1 + 1 = A.length + 3 by omega, show A.length + 1 + 1 = A.length + 2 by omega, b0, b1, b2, b3]
        show min ((min ((min ((min ((0 : Int) * 10 + (48 + ((v / 1000 : Nat) : Int)) - 48) 1000000) * 10 + (48 + ((v / 100 % 10 : Nat) : Int)) - 48) 1000000) * 10 + (48 + ((v / 10 % 10 : Nat) : Int)) - 48) 1000000) * 10 + (48 + ((v % 10 : Nat) : Int)) - 48) 1000000 = _
        omega
    rw [val] at n6
    refine ⟨N, ?_, ⟨wN, dN, A, eT, by rw [nO 3 (by decide) (by decide), Go 3 (by decide)]; exact E3, n4, by rw [nO 5 (by decide) (by decide)]; exact G5, n6⟩, uG.tr uN⟩
    have q131 : f_Reader_goOn_131 O f f 134 G = some ((), N) := by
      rw [← eN]
      show f_Reader_goOn_131 O f f 134 G = f_Reader_goOn_188 O f f 134 G
      rw [show f_Reader_goOn_131 O f f = f_Reader_goOn_131 O f (g + 1) by rw [← eg]]
      show Option.bind (gJ O G 134 8 5) _ = _
      rw [a_Reader_token wG, G5, eq_F (by omega) (by omega) (by omega) (by omega) (by omega)]
    rw [sa_in wE dE (by omega) (by omega), xcl_e, Int.toNat_natCast, g0, a_Reader_start wE, E3, a_Reader_length wE, dE.1, lt_T (by omega) (by omega) (by omega), lt_T (by omega) (by omega) (by omega)]
    unfold f_Reader_goOn_106
    rw [lt_F c0.1 (by omega) (by omega), lt_F c0.2 (by omega) (by omega), p_Reader_token wE, ← eG]
    exact q131
  · -- nothing more
    obtain ⟨G, eG, wG, dG, uG, G5, Go⟩ := put 3 (by omega) (by omega)
    have l0 : T.length = A.length := lT
    refine ⟨G, ?_, ⟨wG, dG, A, eT, by rw [Go 3 (by decide)]; exact E3, by rw [Go 4 (by decide)]; exact E4, G5, by rw [Go 6 (by decide)]; exact E6⟩, uG⟩
    have q131 : f_Reader_goOn_131 O f f 134 G = some ((), G) := by
      have q188 : f_Reader_goOn_188 O f f 134 G = some ((), G) := by
        rw [show f_Reader_goOn_188 O f f = f_Reader_goOn_188 O f (g + 1) by rw [← eg]]
        show Option.bind (gJ O G 134 8 5) _ = _
        rw [a_Reader_token wG, G5, eq_F (by omega) (by omega) (by omega) (by omega) (by omega)]
      rw [show f_Reader_goOn_131 O f f = f_Reader_goOn_131 O f (g + 1) by rw [← eg]]
      show Option.bind (gJ O G 134 8 5) _ = _
      rw [a_Reader_token wG, G5, eq_F (by omega) (by omega) (by omega) (by omega) (by omega)]
      exact q188
    rw [sa_out wE dE (by omega) (by omega), xcl_e, a_Reader_start wE, E3, a_Reader_length wE, dE.1, lt_F (by omega) (by omega) (by omega), p_Reader_token wE, ← eG]
    exact q131
/-- the next token, behind a space or none -/
theorem go_ok {P S : List Int} (h : Wd M) (rd : RD M (P ++ (S ++ (W ++ B)))) (ee : iV M 134 4 = (P.length : Int)) (hS : S = [] ∨ S = [32]) (hB : isBt B) (hf : 200 ≤ f) (c : (isW W ∧ tk = 0 ∧ n = 0) ∨ (∃ v : Nat, v < 10000 ∧ W = dgs v ∧ tk = 1 ∧ n = (v : Int)) ∨ (W = [] ∧ B = [] ∧ tk = 3 ∧ n = 0)) : ∃ N, f_Reader_goOn O f 134 M = some ((), N) ∧ RT (P ++ (S ++ (W ++ B))) N W B tk n ∧ Un (fun a => a ≠ 134) M N := by
  have l120 := rd.2.1
  have lT : (P ++ (S ++ (W ++ B))).length = P.length + (S.length + (W.length + B.length)) := by rw [List.length_append, List.length_append, List.length_append]
  obtain ⟨g, eg⟩ : ∃ n', f = n' + 1 + 1 := ⟨f - 2, by omega⟩
  obtain ⟨D, eD⟩ : ∃ D, D = iS M 134 3 (P.length : Int) := ⟨_, rfl⟩
  have wD : Wd D := by rw [eD]; exact h
  have dD : RD D (P ++ (S ++ (W ++ B))) := by rw [eD]; exact rd_i rd (by omega) (by omega)
  have uD : Un (fun a => a ≠ 134) M D := by rw [eD]; exact Un.rf.iS (by (try dsimp only); omega)
  have D3 : iV D 134 3 = (P.length : Int) := by rw [eD, iV_s (by omega) (by omega)]
  -- the sign behind the space is none, or no space
  have nsp : W.length + B.length = 0 ∨ (0 < W.length ∧ W.getD 0 0 ≠ 32) := by
    rcases c with ⟨⟨w1, wl⟩, -, -⟩ | ⟨v, hv, eW, -, -⟩ | ⟨rfl, rfl, -, -⟩
    · have := wl _ (getD_mem (show 0 < W.length by omega))
      exact Or.inr ⟨by omega, by omega⟩
    · have dl := dgs_len (v := v)
      have w1 : 1 ≤ W.length := by rw [eW]; exact dl.1
      have := dgs_r (v := v) _ (by rw [← eW]; exact getD_mem (show 0 < W.length by omega)) hv
      exact Or.inr ⟨by omega, by omega⟩
    · exact Or.inl rfl
  have go8 : ∀ (A : List Int) (K : xM) (m : Nat), Wd K → RD K (A ++ (W ++ B)) → iV K 134 3 = (A.length : Int) → ∃ N, f_Reader_goOn_8 O f (m + 1) 134 K = some ((), N) ∧ RT (A ++ (W ++ B)) N W B tk n ∧ Un (fun a => a ≠ 134) K N := by
    intro A K m wK dK K3
    have lA : (A ++ (W ++ B)).length = A.length + (W.length + B.length) := by rw [List.length_append, List.length_append]
    obtain ⟨N, eN, rN, uN⟩ := g45 (O := O) (f := f) wK dK K3 hB hf c
    refine ⟨N, ?_, rN, uN⟩
    rw [← eN]
    rcases nsp with z | ⟨z, z2⟩
    · exact g8_end wK dK K3 (by rw [lA]; omega)
    · refine g8_no wK dK K3 (by omega) (by omega) ?_
      rw [Int.toNat_natCast]
      have := gd_mid (A := A) (B := B) z
      rw [Nat.add_zero] at this
      rw [this]
      exact z2
  have hd : f_Reader_goOn O f 134 M = f_Reader_goOn_8 O f (g + 1 + 1) 134 D := by
    unfold f_Reader_goOn
    rw [a_Reader_end h, ee, p_Reader_start h, ← eD]
    rw [show f_Reader_goOn_8 O f f = f_Reader_goOn_8 O f (g + 1 + 1) by rw [← eg]]
  rw [hd]
  rcases hS with rfl | rfl
  · obtain ⟨N, eN, rN, uN⟩ := go8 P D (g + 1) wD dD D3
    exact ⟨N, eN, rN, uD.tr uN⟩
  · obtain ⟨K, eK⟩ : ∃ K, K = iS D 134 3 ((P.length : Int) + 1) := ⟨_, rfl⟩
    have wK : Wd K := by rw [eK]; exact wD
    have dK : RD K (P ++ ([32] ++ (W ++ B))) := by rw [eK]; exact rd_i dD (by omega) (by omega)
    have uK : Un (fun a => a ≠ 134) M K := by rw [eK]; exact uD.iS (by (try dsimp only); omega)
    have ap : P ++ ([32] ++ (W ++ B)) = (P ++ [32]) ++ (W ++ B) := (List.append_assoc _ _ _).symm
    have lP : (P ++ [32]).length = P.length + 1 := by rw [List.length_append]; rfl
    rw [ap] at dK ⊢
    obtain ⟨N, eN, rN, uN⟩ := go8 (P ++ [32]) K g wK dK (by rw [eK, iV_s (by omega) (by omega), lP]; omega)
    refine ⟨N, ?_, rN, uK.tr uN⟩
    rw [← ap] at dK
    have sp : (P ++ ([32] ++ (W ++ B))).getD P.length 0 = 32 := by
      have := gd_mid (A := P) (W := [32]) (B := W ++ B) (k := 0) (by decide)
      rw [Nat.add_zero] at this
      exact this
    rw [g8_sp wD dD D3 (by omega) (by rw [lT]; show (P.length : Int) < ((P.length + (1 + (W.length + B.length)) : Nat) : Int); omega) (by rw [Int.toNat_natCast]; exact sp), ← eK]
    exact eN
end RGO
end
