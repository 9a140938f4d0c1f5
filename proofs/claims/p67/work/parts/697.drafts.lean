/-! draft 697.write1 -/
section
/-! ===== the class writes: one word after the other ===== -/
/-- since M only the class's builder was filled -/
def W7 (M N : xM) (A n q : Nat) (L : List Int) : Prop := BD N 137 A n L ∧ (A = 138 ∨ M.1 ≤ A) ∧ Kq (fun a => a ≠ 137 ∧ a ≠ 138) M N ∧ N.1 ≤ M.1 + q ∧ n ≤ 600 ∧ N.2.1 ≤ M.2.1 + 2 * n ∧ Wd M ∧ M.1 ≤ 10000000 ∧ q ≤ 1000
section W7S
variable {O : Nat → Option va_E} {f k v A n q : Nat} {M N : xM} {L L2 : List Int} {c : Int}
theorem rfs_138 (j : Nat) : rfs 138 j = none := by
  unfold rfs
  rw [if_neg (by decide), if_neg (by decide), if_neg (by decide), if_neg (by decide), if_pos (by decide), show mdR.getD (138 - 115) [] = [] from by decide]
  rfl
theorem W7.wd (h : W7 M N A n q L) : Wd N := by
  obtain ⟨-, -, u, n1, -, -, ⟨w1, w2, w3, w4⟩, m1, q1⟩ := h
  refine ⟨by have := u.1; omega, by omega, fun k hk => ?_, fun k j r hk hr => ?_⟩
  · rw [u.2.1 k (by omega)]
    exact w3 k hk
  · by_cases c : k = 137
    · rw [c, rfs_137] at hr
      cases hr
    · by_cases c2 : k = 138
      · rw [c2, rfs_138] at hr
        cases hr
      · rw [(u.2.2 k (by omega) ⟨c, c2⟩).2.2]
        exact w4 k j r hk hr
theorem W7.i (h : W7 M N A n q L) {a j : Nat} (ha : a < 1044) (h1 : a ≠ 137) (h2 : a ≠ 138) : iV N a j = iV M a j := h.2.2.1.i (by have := h.2.2.2.2.2.2.1.1; omega) ⟨h1, h2⟩
theorem W7.go {A' n' : Nat} {K : xM} (h : W7 M N A n q L) (b : BD K 137 A' n' L2) (n6 : n' ≤ max n 600) (g : BG N K 137 A A' n n') (hq : q + 1 ≤ 1000) : W7 M K A' n' (q + 1) L2 := by
  obtain ⟨h1, h2, h3, h4, h5, h6, h7, h8, h9⟩ := h
  obtain ⟨k1, k2, k3, k4, k5, k6⟩ := g
  have m1 := h3.1
  refine ⟨b, by omega, ⟨by omega, fun a ha => (k1.2.1 a (by omega)).trans (h3.2.1 a ha), fun a ha p => ?_⟩, by omega, by omega, by omega, h7, h8, by omega⟩
  obtain ⟨a1, a2, a3⟩ := h3.2.2 a ha p
  obtain ⟨b1, b2, b3⟩ := k1.2.2 a (by omega) ⟨p.1, by have := p.2; omega⟩
  exact ⟨b1.trans a1, b2.trans a2, b3.trans a3⟩
theorem w7_s (hO : STo O) (h : W7 M N A n q L) (hk : k ∈ [10, 12, 14, 16, 18, 20, 22, 24, 26, 28, 30, 32, 34, 36, 38, 40, 42, 44, 46, 48, 50, 52, 54, 56, 58, 60, 62, 64, 66, 68, 70]) (hl : L.length ≤ 150) (hl2 : (tq k).length ≤ 20) (hq : q + 1 ≤ 1000) : ∃ A' n' K, f_StringBuilder_append_256 O f 137 (1000000000 + k) N = some (137, K) ∧ W7 M K A' n' (q + 1) (L ++ tq k) := by
  have h' := h
  obtain ⟨h1, h2, h3, h4, h5, h6, h7, h8, h9⟩ := h'
  have a9 := h1.2.2.2.2.2.1.1
  obtain ⟨A', n', K, e, b, n6, g⟩ := app_ok (O := O) (f := f) h1 (hO k hk N) (by omega) (by omega) (by omega) (by omega)
  exact ⟨A', n', K, e, h.go b n6 g hq⟩
theorem w7_n (hd : DGo O) (h : W7 M N A n q L) (hv : v < 10000) (hl : L.length ≤ 150) (hq : q + 1 ≤ 1000) (hf : 10 ≤ f) : ∃ A' n' K, f_StringBuilder_append_285 O f 137 (v : Int) N = some (137, K) ∧ W7 M K A' n' (q + 1) (L ++ dgs v) := by
  have h' := h
  obtain ⟨h1, h2, h3, h4, h5, h6, h7, h8, h9⟩ := h'
  obtain ⟨A', n', K, e, b, n6, g⟩ := api_ok (O := O) (f := f) (v := v) hd h1 hv (by omega) (by omega) (by omega) hf
  exact ⟨A', n', K, e, h.go b n6 g hq⟩
theorem w7_c (h : W7 M N A n q L) (c0 : 0 ≤ c) (c1 : c ≤ 127) (hl : L.length ≤ 150) (hq : q + 1 ≤ 1000) : ∃ A' n' K, f_StringBuilder_append_299 O f 137 c N = some (137, K) ∧ W7 M K A' n' (q + 1) (L ++ [c]) := by
  have h' := h
  obtain ⟨h1, h2, h3, h4, h5, h6, h7, h8, h9⟩ := h'
  obtain ⟨A', n', K, e, b, n6, g⟩ := apc_ok (O := O) (f := f) h1 c0 c1 (by omega) (by omega) (by omega)
  exact ⟨A', n', K, e, h.go b n6 g hq⟩
end W7S
end
/-! draft 698.write2 -/
section
/-! ===== the class writes a rule: the weekdays ===== -/
section W8S
variable {O : Nat → Option va_E} {f k v A n q : Nat} {M N : xM} {L L0 L2 : List Int} {c : Int}
theorem W7.up (h : W7 M N A n q L) {q' : Nat} (h1 : q ≤ q') (h2 : q' ≤ 1000) : W7 M N A n q' L := by
  obtain ⟨a1, a2, a3, a4, a5, a6, a7, a8, a9⟩ := h
  exact ⟨a1, a2, a3, by omega, a5, a6, a7, a8, h2⟩
theorem w7_61 (hO : STo O) (hk : k < 12) (s0 : 0 ≤ iV M (30 + 6 * k) 3) (s1 : iV M (30 + 6 * k) 3 ≤ 127) (hl : L0.length ≤ 100) : ∀ (r t j q A n : Nat) (N : xM), W7 M N A n q (L0 ++ txD (iV M (30 + 6 * k) 3) j) → j + r = 7 → r < t → q + 3 * r ≤ 1000 → ∃ A' n' K, f_Rule_writeUnit_61 O f t (30 + 6 * k) 137 (j : Int) N = some ((), K) ∧ W7 M K A' n' (q + 3 * r) (L0 ++ txD (iV M (30 + 6 * k) 3) 7) := by
  intro r
  induction r with
  | zero =>
    intro t j q A n N h hj ht hq
    obtain ⟨t, rfl⟩ : ∃ n', t = n' + 1 := ⟨t - 1, by omega⟩
    obtain rfl : j = 7 := by omega
    refine ⟨A, n, N, ?_, h⟩
    show (if yw 7 ≤ yw (((7 : Nat)) : Int) then _ else _) = _
    rw [le_T (by omega) (by omega) (by omega)]
  | succ r ih =>
    intro t j q A n N h hj ht hq
    obtain ⟨t, rfl⟩ : ∃ n', t = n' + 1 := ⟨t - 1, by omega⟩
    have w := h.wd
    have dl := txD_len (S := iV M (30 + 6 * k) 3) j (by omega)
    have es : iV N (30 + 6 * k) 3 = iV M (30 + 6 * k) 3 := h.i (by omega) (by omega) (by omega)
    have bl := bitz_lt (x := iV M (30 + 6 * k) 3) (k := (j : Int))
    have ll : (L0 ++ txD (iV M (30 + 6 * k) 3) j).length = L0.length + (txD (iV M (30 + 6 * k) 3) j).length := List.length_append
    have stp : txD (iV M (30 + 6 * k) 3) (j + 1) = txD (iV M (30 + 6 * k) 3) j ++ (if bitz (iV M (30 + 6 * k) 3) (j : Int) = 1 then tq 36 ++ tq (10 + 2 * j) else tq 34) := rfl
    show ∃ A' n' K, (if yw 7 ≤ yw (j : Int) then _ else _) = _ ∧ _
    rw [le_F (by omega) (by omega) (by omega), a_Rule_days w hk, es, bit_e s0 (by omega) (by omega) (by omega)]
    by_cases c : bitz (iV M (30 + 6 * k) 3) (j : Int) = 1
    · have hj7 : j = 0 ∨ j = 1 ∨ j = 2 ∨ j = 3 ∨ j = 4 ∨ j = 5 ∨ j = 6 := by omega
      have c2 : tq (10 + 2 * j) = [(tq 64).getD (2 * j) 0, (tq 64).getD (2 * j + 1) 0] := by
        rcases hj7 with z | z | z | z | z | z | z <;> rw [z] <;> decide
      have cb : ∀ i : Nat, i < 14 → 0 ≤ (tq 64).getD i 0 ∧ (tq 64).getD i 0 ≤ 127 := by decide
      obtain ⟨A1, n1, K1, e1, h1⟩ := w7_c (O := O) (f := f) (c := 32) h (by omega) (by omega) (by omega) (by omega)
      have b1 := cb (2 * j) (by omega)
      have b2 := cb (2 * j + 1) (by omega)
      have g1 := hO 64 (by decide) K1
      have x1 := charAt_ok (f := f) (i := 2 * (j : Int)) g1 (by omega) (by show 2 * (j : Int) < 14; omega)
      rw [show (2 * (j : Int)).toNat = 2 * j by omega] at x1
      obtain ⟨A2, n2, K2, e2, h2⟩ := w7_c (O := O) (f := f) (c := (tq 64).getD (2 * j) 0) h1 b1.1 b1.2 (by rw [List.length_append, ll]; show _ + 1 ≤ 150; omega) (by omega)
      have g2 := hO 64 (by decide) K2
      have x2 := charAt_ok (f := f) (i := 2 * (j : Int) + 1) g2 (by omega) (by show 2 * (j : Int) + 1 < 14; omega)
      rw [show (2 * (j : Int) + 1).toNat = 2 * j + 1 by omega] at x2
      obtain ⟨A3, n3, K3, e3, h3⟩ := w7_c (O := O) (f := f) (c := (tq 64).getD (2 * j + 1) 0) h2 b2.1 b2.2 (by rw [List.length_append, List.length_append, ll]; show _ + 1 + 1 ≤ 150; omega) (by omega)
      have el : L0 ++ txD (iV M (30 + 6 * k) 3) j ++ [32] ++ [(tq 64).getD (2 * j) 0] ++ [(tq 64).getD (2 * j + 1) 0] = L0 ++ txD (iV M (30 + 6 * k) 3) (j + 1) := by
        rw [stp, if_pos c, c2, show tq 36 = [32] from rfl, List.append_assoc, List.append_assoc, List.append_assoc]
        rfl
      rw [el] at h3
      obtain ⟨A', n', K, eK, hK⟩ := ih t (j + 1) (q + 1 + 1 + 1) A3 n3 K3 h3 (by omega) (by omega) (by omega)
      refine ⟨A', n', K, ?_, hK.up (by omega) (by omega)⟩
      rw [show ((j + 1 : Nat) : Int) = (j : Int) + 1 by omega] at eK
      have y1 : f_String_charAt O f 1000000064 (2 * (j : Int)) K1 = some ((tq 64).getD (2 * j) 0, K1) := x1
      have y2 : f_String_charAt O f 1000000064 (2 * (j : Int) + 1) K2 = some ((tq 64).getD (2 * j + 1) 0, K2) := x2
      have i1 : ∀ {B : Unit → Option (Unit × xM)}, (isO O K1 1000000064 0).bind B = B () := fun {B} => g1.is
      have i2 : ∀ {B : Unit → Option (Unit × xM)}, (isO O K2 1000000064 0).bind B = B () := fun {B} => g2.is
      rw [eq_F (by omega) (by omega) (by omega) (by omega) (by omega), h.1.is, e1, xcl_e, i1, y1, xcl_e, h1.1.is, e2, xcl_e, i2, y2, xcl_e, h2.1.is, e3, xcl_e, eK]
    · rw [eq_T (by omega)]
      have el : L0 ++ txD (iV M (30 + 6 * k) 3) (j + 1) = L0 ++ txD (iV M (30 + 6 * k) 3) j := by
        rw [stp, if_neg c, show tq 34 = [] from rfl, List.append_nil]
      rw [← el] at h
      obtain ⟨A', n', K, eK, hK⟩ := ih t (j + 1) q A n N h (by omega) (by omega) (by omega)
      rw [show ((j + 1 : Nat) : Int) = (j : Int) + 1 by omega] at eK
      exact ⟨A', n', K, eK, hK.up (by omega) (by omega)⟩
end W8S
end
/-! draft 699.write3 -/
section
/-! ===== the class writes a rule: the place and the unit ===== -/
section W9S
variable {O : Nat → Option va_E} {f k v A n q : Nat} {M N : xM} {L L0 L2 : List Int} {c : Int}
theorem w7_place (hO : STo O) (hd : DGo O) (hk : k < 12) (hv : LVr (iV M (30 + 6 * k))) (k34 : iV M (30 + 6 * k) 1 = 3 ∨ iV M (30 + 6 * k) 1 = 4) (h : W7 M N A n q L) (hl : L.length ≤ 40) (hq : q + 5 ≤ 1000) (hf : 10 ≤ f) : ∃ A' n' K, f_Rule_writePlace O f (30 + 6 * k) 137 N = some ((), K) ∧ W7 M K A' n' (q + 3) (L ++ tq 48 ++ (if iV M (30 + 6 * k) 1 = 3 then txP3 (iV M (30 + 6 * k)) else txP4 (iV M (30 + 6 * k)))) := by
  obtain ⟨-, ⟨k0, k5⟩, -, -, -, -, -, ⟨p0, p1⟩, p3, p4, -, -⟩ := hv
  obtain ⟨A1, n1, K1, e1, h1⟩ := w7_s (O := O) (f := f) (k := 48) hO h (by decide) (by omega) (by decide) (by omega)
  have w1 := h1.wd
  have l1 : (L ++ tq 48).length = L.length + 10 := List.length_append
  have i1 : ∀ j, iV K1 (30 + 6 * k) j = iV M (30 + 6 * k) j := fun j => h1.i (by omega) (by omega) (by omega)
  have e1' : f_StringBuilder_append_256 O f 137 1000000048 N = some (137, K1) := e1
  unfold f_Rule_writePlace
  rw [h.1.is, e1', xcl_e, a_Rule_place w1 hk, i1]
  by_cases c1 : iV M (30 + 6 * k) 4 = -1
  · obtain ⟨A2, n2, K2, e2, h2⟩ := w7_s (O := O) (f := f) (k := 50) hO h1 (by decide) (by omega) (by decide) (by omega)
    have e2' : f_StringBuilder_append_256 O f 137 1000000050 K1 = some (137, K2) := e2
    have ew : (if iV M (30 + 6 * k) 1 = 3 then txP3 (iV M (30 + 6 * k)) else txP4 (iV M (30 + 6 * k))) = tq 50 := by
      have g3 : txP3 (iV M (30 + 6 * k)) = tq 50 := by
        unfold txP3
        rw [if_neg (show ¬ 0 < iV M (30 + 6 * k) 4 by omega), if_pos c1]
      have g4 : txP4 (iV M (30 + 6 * k)) = tq 50 := by
        unfold txP4
        rw [if_neg (show ¬ 0 < iV M (30 + 6 * k) 4 by omega), if_pos c1]
      rw [g3, g4]
      split <;> rfl
    rw [eq_T c1, h1.1.is, e2', xcl_e, ew]
    exact ⟨A2, n2, K2, rfl, h2.up (by omega) (by omega)⟩
  rw [eq_F c1 (by omega) (by omega) (by omega) (by omega), a_Rule_place w1 hk, i1]
  by_cases cp : 0 ≤ iV M (30 + 6 * k) 4
  · rw [le_T cp (by omega) (by omega), a_Rule_kind w1 hk, i1]
    by_cases c4 : iV M (30 + 6 * k) 1 = 4
    · have q4 := p4 c4
      have ek : f_Reader_ordinal O f (iV M (30 + 6 * k) 4) K1 = some (1000000000 + (22 + 2 * (iV M (30 + 6 * k) 4).toNat), K1) := by
        unfold f_Reader_ordinal
        have hp5 : iV M (30 + 6 * k) 4 = 1 ∨ iV M (30 + 6 * k) 4 = 2 ∨ iV M (30 + 6 * k) 4 = 3 ∨ iV M (30 + 6 * k) 4 = 4 ∨ iV M (30 + 6 * k) 4 = 5 := by omega
        rcases hp5 with z | z | z | z | z <;> rw [z] <;> rfl
      have hk5 : (iV M (30 + 6 * k) 4).toNat = 1 ∨ (iV M (30 + 6 * k) 4).toNat = 2 ∨ (iV M (30 + 6 * k) 4).toNat = 3 ∨ (iV M (30 + 6 * k) 4).toNat = 4 ∨ (iV M (30 + 6 * k) 4).toNat = 5 := by omega
      obtain ⟨A2, n2, K2, e2, h2⟩ := w7_s (O := O) (f := f) (k := 22 + 2 * (iV M (30 + 6 * k) 4).toNat) hO h1 (by rcases hk5 with z | z | z | z | z <;> rw [z] <;> decide) (by omega) (by rcases hk5 with z | z | z | z | z <;> rw [z] <;> decide) (by omega)
      have ew : (if iV M (30 + 6 * k) 1 = 3 then txP3 (iV M (30 + 6 * k)) else txP4 (iV M (30 + 6 * k))) = tq (22 + 2 * (iV M (30 + 6 * k) 4).toNat) := by
        unfold txP4
        rw [if_neg (by omega), if_pos (by omega)]
      rw [eq_T c4, a_Rule_place w1 hk, i1, ek, xcl_e, h1.1.is, e2, xcl_e, ew]
      exact ⟨A2, n2, K2, rfl, h2.up (by omega) (by omega)⟩
    · have q3 := p3 (by omega)
      obtain ⟨v, ev⟩ := Int.eq_ofNat_of_zero_le cp
      obtain ⟨A2, n2, K2, e2, h2⟩ := w7_n (O := O) (f := f) (v := v) hd h1 (by omega) (by omega) (by omega) hf
      have ew : (if iV M (30 + 6 * k) 1 = 3 then txP3 (iV M (30 + 6 * k)) else txP4 (iV M (30 + 6 * k))) = dgs v := by
        unfold txP3
        rw [if_pos (by omega), if_pos (by omega), show (iV M (30 + 6 * k) 4).toNat = v by omega]
        rfl
      rw [eq_F c4 (by omega) (by omega) (by omega) (by omega), a_Rule_place w1 hk, i1, h1.1.is, ev, e2, xcl_e, ew]
      exact ⟨A2, n2, K2, rfl, h2.up (by omega) (by omega)⟩
  · obtain ⟨v, ev⟩ := Int.eq_ofNat_of_zero_le (show 0 ≤ -iV M (30 + 6 * k) 4 by omega)
    obtain ⟨A2, n2, K2, e2, h2⟩ := w7_s (O := O) (f := f) (k := 52) hO h1 (by decide) (by omega) (by decide) (by omega)
    have l2 : (L ++ tq 48 ++ tq 52).length = L.length + 14 := by rw [List.length_append, l1]; rfl
    obtain ⟨A3, n3, K3, e3, h3⟩ := w7_n (O := O) (f := f) (v := v) hd h2 (by omega) (by omega) (by omega) hf
    have w2 := h2.wd
    have i2 : ∀ j, iV K2 (30 + 6 * k) j = iV M (30 + 6 * k) j := fun j => h2.i (by omega) (by omega) (by omega)
    have e2' : f_StringBuilder_append_256 O f 137 1000000052 K1 = some (137, K2) := e2
    have ew : (if iV M (30 + 6 * k) 1 = 3 then txP3 (iV M (30 + 6 * k)) else txP4 (iV M (30 + 6 * k))) = tq 52 ++ dgs v := by
      have g3 : txP3 (iV M (30 + 6 * k)) = tq 52 ++ dgs v := by
        unfold txP3
        rw [if_neg (show ¬ 0 < iV M (30 + 6 * k) 4 by omega), if_neg c1, show (-iV M (30 + 6 * k) 4).toNat = v by omega]
      have g4 : txP4 (iV M (30 + 6 * k)) = tq 52 ++ dgs v := by
        unfold txP4
        rw [if_neg (show ¬ 0 < iV M (30 + 6 * k) 4 by omega), if_neg c1, show (-iV M (30 + 6 * k) 4).toNat = v by omega]
      rw [g3, g4]
      split <;> rfl
    rw [le_F (by omega) (by omega) (by omega), h1.1.is, e2', xcl_e, a_Rule_place w2 hk, i2, h2.1.is, ev, e3, xcl_e, ew, ← List.append_assoc]
    exact ⟨A3, n3, K3, rfl, h3⟩
end W9S
end
/-! draft 700.write4 -/
section
/-! ===== the class writes a rule ===== -/
section W10
variable {O : Nat → Option va_E} {f k v A n q : Nat} {M N : xM} {L L0 L2 : List Int} {c : Int}
/-- the unit's words -/
def txU (r : Nat → Int) : List Int := if r 1 = 1 then tq 42 else if r 1 = 2 then tq 44 ++ txD (r 3) 7 else if r 1 = 5 then tq 46 else if r 1 = 3 then tq 48 ++ txP3 r else tq 48 ++ txP4 r ++ txD (r 3) 7
theorem txD0 : txD 0 7 = [] := by decide
theorem txP_len {r : Nat → Int} (h : -31 ≤ r 4) (h1 : r 4 ≤ 31) : (txP3 r).length ≤ 8 ∧ (r 4 ≤ 5 → (txP4 r).length ≤ 8) := by
  have d1 := dgs_len (v := (r 4).toNat)
  have d2 := dgs_len (v := (-r 4).toNat)
  constructor
  · unfold txP3
    split
    · show (dgs (r 4).toNat).length ≤ 8
      omega
    · split
      · decide
      · rw [List.length_append]
        show 4 + _ ≤ 8
        omega
  · intro h5
    unfold txP4
    split
    · next g =>
      have hk : (r 4).toNat = 1 ∨ (r 4).toNat = 2 ∨ (r 4).toNat = 3 ∨ (r 4).toNat = 4 ∨ (r 4).toNat = 5 := by omega
      rcases hk with z | z | z | z | z <;> rw [z] <;> decide
    · split
      · decide
      · rw [List.length_append]
        show 4 + _ ≤ 8
        omega
theorem w7_unit (hO : STo O) (hd : DGo O) (hk : k < 12) (hv : LVr (iV M (30 + 6 * k))) (k1 : iV M (30 + 6 * k) 1 ≠ 0) (h : W7 M N A n q L) (hl : L.length ≤ 40) (hq : q + 30 ≤ 1000) (hf : 10 ≤ f) : ∃ A' n' K, f_Rule_writeUnit O f (30 + 6 * k) 137 N = some ((), K) ∧ W7 M K A' n' (q + 24) (L ++ txU (iV M (30 + 6 * k))) := by
  have hv' := hv
  obtain ⟨-, ⟨k0, k5⟩, -, -, ⟨s0, s1⟩, -, s00, ⟨p0, p1⟩, -, p4, -, -⟩ := hv'
  have w := h.wd
  have ir : ∀ j, iV N (30 + 6 * k) j = iV M (30 + 6 * k) j := fun j => h.i (by omega) (by omega) (by omega)
  -- the weekdays behind
  have fin : ∀ (q2 : Nat) (A2 n2 : Nat) (K : xM) (L1 : List Int), W7 M K A2 n2 q2 L1 → q2 ≤ q + 3 → L1.length ≤ 90 → L1 ++ txD (iV M (30 + 6 * k) 3) 7 = L ++ txU (iV M (30 + 6 * k)) → ∃ A' n' G, f_Rule_writeUnit_59 O f (30 + 6 * k) 137 K = some ((), G) ∧ W7 M G A' n' (q + 24) (L ++ txU (iV M (30 + 6 * k))) := by
    intro q2 A2 n2 K L1 hK hq2 l1 el
    have hK' : W7 M K A2 n2 q2 (L1 ++ txD (iV M (30 + 6 * k) 3) 0) := by
      rw [show txD (iV M (30 + 6 * k) 3) 0 = [] from rfl, List.append_nil]
      exact hK
    obtain ⟨A', n', G, e, hG⟩ := w7_61 (O := O) (f := f) hO hk s0 s1 (by omega) 7 f 0 q2 A2 n2 K hK' (by omega) (by omega) (by omega)
    rw [el] at hG
    exact ⟨A', n', G, e, hG.up (by omega) (by omega)⟩
  have one : ∀ w : Nat, (w = 42 ∨ w = 44 ∨ w = 46) → L ++ tq w ++ txD (iV M (30 + 6 * k) 3) 7 = L ++ txU (iV M (30 + 6 * k)) → ∃ A' n' K, (xcl (f_StringBuilder_append_256 O f 137 (1000000000 + w) N) fun x2 M1 => f_Rule_writeUnit_59 O f (30 + 6 * k) 137 M1) = some ((), K) ∧ W7 M K A' n' (q + 24) (L ++ txU (iV M (30 + 6 * k))) := by
    intro w hw el
    obtain ⟨A1, n1, K1, e1, h1⟩ := w7_s (O := O) (f := f) (k := w) hO h (by rcases hw with rfl | rfl | rfl <;> decide) (by omega) (by rcases hw with rfl | rfl | rfl <;> decide) (by omega)
    have lw : (tq w).length ≤ 10 := by rcases hw with rfl | rfl | rfl <;> decide
    obtain ⟨A', n', G, e, hG⟩ := fin (q + 1) A1 n1 K1 (L ++ tq w) h1 (by omega) (by rw [List.length_append]; omega) el
    exact ⟨A', n', G, by rw [e1, xcl_e, e], hG⟩
  unfold f_Rule_writeUnit
  rw [a_Rule_kind w hk, ir]
  by_cases c1 : iV M (30 + 6 * k) 1 = 1
  · rw [eq_T c1, h.1.is]
    refine one 42 (Or.inl rfl) ?_
    unfold txU
    rw [if_pos c1, s00 (by omega) (by omega), txD0, List.append_nil]
  rw [eq_F c1 (by omega) (by omega) (by omega) (by omega), a_Rule_kind w hk, ir]
  by_cases c2 : iV M (30 + 6 * k) 1 = 2
  · rw [eq_T c2, h.1.is]
    refine one 44 (Or.inr (Or.inl rfl)) ?_
    unfold txU
    rw [if_neg c1, if_pos c2, List.append_assoc]
  rw [eq_F c2 (by omega) (by omega) (by omega) (by omega), a_Rule_kind w hk, ir]
  by_cases c5 : iV M (30 + 6 * k) 1 = 5
  · rw [eq_T c5, h.1.is]
    refine one 46 (Or.inr (Or.inr rfl)) ?_
    unfold txU
    rw [if_neg c1, if_neg c2, if_pos c5, s00 (by omega) (by omega), txD0, List.append_nil]
  · obtain ⟨A1, n1, K1, e1, h1⟩ := w7_place (O := O) (f := f) hO hd hk hv (by omega) h hl (by omega) hf
    have pl := txP_len (r := iV M (30 + 6 * k)) p0 p1
    rw [eq_F c5 (by omega) (by omega) (by omega) (by omega), a_Rule_is w hk, e1, xcl_e]
    by_cases c3 : iV M (30 + 6 * k) 1 = 3
    · rw [if_pos c3] at h1
      refine fin (q + 3) A1 n1 K1 _ h1 (by omega) (by rw [List.length_append, List.length_append]; show L.length + 10 + _ ≤ 90; omega) ?_
      unfold txU
      rw [if_neg c1, if_neg c2, if_neg c5, if_pos c3, s00 (by omega) (by omega), txD0, List.append_nil, List.append_assoc]
    · rw [if_neg c3] at h1
      have q4 := p4 (by omega)
      have := pl.2 (by omega)
      refine fin (q + 3) A1 n1 K1 _ h1 (by omega) (by rw [List.length_append, List.length_append]; show L.length + 10 + _ ≤ 90; omega) ?_
      unfold txU
      rw [if_neg c1, if_neg c2, if_neg c5, if_neg c3, List.append_assoc, List.append_assoc, List.append_assoc]
end W10
end
/-! draft 701.write5 -/
section
/-! ===== the class writes a rule as the law tells it ===== -/
section W11
variable {O : Nat → Option va_E} {f k v A n q : Nat} {M N : xM} {L L0 L2 : List Int} {c : Int}
theorem txR_U {r : Nat → Int} (k0 : r 1 ≠ 0) (h0 : 0 ≤ r 1) (h5 : r 1 ≤ 5) : tq 38 ++ txS r ++ txU r ++ txE r = txR r := by
  unfold txR tx196 txU tx333 tx431
  rw [if_neg k0]
  by_cases c1 : r 1 = 1
  · rw [if_pos c1, if_pos c1, if_neg (show ¬ r 1 = 3 by omega), if_neg (show ¬ r 1 = 4 by omega)]
  rw [if_neg c1, if_neg c1]
  by_cases c2 : r 1 = 2
  · rw [if_pos c2, if_pos c2, if_neg (show ¬ r 1 = 3 by omega), if_neg (show ¬ r 1 = 4 by omega), ← List.append_assoc]
  rw [if_neg c2, if_neg c2]
  by_cases c5 : r 1 = 5
  · rw [if_pos c5, if_pos c5, if_neg (show ¬ r 1 = 3 by omega), if_neg (show ¬ r 1 = 4 by omega)]
  rw [if_neg c5, if_neg c5]
  by_cases c3 : r 1 = 3
  · rw [if_pos c3, if_pos c3, if_neg (show ¬ r 1 = 4 by omega)]
    simp only [List.append_assoc]
  · rw [if_neg c3, if_neg c3, if_pos (show r 1 = 4 by omega)]
    simp only [List.append_assoc]
theorem w7_53 (hO : STo O) (hd : DGo O) (hk : k < 12) (hv : LVr (iV M (30 + 6 * k))) (h : W7 M N A n q L) (hl : L.length ≤ 120) (hq : q + 5 ≤ 1000) (hf : 10 ≤ f) : ∃ A' n' K, f_Rule_writeTo_53 O f (30 + 6 * k) 137 N = some ((), K) ∧ W7 M K A' n' (q + 2) (L ++ txE (iV M (30 + 6 * k))) := by
  have en := hv.2.2.2.2.2.2.2.2.2.2.2
  have f0 := hv.1
  have w := h.wd
  have ir : ∀ j, iV N (30 + 6 * k) j = iV M (30 + 6 * k) j := fun j => h.i (by omega) (by omega) (by omega)
  have t77 : ∀ z : Nat, (z = 54 ∨ z = 56) → 0 ≤ iV M (30 + 6 * k) 6 → iV M (30 + 6 * k) 6 < 10000 → ∃ A' n' K, f_Rule_writeTo_77 O f (30 + 6 * k) 137 137 (1000000000 + z) N = some ((), K) ∧ W7 M K A' n' (q + 2) (L ++ (tq z ++ dgs (iV M (30 + 6 * k) 6).toNat)) := by
    intro z hz n0 n1
    obtain ⟨A1, n1', K1, e1, h1⟩ := w7_s (O := O) (f := f) (k := z) hO h (by rcases hz with rfl | rfl <;> decide) (by omega) (by rcases hz with rfl | rfl <;> decide) (by omega)
    have lz : (tq z).length ≤ 7 := by rcases hz with rfl | rfl <;> decide
    obtain ⟨v, ev⟩ := Int.eq_ofNat_of_zero_le n0
    obtain ⟨A2, n2, K2, e2, h2⟩ := w7_n (O := O) (f := f) (v := v) hd h1 (by omega) (by rw [List.length_append]; omega) (by omega) hf
    have i1 : iV K1 (30 + 6 * k) 6 = iV M (30 + 6 * k) 6 := h1.i (by omega) (by omega) (by omega)
    rw [List.append_assoc] at h2
    refine ⟨A2, n2, K2, ?_, by rw [show (iV M (30 + 6 * k) 6).toNat = v by omega]; exact h2⟩
    unfold f_Rule_writeTo_77
    rw [h.1.is, e1, xcl_e, a_Rule_number h1.wd hk, i1, h1.1.is, ev, e2, xcl_e]
  unfold f_Rule_writeTo_53
  rw [a_Rule_how w hk, ir]
  by_cases c0 : iV M (30 + 6 * k) 5 = 0
  · rw [eq_T c0]
    refine ⟨A, n, N, rfl, ?_⟩
    unfold txE
    rw [if_neg (by omega), if_neg (by omega), show tq 34 = [] from rfl, List.append_nil]
    exact h.up (by omega) (by omega)
  rw [eq_F c0 (by omega) (by omega) (by omega) (by omega), a_Rule_how w hk, ir]
  by_cases c1 : iV M (30 + 6 * k) 5 = 1
  · rw [eq_T c1]
    have e : txE (iV M (30 + 6 * k)) = tq 54 ++ dgs (iV M (30 + 6 * k) 6).toNat := if_pos c1
    rw [e]
    exact t77 54 (Or.inl rfl) (by omega) (by omega)
  · rw [eq_F c1 (by omega) (by omega) (by omega) (by omega)]
    have e : txE (iV M (30 + 6 * k)) = tq 56 ++ dgs (iV M (30 + 6 * k) 6).toNat := by
      unfold txE
      rw [if_neg c1, if_pos (by omega)]
    rw [e]
    exact t77 56 (Or.inr rfl) (by omega) (by omega)
theorem txU_len {r : Nat → Int} (h : -31 ≤ r 4) (h1 : r 4 ≤ 31) (h5 : r 1 = 4 → r 4 ≤ 5) (h6 : 0 ≤ r 1 ∧ r 1 ≤ 5) (h7 : r 1 ≠ 0) : (txU r).length ≤ 45 := by
  have pl := txP_len h h1
  have dl := txD_len (S := r 3) 7 (by omega)
  unfold txU
  split
  · decide
  · split
    · rw [List.length_append]
      show 8 + _ ≤ 45
      omega
    · split
      · decide
      · split
        · rw [List.length_append]
          show 10 + _ ≤ 45
          omega
        · have := pl.2 (h5 (by omega))
          rw [List.length_append, List.length_append]
          show 10 + _ + _ ≤ 45
          omega
theorem w7_to (hO : STo O) (hd : DGo O) (hk : k < 12) (hv : LVr (iV M (30 + 6 * k))) (h : W7 M N A n q []) (hq : q + 40 ≤ 1000) (hf : 10 ≤ f) : ∃ A' n' K, f_Rule_writeTo O f (30 + 6 * k) 137 N = some ((), K) ∧ W7 M K A' n' (q + 40) (txR (iV M (30 + 6 * k))) := by
  have hv' := hv
  obtain ⟨-, ⟨k0, k5⟩, st, -, -, -, -, ⟨p0, p1⟩, -, p4, -, -⟩ := hv'
  have w := h.wd
  have ir : ∀ j, iV N (30 + 6 * k) j = iV M (30 + 6 * k) j := fun j => h.i (by omega) (by omega) (by omega)
  unfold f_Rule_writeTo
  rw [a_Rule_kind w hk, ir]
  by_cases c0 : iV M (30 + 6 * k) 1 = 0
  · obtain ⟨A1, n1, K1, e1, h1⟩ := w7_s (O := O) (f := f) (k := 40) hO h (by decide) (by decide) (by decide) (by omega)
    obtain ⟨A2, n2, K2, e2, h2⟩ := w7_53 (O := O) (f := f) hO hd hk hv h1 (by decide) (by omega) hf
    have e1' : f_StringBuilder_append_256 O f 137 1000000040 N = some (137, K1) := e1
    have er : txR (iV M (30 + 6 * k)) = [] ++ tq 40 ++ txE (iV M (30 + 6 * k)) := by
      unfold txR tx196 tx333 tx431
      rw [if_pos c0, if_neg (by omega), if_neg (by omega)]
      rfl
    rw [eq_T c0, h.1.is, e1', xcl_e, e2, er]
    exact ⟨A2, n2, K2, rfl, h2.up (by omega) (by omega)⟩
  have st' := st c0
  obtain ⟨A1, n1, K1, e1, h1⟩ := w7_s (O := O) (f := f) (k := 38) hO h (by decide) (by decide) (by decide) (by omega)
  have e1' : f_StringBuilder_append_256 O f 137 1000000038 N = some (137, K1) := e1
  have i1 : ∀ j, iV K1 (30 + 6 * k) j = iV M (30 + 6 * k) j := fun j => h1.i (by omega) (by omega) (by omega)
  have h1 : W7 M K1 A1 n1 (q + 1) (tq 38) := h1
  have fin : ∀ (q2 A2 n2 : Nat) (K : xM), W7 M K A2 n2 q2 (tq 38 ++ txS (iV M (30 + 6 * k))) → q2 ≤ q + 3 → ∃ A' n' G, f_Rule_writeTo_48 O f (30 + 6 * k) 137 K = some ((), G) ∧ W7 M G A' n' (q + 40) (txR (iV M (30 + 6 * k))) := by
    intro q2 A2 n2 K hK hq2
    have ls : (txS (iV M (30 + 6 * k))).length ≤ 5 := by
      have := dgs_len (v := (iV M (30 + 6 * k) 2).toNat)
      unfold txS
      split
      · decide
      · rw [List.length_append]
        show _ + 1 ≤ 5
        omega
    have l0 : (tq 38 ++ txS (iV M (30 + 6 * k))).length ≤ 11 := by rw [List.length_append]; show 6 + _ ≤ 11; omega
    obtain ⟨A3, n3, K3, e3, h3⟩ := w7_unit (O := O) (f := f) hO hd hk hv c0 hK (by omega) (by omega) hf
    have lu := txU_len (r := iV M (30 + 6 * k)) p0 p1 (fun z => (p4 z).2.2) ⟨k0, k5⟩ c0
    obtain ⟨A4, n4, K4, e4, h4⟩ := w7_53 (O := O) (f := f) hO hd hk hv h3 (by rw [List.length_append]; omega) (by omega) hf
    rw [txR_U c0 k0 k5] at h4
    refine ⟨A4, n4, K4, ?_, h4.up (by omega) (by omega)⟩
    unfold f_Rule_writeTo_48
    rw [a_Rule_is hK.wd hk, e3, xcl_e, e4]
  rw [eq_F c0 (by omega) (by omega) (by omega) (by omega), h.1.is, e1', xcl_e, a_Rule_step h1.wd hk, i1]
  by_cases c1 : iV M (30 + 6 * k) 2 = 1
  · have es : txS (iV M (30 + 6 * k)) = [] := by
      unfold txS
      rw [if_pos (by omega)]
      rfl
    rw [eq_T c1]
    exact fin (q + 1) A1 n1 K1 (by rw [es, List.append_nil]; exact h1) (by omega)
  · obtain ⟨v, ev⟩ := Int.eq_ofNat_of_zero_le (show 0 ≤ iV M (30 + 6 * k) 2 by omega)
    have es : txS (iV M (30 + 6 * k)) = dgs v ++ [32] := by
      unfold txS
      rw [if_neg (by omega), show (iV M (30 + 6 * k) 2).toNat = v by omega]
      rfl
    have dl := dgs_len (v := v)
    obtain ⟨A2, n2, K2, e2, h2⟩ := w7_n (O := O) (f := f) (v := v) hd h1 (by omega) (by decide) (by omega) hf
    obtain ⟨A3, n3, K3, e3, h3⟩ := w7_c (O := O) (f := f) (c := 32) h2 (by omega) (by omega) (by rw [List.length_append]; show 6 + _ ≤ 150; omega) (by omega)
    rw [List.append_assoc, ← es] at h3
    rw [eq_F c1 (by omega) (by omega) (by omega) (by omega), a_Rule_step h1.wd hk, i1, h1.1.is, ev, e2, xcl_e, h2.1.is, e3, xcl_e]
    exact fin (q + 1 + 1 + 1) A3 n3 K3 h3 (by omega)
end W11
end
/-! draft 702.write6 -/
section
/-! ===== what is written is the law's text ===== -/
section W12
variable {O : Nat → Option va_E} {f k A n u : Nat} {M N : xM} {L : List Int} {kk : Int}
theorem write_ok (hO : STo O) (hd : DGo O) (h : Wd M) (hM : M.1 ≤ 1000000) (hkk : kk = (k : Int)) (hk : k < 12) (ht : iV M (29 + 6 * k) 0 = 1) (hv : LVr (iV M (30 + 6 * k))) (hb : BD M 137 138 n L) (hn : n ≤ 600) (hf : 10 ≤ f) : ∃ A' n' N, f_Calendarhall_write O f 1 kk M = some (((txR (iV M (30 + 6 * k))).length : Int), N) ∧ BD N 137 A' n' (txR (iV M (30 + 6 * k))) ∧ Kq (fun a => a ≠ 137 ∧ a ≠ 138) M N ∧ Wd N ∧ N.1 ≤ M.1 + 40 ∧ N.2.1 ≤ M.2.1 + 1200 := by
  subst hkk
  obtain ⟨E, eE, bE, uE⟩ := sl_ok (O := O) (f := f) hb
  have wE := uE.wd h
  have rE : iV E (30 + 6 * k) = iV M (30 + 6 * k) := funext (fun j => uE.i (by (try dsimp only); omega))
  have w0 : W7 E E 138 n 0 [] := ⟨bE, Or.inl rfl, Kq.rf, by omega, hn, by omega, wE, by rw [uE.1.1]; omega, by omega⟩
  obtain ⟨A', n', N, eN, hN⟩ := w7_to (O := O) (f := f) hO hd hk (by rw [rE]; exact hv) w0 (by omega) hf
  rw [rE] at hN
  have wN := hN.wd
  obtain ⟨b1, b2, b3, b4, b5, b6, -⟩ := hN
  refine ⟨A', n', N, ?_, b1, (uE.kq.le (fun a q => q.1)).tr b3, wN, by rw [uE.1.1] at b4; omega, by rw [uE.1.2.1] at b6; omega⟩
  unfold f_Calendarhall_write
  rw [a_Cal_is h, xc_of (s_num h hk ht), a_Cal_written h, hb.is, eE, xcl_e, a_Series_rule wE hk, a_Cal_written wE, a_Rule_is wE hk, eN, xcl_e, a_Cal_written wN, b1.is, bl_ok b1, xcl_e]
/-- sign by sign -/
theorem ad_227 {m n2 : Nat} (h : Wd M) (hb : BD M 137 A n L) (hs : SG O M u L) (hf : 1000 ≤ f) : ∀ (r t j : Nat), j + r = L.length → r < t → f_Law_areDays_227 O f t 1 0 n2 m kk u (j : Int) M = (xcl (nAJ M 0 800) fun x2 M2 => (gJ O M2 m 16 0).bind fun x3 => (gJ O M2 m 16 0).bind fun x4 => f_Law_areDays_287 O f f 1 0 n2 m kk x2 0 (x3 + 799) x4 M2) := by
  have l := hs.2.2.2.1
  intro r
  induction r with
  | zero =>
    intro t j hj ht
    obtain ⟨t, rfl⟩ : ∃ n', t = n' + 1 := ⟨t - 1, by omega⟩
    show ((isO O M u 0).bind fun _ => _) = _
    rw [hs.is, length_ok hs, xcl_e, le_T (by omega) (by omega) (by omega)]
  | succ r ih =>
    intro t j hj ht
    obtain ⟨t, rfl⟩ : ∃ n', t = n' + 1 := ⟨t - 1, by omega⟩
    have q := ih t (j + 1) (by omega) (by omega)
    rw [show ((j + 1 : Nat) : Int) = (j : Int) + 1 by omega] at q
    rw [← q]
    have wa : f_Calendarhall_writtenAt O f 1 (j : Int) M = some (L.getD j 0, M) := by
      unfold f_Calendarhall_writtenAt
      rw [lt_F (by omega) (by omega) (by omega), a_Cal_written h, hb.is, bl_ok hb, xcl_e, lt_T (by omega) (by omega) (by omega), a_Cal_written h, hb.is, bc_ok hb (by omega) (by omega), xcl_e, Int.toNat_natCast]
    show ((isO O M u 0).bind fun _ => _) = _
    rw [hs.is, length_ok hs, xcl_e, le_F (by omega) (by omega) (by omega), a_Cal_is h, wa, xcl_e, hs.is, charAt_ok hs (by omega) (by omega), xcl_e, Int.toNat_natCast, eq_T rfl]
end W12
end
/-! draft 703.ad202 -/
section
/-! ===== the law reads what was written ===== -/
section W13
variable {O : Nat → Option va_E} {f k A n u m : Nat} {M N : xM} {L : List Int} {kk : Int} {r r' : Nat → Int}
theorem txR_of (h : ∀ j, 1 ≤ j → j ≤ 6 → r' j = r j) : txR r' = txR r := by
  unfold txR tx196 tx333 tx431 txP3 txP4 txS txE
  rw [h 1 (by decide) (by decide), h 2 (by decide) (by decide), h 3 (by decide) (by decide), h 4 (by decide) (by decide), h 5 (by decide) (by decide), h 6 (by decide) (by decide)]
theorem sg_ne {L2 : List Int} (h : SG O M u L) (hb : BD M 137 138 n L2) : u ≠ 137 ∧ u ≠ 138 ∧ u + 1 ≠ 137 ∧ u + 1 ≠ 138 := by
  obtain ⟨⟨fs, e1, -⟩, ⟨g, e2, -⟩, -⟩ := h
  have a1 := hb.1
  have a2 := hb.2.1
  have a6 := hb.2.2.2.2.2.1
  have a7 := hb.2.2.2.2.2.2.1
  have x7 : xrd O (hp M) 137 = some (mcell (.inl 1) (mI M 137) (mL M 137) (mR M 137)) := by
    have h2 : 137 < (hp M).1 := a1.2
    unfold xrd
    rw [if_pos a1.1, if_pos h2, hp_cell, a2]
  have x8 := xrd_new (O := O) a6 a7
  have n7 : u ≠ 137 := fun e => by
    rw [e, x7] at e1
    cases e1
  refine ⟨n7, fun e => ?_, fun e => ?_, by omega⟩
  · rw [e, x8] at e1
    cases e1
  · rw [e, x7] at e2
    cases e2
theorem ad_202 {n2 : Nat} (hO : STo O) (hd : DGo O) (h : Wd M) (hM : M.1 ≤ 100000) (hkk : kk = (k : Int)) (hk : k < 12) (ht : iV M (29 + 6 * k) 0 = 1) (lr : LRp m M) (m0 : 1044 ≤ m) (hv : LVr (iV M m)) (er : ∀ j, j ≤ 6 → iV M (30 + 6 * k) j = iV M m j) (hb : BD M 137 138 n L) (hn : n ≤ 600) (hf : 10000 ≤ f) : ∃ N, f_Law_areDays_202 O f 1 0 n2 m kk M = (xcl (nAJ N 0 800) fun x2 M2 => (gJ O M2 m 16 0).bind fun x3 => (gJ O M2 m 16 0).bind fun x4 => f_Law_areDays_287 O f f 1 0 n2 m kk x2 0 (x3 + 799) x4 M2) ∧ Kq (fun a => a ≠ 137 ∧ a ≠ 138) M N ∧ Wd N ∧ N.1 ≤ M.1 + 302 ∧ N.2.1 ≤ M.2.1 + 60800 := by
  obtain ⟨u, E, eE, sE, u1, xE, e1, e2⟩ := ltext_ok (O := O) (f := f) hO hd lr hv (by omega) hf
  have wE := xE.wd h (by omega)
  have mM := lr.1.2
  have M4 := h.1
  have iE : ∀ a j, a < M.1 → iV E a j = iV M a j := fun a j ha => xE.i ha
  have rE : ∀ j, iV E (30 + 6 * k) j = iV M (30 + 6 * k) j := fun j => iE _ j (by omega)
  have bE : BD E 137 138 n L := hb.kq (P := fun _ => True) xE.kq (by omega) trivial trivial
  have hvE : LVr (iV E (30 + 6 * k)) := by
    unfold LVr at hv ⊢
    rw [rE 0, rE 1, rE 2, rE 3, rE 4, rE 5, rE 6, er 0 (by omega), er 1 (by omega), er 2 (by omega), er 3 (by omega), er 4 (by omega), er 5 (by omega), er 6 (by omega)]
    exact hv
  obtain ⟨A', n', N, eN, bN, kN, wN, n1, n2'⟩ := write_ok (O := O) (f := f) hO hd wE (by omega) hkk hk (by rw [iE _ _ (by omega)]; exact ht) hvE bE hn (by omega)
  have tx : txR (iV E (30 + 6 * k)) = txR (iV M m) := txR_of (fun j j1 j2 => by rw [rE, er j j2])
  rw [tx] at eN bN
  have ne := sg_ne sE bE
  have sN : SG O N u (txR (iV M m)) := sE.kq kN (fun _ => ⟨⟨ne.1, ne.2.1⟩, ⟨ne.2.2.1, ne.2.2.2⟩⟩)
  have l := sN.2.2.2.1
  have e227 := ad_227 (O := O) (f := f) (kk := kk) (m := m) (n2 := n2) wN bN sN (by omega) (txR (iV M m)).length f 0 (by omega) (by omega)
  rw [show ((0 : Nat) : Int) = 0 from rfl] at e227
  refine ⟨N, ?_, (xE.kq).tr kN, wN, by omega, by omega⟩
  unfold f_Law_areDays_202
  rw [lr.is, eE, xcl_e, a_Cal_is wE, eN, xcl_e, sN.is, length_ok sN, xcl_e, eq_T rfl, e227]
end W13
end
/-! draft 704.pack -/
section
/-! ===== eight signs in a long ===== -/
theorem k8 : kand (ki2l 8) 63 = 8 := by decide
theorem kshl8 {a : Int} (h0 : 0 ≤ a) (h1 : a < 36028797018963968) : kshl a (kand (ki2l 8) 63) = a * 256 := by
  rw [k8, kshl_e h0 (by omega) (by omega) (by show a.toNat * 256 ≤ 9223372036854775807; omega)]
  show ((a.toNat * 256 : Nat) : Int) = a * 256
  omega
theorem kor8 {a c : Int} (h0 : 0 ≤ a) (h1 : a < 36028797018963968) (c0 : 0 ≤ c) (c1 : c < 256) : kor (a * 256) c = a * 256 + c := by
  rw [kor_e (by omega) (by omega) (by omega) (by omega)]
  have e : (a * 256).toNat = a.toNat <<< 8 := by
    rw [Nat.shiftLeft_eq]
    omega
  rw [e, ← Nat.shiftLeft_add_eq_or_of_lt (show c.toNat < 2 ^ 8 by show c.toNat < 256; omega), Nat.shiftLeft_eq]
  show ((a.toNat * 256 + c.toNat : Nat) : Int) = _
  omega
theorem kand_e {a b : Int} (h0 : 0 ≤ a) (h1 : a ≤ 9223372036854775807) (h2 : 0 ≤ b) (h3 : b ≤ 9223372036854775807) : kand a b = ((a.toNat &&& b.toNat : Nat) : Int) := by
  unfold kand
  have hle : a.toNat &&& b.toNat ≤ a.toNat := Nat.and_le_left
  refine toL_nat ?_ (by omega)
  show ((yl a).toBitVec &&& (yl b).toBitVec).toNat = _
  rw [BitVec.toNat_and, yl_natv h0 h1, yl_natv h2 h3]
theorem kand255 {a : Int} (h0 : 0 ≤ a) (h1 : a ≤ 9223372036854775807) : kand a 255 = a % 256 := by
  rw [kand_e h0 h1 (by omega) (by omega)]
  show ((a.toNat &&& 2 ^ 8 - 1 : Nat) : Int) = _
  rw [Nat.and_two_pow_sub_one_eq_mod]
  show ((a.toNat % 256 : Nat) : Int) = _
  omega
/-- the bits from a byte on -/
theorem kushr8 {a : Int} (h0 : 0 ≤ a) (h1 : a ≤ 9223372036854775807) {s : Nat} (hs : s < 8) : kushr a (ki2l ((8 * s : Nat) : Int)) = a / 256 ^ s := by
  have key : ∀ (z : UInt64), z.toNat = 8 * s → ((Int64.toUInt64 (yl a)) >>> z).toInt64.toInt = a / 256 ^ s := by
    intro z hz
    have hu : (Int64.toUInt64 (yl a)).toNat = a.toNat := yl_natv h0 h1
    have e1 : ((Int64.toUInt64 (yl a)) >>> z).toNat = a.toNat / 2 ^ (8 * s) := by
      rw [UInt64.toNat_shiftRight, hu, hz, Nat.mod_eq_of_lt (by omega), Nat.shiftRight_eq_div_pow]
    have hle : a.toNat / 2 ^ (8 * s) ≤ a.toNat := Nat.div_le_self _ _
    have e2 : ((Int64.toUInt64 (yl a)) >>> z).toInt64.toInt = (((Int64.toUInt64 (yl a)) >>> z).toNat : Int) := toL_nat (x := ((Int64.toUInt64 (yl a)) >>> z).toInt64) rfl (by rw [e1]; omega)
    rw [e2, e1, Int.natCast_ediv, Nat.pow_mul, show (2 : Nat) ^ 8 = 256 from rfl, Int.natCast_pow, Int.toNat_of_nonneg h0]
    rfl
  have h8 : s = 0 ∨ s = 1 ∨ s = 2 ∨ s = 3 ∨ s = 4 ∨ s = 5 ∨ s = 6 ∨ s = 7 := by omega
  unfold kushr
  refine key _ ?_
  rcases h8 with rfl | rfl | rfl | rfl | rfl | rfl | rfl | rfl <;> decide
end
/-! draft 705.typed -/
section
/-! ===== a sign is typed ===== -/
/-- the reader's text -/
def RD (M : xM) (T : List Int) : Prop := iV M 134 0 = T.length ∧ T.length ≤ 120 ∧ (∀ j : Nat, j < T.length → iV M 136 j = T.getD j 0) ∧ ∀ y, y ∈ T → 0 ≤ y ∧ y ≤ 127
section TYP
variable {O : Nat → Option va_E} {f : Nat} {M N : xM} {T : List Int} {c : Int} {γ : Type}
theorem nar_c : ∀ n : Nat, n < 128 → vp_nar .char (yw (ji2c (n : Int))) = yw (n : Int) := by decide +kernel
theorem z_wC {B : xM → Option γ} {k n : Nat} {i : Int} (hb : inM M k) (hs : mS M k = .inr (4, n)) (h0 : 0 ≤ i) (h1 : i < n) (h2 : i ≤ 2147483647) (c0 : 0 ≤ c) (c1 : c ≤ 127) : (wJC M k i (ji2c c)).bind B = B (iS M k i.toNat c) := by
  obtain ⟨z, ez⟩ := Int.eq_ofNat_of_zero_le c0
  have q := nar_c z (by omega)
  unfold wJC
  rw [c_wC hb.1 hb.2 hs h0 h1 ⟨by omega, h2⟩, ez, q]
  rfl
theorem rd_app (h : Wd M) (r : RD M T) (hl : T.length < 120) (c0 : 0 ≤ c) (c1 : c ≤ 127) : ∃ N, f_Reader_append O f 134 c M = some ((), N) ∧ RD N (T ++ [c]) ∧ Un (fun a => a ≠ 134 ∧ a ≠ 136) M N := by
  obtain ⟨r1, r2, r3, r4⟩ := r
  obtain ⟨E, eE⟩ : ∃ E, E = iS M 136 T.length c := ⟨_, rfl⟩
  have wE : Wd E := by rw [eE]; exact h
  have sh : shp 136 = .inr (4, 120) := by decide
  have lE : iV E 134 0 = T.length := by rw [eE, iV_o (by omega), r1]
  refine ⟨iS E 134 0 ((T.length : Int) + 1), ?_, ⟨?_, ?_, fun j hj => ?_, fun y hy => ?_⟩, ?_⟩
  · unfold f_Reader_append
    rw [a_Reader_length h, r1, lt_F (by omega) (by omega) (by omega), a_Reader_length h, r1, a_Reader_text h, n_Reader_text h, lt_T (by omega) (by omega) (by omega), a_Reader_text h, a_Reader_length h, r1, z_wC (h.b (by decide)) ((h.s (by decide)).trans sh) (by omega) (by omega) (by omega) c0 c1, Int.toNat_natCast, ← eE, a_Reader_length wE, lE, p_Reader_length wE]
  · rw [iV_s (by omega) (by omega), List.length_append]
    rfl
  · rw [List.length_append]
    show T.length + 1 ≤ 120
    omega
  · rw [List.length_append] at hj
    have hj' : j < T.length + 1 := hj
    rw [iV_o (by omega), eE, gd_app]
    by_cases q : j < T.length
    · rw [if_pos q, iV_o (by omega)]
      exact r3 j q
    · rw [if_neg q, show j = T.length by omega, iV_s (by omega) (by omega), Nat.sub_self]
      rfl
  · rcases List.mem_append.mp hy with z | z
    · exact r4 y z
    · rw [List.mem_singleton] at z
      omega
  · rw [eE]
    exact (Un.rf.iS (by (try dsimp only); omega)).iS (by (try dsimp only); omega)
end TYP
end
/-! draft 706.typed2 -/
section
/-! ===== a long of signs is typed ===== -/
/-- the signs of a long, from so many bytes down -/
def bys (V : Int) : Nat → List Int
  | 0 => []
  | s + 1 => (if V / 256 ^ s % 256 = 0 then [] else [V / 256 ^ s % 256]) ++ bys V s
section TY2
variable {O : Nat → Option va_E} {f : Nat} {M N : xM} {T : List Int} {V : Int}
theorem bys_len {V : Int} : ∀ s, (bys V s).length ≤ s
  | 0 => Nat.le_refl _
  | s + 1 => by
    have ih := bys_len (V := V) s
    unfold bys
    rw [List.length_append]
    split
    · show 0 + _ ≤ s + 1
      omega
    · show 1 + _ ≤ s + 1
      omega
theorem ty_60 (v0 : 0 ≤ V) (v1 : V ≤ 9223372036854775807) (va : ∀ s : Nat, s < 8 → V / 256 ^ s % 256 ≤ 127) : ∀ (s t : Nat) (T : List Int) (M : xM), Wd M → RD M T → T.length + (bys V s).length ≤ 120 → s ≤ 8 → s < t → ∃ N, f_Calendarhall_type_60 O f t 1 V (8 * (s : Int) - 8) M = some (((T ++ bys V s).length : Int), N) ∧ RD N (T ++ bys V s) ∧ Un (fun a => a ≠ 134 ∧ a ≠ 136) M N := by
  intro s
  induction s with
  | zero =>
    intro t T M h r hl _ ht
    obtain ⟨t, rfl⟩ : ∃ n', t = n' + 1 := ⟨t - 1, by omega⟩
    refine ⟨M, ?_, by rw [show bys V 0 = [] from rfl, List.append_nil]; exact r, Un.rf⟩
    show (if yw (8 * (((0 : Nat)) : Int) - 8) < yw 0 then _ else _) = _
    rw [lt_T (by omega) (by omega) (by omega), a_Cal_reader h, a_Reader_length h, r.1, show bys V 0 = [] from rfl, List.append_nil]
  | succ s ih =>
    intro t T M h r hl hs ht
    obtain ⟨t, rfl⟩ : ∃ n', t = n' + 1 := ⟨t - 1, by omega⟩
    have ek : kand (kushr V (ki2l (8 * ((s + 1 : Nat) : Int) - 8))) 255 = V / 256 ^ s % 256 := by
      have q0 : 0 ≤ V / 256 ^ s := Int.ediv_nonneg v0 (Int.le_of_lt (Int.pow_pos (by decide)))
      have q1 : V / 256 ^ s ≤ V := Int.ediv_le_self _ v0
      rw [show 8 * ((s + 1 : Nat) : Int) - 8 = ((8 * s : Nat) : Int) by omega, kushr8 v0 v1 (by omega), kand255 q0 (by omega)]
    have b0 : 0 ≤ V / 256 ^ s % 256 := Int.emod_nonneg _ (by decide)
    have b1 := va s (by omega)
    show ∃ N, (if yw (8 * ((s + 1 : Nat) : Int) - 8) < yw 0 then _ else _) = _ ∧ _
    rw [lt_F (by omega) (by omega) (by omega), ek, xlet_e]
    by_cases c : V / 256 ^ s % 256 = 0
    · have e : bys V (s + 1) = bys V s := by
        unfold bys
        rw [if_pos c]
        cases s <;> rfl
      rw [e] at hl
      obtain ⟨N, eN, rN, uN⟩ := ih t T M h r hl (by omega) (by omega)
      rw [eq_T c, e, show 8 * ((s + 1 : Nat) : Int) - 8 + -8 = 8 * (s : Int) - 8 by omega]
      exact ⟨N, eN, rN, uN⟩
    · have e : bys V (s + 1) = [V / 256 ^ s % 256] ++ bys V s := by
        show (if V / 256 ^ s % 256 = 0 then [] else [V / 256 ^ s % 256]) ++ bys V s = _
        rw [if_neg c]
      rw [e, List.length_append] at hl
      have hl' : T.length + (1 + (bys V s).length) ≤ 120 := hl
      obtain ⟨E, eE, rE, uE⟩ := rd_app (O := O) (f := f) h r (by omega) b0 b1
      obtain ⟨N, eN, rN, uN⟩ := ih t (T ++ [V / 256 ^ s % 256]) E (uE.wd h) rE (by rw [List.length_append]; show T.length + 1 + _ ≤ 120; omega) (by omega) (by omega)
      rw [eq_F c (by omega) (by omega) (by omega) (by omega), a_Cal_reader h, a_Reader_is h, eE, xcl_e, e, ← List.append_assoc, show 8 * ((s + 1 : Nat) : Int) - 8 + -8 = 8 * (s : Int) - 8 by omega]
      exact ⟨N, eN, rN, uE.tr uN⟩
end TY2
end
/-! draft 707.typed3 -/
section
/-! ===== type ===== -/
section TY3
variable {O : Nat → Option va_E} {f : Nat} {M N : xM} {T : List Int} {V : Int}
theorem kcmp0 {b : Int} (h0 : 0 ≤ b) (h1 : b ≤ 255) : kcmp b 0 = if b = 0 then 0 else 1 := by
  by_cases c : b = 0
  · rw [if_pos c, c]
    decide
  · rw [if_neg c]
    exact kcmp_T (by omega) (by omega) (by omega)
theorem ty_5 (h : Wd M) (r : RD M T) (hl : T.length + (bys V 8).length ≤ 120) (v0 : 0 ≤ V) (v1 : V ≤ 9223372036854775807) (va : ∀ s : Nat, s < 8 → V / 256 ^ s % 256 ≤ 127) (hf : 20 ≤ f) : ∀ (p t s : Nat), s + p = 8 → p < t → ∃ N, f_Calendarhall_type_5 O f t 1 V ((bys V s).length : Int) (8 * (s : Int)) M = some (((T ++ bys V 8).length : Int), N) ∧ RD N (T ++ bys V 8) ∧ Un (fun a => a ≠ 134 ∧ a ≠ 136) M N := by
  intro p
  induction p with
  | zero =>
    intro t s hs ht
    obtain ⟨t, rfl⟩ : ∃ n', t = n' + 1 := ⟨t - 1, by omega⟩
    obtain rfl : s = 8 := by omega
    obtain ⟨N, eN, q⟩ := ty_60 (O := O) (f := f) v0 v1 va 8 f T M h r hl (by omega) (by omega)
    have bl := bys_len (V := V) 8
    refine ⟨N, ?_, q⟩
    have eN' : f_Calendarhall_type_60 O f f 1 V 56 M = some (((T ++ bys V 8).length : Int), N) := eN
    show (if yw 64 ≤ yw (8 * (((8 : Nat)) : Int)) then _ else _) = _
    rw [le_T (by omega) (by omega) (by omega), a_Cal_reader h, a_Reader_length h, r.1, le_T (by omega) (by omega) (by omega), eN']
  | succ p ih =>
    intro t s hs ht
    obtain ⟨t, rfl⟩ : ∃ n', t = n' + 1 := ⟨t - 1, by omega⟩
    have bl := bys_len (V := V) s
    have b0 : 0 ≤ V / 256 ^ s % 256 := Int.emod_nonneg _ (by decide)
    have b1 := va s (by omega)
    have ek : kand (kushr V (ki2l (8 * (s : Int)))) 255 = V / 256 ^ s % 256 := by
      have q0 : 0 ≤ V / 256 ^ s := Int.ediv_nonneg v0 (Int.le_of_lt (Int.pow_pos (by decide)))
      have q1 : V / 256 ^ s ≤ V := Int.ediv_le_self _ v0
      rw [show 8 * (s : Int) = ((8 * s : Nat) : Int) by omega, kushr8 v0 v1 (by omega), kand255 q0 (by omega)]
    obtain ⟨N, eN, q⟩ := ih t (s + 1) (by omega) (by omega)
    refine ⟨N, ?_, q⟩
    rw [show 8 * ((s + 1 : Nat) : Int) = 8 * (s : Int) + 8 by omega] at eN
    show (if yw 64 ≤ yw (8 * (s : Int)) then _ else _) = _
    rw [le_F (by omega) (by omega) (by omega), ek, kcmp0 b0 (by omega)]
    have st : bys V (s + 1) = (if V / 256 ^ s % 256 = 0 then [] else [V / 256 ^ s % 256]) ++ bys V s := rfl
    by_cases c : V / 256 ^ s % 256 = 0
    · rw [if_pos c, eq_T rfl]
      rw [st, if_pos c, List.nil_append] at eN
      exact eN
    · rw [if_neg c, eq_F (by omega) (by omega) (by omega) (by omega) (by omega)]
      rw [st, if_neg c, List.length_append, show (([V / 256 ^ s % 256].length + (bys V s).length : Nat) : Int) = ((bys V s).length : Int) + 1 by show ((1 + (bys V s).length : Nat) : Int) = _; omega] at eN
      exact eN
end TY3
end
/-! draft 708.pack2 -/
section
/-! ===== the law packs eight signs ===== -/
def chL (L : List Int) (i : Nat) : Int := if i < L.length then L.getD i 0 else 0
def pkL (L : List Int) (v : Nat) : Nat → Int
  | 0 => 0
  | i + 1 => pkL L v i * 256 + chL L (v + i)
section PKL
variable {L : List Int} {v : Nat}
theorem chL_r (h : ∀ y, y ∈ L → 0 ≤ y ∧ y ≤ 127) (i : Nat) : 0 ≤ chL L i ∧ chL L i ≤ 127 := by
  unfold chL
  split
  · next g => exact h _ (getD_mem g)
  · omega
theorem pkL_r (h : ∀ y, y ∈ L → 0 ≤ y ∧ y ≤ 127) : ∀ i, 0 ≤ pkL L v i ∧ pkL L v i * 2 < 256 ^ i * 1 + (if i = 0 then 1 else 0)
  | 0 => by
    show (0 : Int) ≤ 0 ∧ (0 : Int) * 2 < 1 * 1 + 1
    omega
  | i + 1 => by
    have ih := pkL_r h i
    have c := chL_r h (v + i)
    have p : 0 < (256 : Int) ^ i := Int.pow_pos (by decide)
    show 0 ≤ pkL L v i * 256 + chL L (v + i) ∧ (pkL L v i * 256 + chL L (v + i)) * 2 < 256 ^ (i + 1) * 1 + 0
    rw [Int.pow_succ]
    by_cases z : i = 0
    · subst z
      show 0 ≤ (0 : Int) * 256 + chL L (v + 0) ∧ ((0 : Int) * 256 + chL L (v + 0)) * 2 < 1 * 256 * 1 + 0
      have := chL_r h (v + 0)
      omega
    · rw [if_neg z] at ih
      omega
theorem pkL_div (h : ∀ y, y ∈ L → 0 ≤ y ∧ y ≤ 127) : ∀ s i, s ≤ i → pkL L v i / 256 ^ s = pkL L v (i - s)
  | 0, i, _ => by
    rw [Int.pow_zero, Int.ediv_one]
    rfl
  | s + 1, i, hs => by
    have ih := pkL_div h s i (by omega)
    have c := chL_r h (v + (i - (s + 1)))
    rw [Int.pow_succ, ← Int.ediv_ediv_of_nonneg (Int.le_of_lt (Int.pow_pos (by decide))), ih, show i - s = (i - (s + 1)) + 1 by omega]
    show (pkL L v (i - (s + 1)) * 256 + chL L (v + (i - (s + 1)))) / 256 = _
    omega
end PKL
end
/-! draft 709.lawtype -/
section
/-! ===== the law types eight signs ===== -/
section LTY
variable {O : Nat → Option va_E} {f u v : Nat} {M N : xM} {L : List Int} {T : List Int}
theorem lt_20 {K : Nat → Nat → Int → xM → Option (Unit × xM)} (w : Wd M) (hs : SG O M u L) (hv : v ≤ 1000) : ∀ (r t i : Nat), i + r = 8 → r < t → f_Law_type_20 O f K t 1 u (v : Int) (pkL L v i) ((v : Int) + i) M = (xcl (f_Calendarhall_type O f 1 (pkL L v 8) M) fun _ M1 => K 1 u ((v : Int) + 8) M1) := by
  have l := hs.2.2.2.1
  have ch := hs.2.2.1
  intro r
  induction r with
  | zero =>
    intro t i hi ht
    obtain ⟨t, rfl⟩ : ∃ n', t = n' + 1 := ⟨t - 1, by omega⟩
    obtain rfl : i = 8 := by omega
    show (if yw ((v : Int) + 8) ≤ yw ((v : Int) + ((8 : Nat) : Int)) then _ else _) = _
    rw [le_T (by omega) (by omega) (by omega), a_Cal_is w]
  | succ r ih =>
    intro t i hi ht
    obtain ⟨t, rfl⟩ : ∃ n', t = n' + 1 := ⟨t - 1, by omega⟩
    have q := ih t (i + 1) (by omega) (by omega)
    have pr := pkL_r (v := v) ch i
    have c := chL_r ch (v + i)
    have sm : pkL L v i < 36028797018963968 := by
      have h8 : i = 0 ∨ i = 1 ∨ i = 2 ∨ i = 3 ∨ i = 4 ∨ i = 5 ∨ i = 6 ∨ i = 7 := by omega
      rcases h8 with rfl | rfl | rfl | rfl | rfl | rfl | rfl | rfl <;> simp at pr <;> omega
    have stp : kor (kshl (pkL L v i) (kand (ki2l 8) 63)) (chL L (v + i)) = pkL L v (i + 1) := by
      rw [kshl8 pr.1 sm, kor8 pr.1 sm c.1 (by omega)]
      rfl
    rw [show (v : Int) + ((i + 1 : Nat) : Int) = (v : Int) + i + 1 by omega] at q
    show (if yw ((v : Int) + 8) ≤ yw ((v : Int) + (i : Int)) then _ else _) = _
    rw [le_F (by omega) (by omega) (by omega), hs.is, length_ok hs, xcl_e]
    unfold f_Law_type_53
    by_cases g : (L.length : Int) ≤ (v : Int) + i
    · have e : chL L (v + i) = 0 := if_neg (by omega)
      rw [e] at stp
      rw [le_T g (by omega) (by omega), stp, q]
    · have e : chL L (v + i) = L.getD (v + i) 0 := if_pos (by omega)
      rw [e] at stp c
      rw [le_F (by omega) (by omega) (by omega), hs.is, charAt_ok hs (by omega) (by omega), xcl_e, show ((v : Int) + (i : Int)).toNat = v + i by omega, ki2l_e (a := L.getD (v + i) 0) (by omega) (by omega), stp, q]
end LTY
end
/-! draft 710.unpack -/
section
/-! ===== what was packed is typed ===== -/
section UPK
variable {L : List Int} {v : Nat}
theorem bys_pk (h : ∀ y, y ∈ L → 1 ≤ y ∧ y ≤ 127) : ∀ s, s ≤ 8 → bys (pkL L v 8) s = (L.drop (v + 8 - s)).take s
  | 0, _ => by
    rw [List.take_zero]
    rfl
  | s + 1, hs => by
    have h0 : ∀ y, y ∈ L → 0 ≤ y ∧ y ≤ 127 := fun y hy => ⟨by have := (h y hy).1; omega, (h y hy).2⟩
    have ih := bys_pk h s (by omega)
    have c := chL_r h0 (v + (7 - s))
    have e : pkL L v 8 / 256 ^ s % 256 = chL L (v + (7 - s)) := by
      rw [pkL_div h0 s 8 (by omega), show 8 - s = (7 - s) + 1 by omega]
      show (pkL L v (7 - s) * 256 + chL L (v + (7 - s))) % 256 = _
      omega
    show (if pkL L v 8 / 256 ^ s % 256 = 0 then [] else [pkL L v 8 / 256 ^ s % 256]) ++ bys (pkL L v 8) s = _
    rw [e, ih, show v + 8 - (s + 1) = v + (7 - s) by omega, show v + 8 - s = v + (7 - s) + 1 by omega]
    by_cases g : v + (7 - s) < L.length
    · have e2 : chL L (v + (7 - s)) = L.getD (v + (7 - s)) 0 := if_pos g
      have q := h _ (getD_mem g)
      rw [e2, if_neg (by omega), List.drop_eq_getElem_cons g, List.take_succ_cons]
      congr 1
      rw [List.getD_eq_getElem?_getD, List.getElem?_eq_getElem g]
      rfl
    · have e2 : chL L (v + (7 - s)) = 0 := if_neg g
      rw [e2, if_pos rfl, List.drop_eq_nil_of_le (by omega), List.drop_eq_nil_of_le (by omega), List.take_nil, List.take_nil]
      rfl
end UPK
end
/-! draft 711.typeall -/
section
/-! ===== a text is typed ===== -/
section TYA
variable {O : Nat → Option va_E} {f u v : Nat} {M N : xM} {L : List Int} {T : List Int}
theorem sg_ne2 (h : SG O M u L) (w : Wd M) : (u ≠ 134 ∧ u ≠ 136) ∧ u + 1 ≠ 134 ∧ u + 1 ≠ 136 := by
  obtain ⟨⟨fs, e1, -⟩, ⟨g, e2, -⟩, -⟩ := h
  have cell : ∀ k : Nat, k < 1044 → xrd O (hp M) k = some (mcell (shp k) (mI M k) (mL M k) (mR M k)) := fun k hk => by
    have b := w.b hk
    have h2 : k < (hp M).1 := b.2
    unfold xrd
    rw [if_pos b.1, if_pos h2, hp_cell, w.s hk]
  have c4 := cell 134 (by decide)
  have c6 := cell 136 (by decide)
  rw [show shp 134 = .inl 8 from by decide] at c4
  rw [show shp 136 = .inr (4, 120) from by decide] at c6
  refine ⟨⟨fun e => ?_, fun e => ?_⟩, fun e => ?_, fun e => ?_⟩
  · rw [e, c4] at e1
    cases e1
  · rw [e, c6] at e1
    cases e1
  · rw [e, c4] at e2
    cases e2
  · rw [e, c6] at e2
    cases e2
theorem lty_7 (h1 : ∀ y, y ∈ L → 1 ≤ y ∧ y ≤ 127) (hl : L.length ≤ 120) (hf : 100 ≤ f) : ∀ (r t : Nat) (v : Nat) (M : xM), Wd M → SG O M u L → RD M (L.take v) → L.length ≤ v + 8 * r → v ≤ 200 → r < t → ∃ N, f_Law_type_7 O f t 1 u (v : Int) M = some ((), N) ∧ RD N L ∧ Un (fun a => a ≠ 134 ∧ a ≠ 136) M N := by
  have h0 : ∀ y, y ∈ L → 0 ≤ y ∧ y ≤ 127 := fun y hy => ⟨by have := (h1 y hy).1; omega, (h1 y hy).2⟩
  intro r
  induction r with
  | zero =>
    intro t v M w hs rd hr hv ht
    obtain ⟨t, rfl⟩ : ∃ n', t = n' + 1 := ⟨t - 1, by omega⟩
    rw [List.take_of_length_le (by omega)] at rd
    refine ⟨M, ?_, rd, Un.rf⟩
    show ((isO O M u 0).bind fun _ => _) = _
    rw [hs.is, length_ok hs, xcl_e, le_T (by omega) (by omega) (by omega)]
  | succ r ih =>
    intro t v M w hs rd hr hv ht
    obtain ⟨t, rfl⟩ : ∃ n', t = n' + 1 := ⟨t - 1, by omega⟩
    show ∃ N, ((isO O M u 0).bind fun _ => _) = _ ∧ _
    rw [hs.is, length_ok hs, xcl_e]
    by_cases g : (L.length : Int) ≤ (v : Int)
    · rw [List.take_of_length_le (by omega)] at rd
      rw [le_T g (by omega) (by omega)]
      exact ⟨M, rfl, rd, Un.rf⟩
    have pr := (pkL_r (v := v) h0 8)
    have p8 : (256 : Int) ^ 8 = 18446744073709551616 := by decide
    rw [p8, if_neg (by decide)] at pr
    have bk := bys_pk (v := v) h1 8 (by omega)
    rw [show v + 8 - 8 = v by omega] at bk
    have lt : (L.take v).length = v := by rw [List.length_take]; omega
    have ld : ((L.drop v).take 8).length ≤ L.length - v := by rw [List.length_take, List.length_drop]; omega
    obtain ⟨K, eK, rK, uK⟩ := ty_5 (O := O) (f := f) (V := pkL L v 8) w rd (by rw [bk, lt]; omega) pr.1 (by omega) (fun s hs => by
      rw [pkL_div h0 s 8 (by omega), show 8 - s = (7 - s) + 1 by omega]
      have c := chL_r h0 (v + (7 - s))
      show (pkL L v (7 - s) * 256 + chL L (v + (7 - s))) % 256 ≤ 127
      omega) (by omega) 8 f 0 (by omega) (by omega)
    have tk : L.take v ++ bys (pkL L v 8) 8 = L.take (v + 8) := by rw [bk, List.take_add]
    rw [tk] at rK
    have ne := sg_ne2 hs w
    obtain ⟨N, eN, rN, uN⟩ := ih t (v + 8) K (uK.wd w) (hs.kq uK.kq (fun _ => ⟨ne.1, ne.2⟩)) rK (by omega) (by omega) (by omega)
    have e20 := lt_20 (O := O) (f := f) (K := f_Law_type_7 O f t) (v := v) w hs (by omega) 8 f 0 (by omega) (by omega)
    rw [show pkL L v 0 = 0 from rfl, show (v : Int) + ((0 : Nat) : Int) = v by omega] at e20
    have eT : f_Calendarhall_type O f 1 (pkL L v 8) M = some (((L.take v ++ bys (pkL L v 8) 8).length : Int), K) := eK
    rw [show ((v + 8 : Nat) : Int) = (v : Int) + 8 by omega] at eN
    rw [le_F (by omega) (by omega) (by omega), e20, eT, xcl_e]
    exact ⟨N, eN, rN, uK.tr uN⟩
end TYA
end
