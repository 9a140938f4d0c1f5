/-! draft 533.arealike -/
section
/-! ===== the law's rows of two devices ===== -/
def LW (n0 : Nat) (M : xM) : Prop := 1044 ≤ n0 ∧ (M.1 = n0 + 7 ∧ M.2.1 ≤ 40000) ∧ mS M n0 = .inr (0, 2) ∧ mS M (n0 + 1) = .inr (5, 2) ∧ mS M (n0 + 4) = .inr (5, 2) ∧ (∀ d : Nat, d < 2 → mS M (n0 + 2 + d) = .inr (0, 48) ∧ mS M (n0 + 5 + d) = .inr (0, 48) ∧ mR M (n0 + 1) d = some (n0 + 2 + d) ∧ mR M (n0 + 4) d = some (n0 + 5 + d))
def Lr (n0 : Nat) (M : xM) : Prop := ∀ d : Nat, d < 2 → iV M n0 d = iV M (101 + 7 * d) 1 ∧ ∀ p : Nat, p < 48 → (iV M (n0 + 2 + d) p = -1 ∧ ∀ i : Nat, (i : Int) < iV M (101 + 7 * d) 1 → iV M (102 + 7 * d) i ≠ p) ∨ ∃ i : Nat, (i : Int) < iV M (101 + 7 * d) 1 ∧ iV M (102 + 7 * d) i = p ∧ iV M (n0 + 2 + d) p = iV M (104 + 7 * d) i ∧ iV M (n0 + 5 + d) p = iV M (103 + 7 * d) i ∧ ∀ j : Nat, (j : Int) < iV M (101 + 7 * d) 1 → iV M (102 + 7 * d) j = p → j ≤ i
def GB (M : xM) (G : Nat → Nat → Prop) : Prop := ∀ m i, m < 2 → G m i → (i : Int) < iV M (101 + 7 * m) 1
def QQ (n0 : Nat) (M : xM) (G : Nat → Nat → Prop) : Prop := Qd M G ∧ LW n0 M ∧ Lr n0 M ∧ GB M G
section ALW
variable {O : Nat → Option va_E} {f n0 : Nat} {M N : xM} {G : Nat → Nat → Prop} {γ : Type} {i : Int}
theorem LW.sm (h : LW n0 M) (s : Sm M N) : LW n0 N := by
  obtain ⟨a, b, c, d, e, g⟩ := h
  refine ⟨a, ⟨by rw [s.1]; exact b.1, by rw [s.2.1]; exact b.2⟩, by rw [s.s]; exact c, by rw [s.s]; exact d, by rw [s.s]; exact e, fun k hk => ?_⟩
  rw [s.s, s.s, s.r, s.r]
  exact g k hk
theorem LW.b (h : LW n0 M) (w : Wd M) {k : Nat} (hk : k < 7) : inM M (n0 + k) := ⟨by have := h.2.1; have := w.2.1; omega, by have := h.2.1; omega⟩
theorem LW.made (h : LW n0 M) (w : Wd M) (h0 : 0 ≤ i) (h1 : i < 2) {A : Int → Option γ} : (aJ O M n0 i).bind A = A (iV M n0 i.toNat) := z_aJ (h.b w (k := 0) (by omega)) h.2.2.1 h0 h1 (by omega)
theorem LW.clk (h : LW n0 M) (w : Wd M) (h0 : 0 ≤ i) (h1 : i < 2) {A : Nat → Option γ} : (aJR O M (n0 + 1) i).bind A = A (n0 + 2 + i.toNat) := z_aJR (h.b w (by omega)) h.2.2.2.1 (by decide) h0 h1 (by omega) (h.2.2.2.2.2 i.toNat (by omega)).2.2.1
theorem LW.val (h : LW n0 M) (w : Wd M) (h0 : 0 ≤ i) (h1 : i < 2) {A : Nat → Option γ} : (aJR O M (n0 + 4) i).bind A = A (n0 + 5 + i.toNat) := z_aJR (h.b w (by omega)) h.2.2.2.2.1 (by decide) h0 h1 (by omega) (h.2.2.2.2.2 i.toNat (by omega)).2.2.2
theorem LW.rc (h : LW n0 M) (w : Wd M) {d : Nat} (hd : d < 2) (h0 : 0 ≤ i) (h1 : i < 48) {A : Int → Option γ} : (aJ O M (n0 + 2 + d) i).bind A = A (iV M (n0 + 2 + d) i.toNat) := z_aJ (by rw [Nat.add_assoc]; exact h.b w (by omega)) (h.2.2.2.2.2 d hd).1 h0 h1 (by omega)
theorem LW.rv (h : LW n0 M) (w : Wd M) {d : Nat} (hd : d < 2) (h0 : 0 ≤ i) (h1 : i < 48) {A : Int → Option γ} : (aJ O M (n0 + 5 + d) i).bind A = A (iV M (n0 + 5 + d) i.toNat) := z_aJ (by rw [Nat.add_assoc]; exact h.b w (by omega)) (h.2.2.2.2.2 d hd).2.1 h0 h1 (by omega)
theorem LW.wc (h : LW n0 M) (w : Wd M) {d : Nat} {x : Int} (hd : d < 2) (h0 : 0 ≤ i) (h1 : i < 48) {A : xM → Option γ} : (wJ M (n0 + 2 + d) i x).bind A = A (iS M (n0 + 2 + d) i.toNat x) := z_wJ (by rw [Nat.add_assoc]; exact h.b w (by omega)) (h.2.2.2.2.2 d hd).1 h0 h1 (by omega)
theorem LW.wv (h : LW n0 M) (w : Wd M) {d : Nat} {x : Int} (hd : d < 2) (h0 : 0 ≤ i) (h1 : i < 48) {A : xM → Option γ} : (wJ M (n0 + 5 + d) i x).bind A = A (iS M (n0 + 5 + d) i.toNat x) := z_wJ (by rw [Nat.add_assoc]; exact h.b w (by omega)) (h.2.2.2.2.2 d hd).2.1 h0 h1 (by omega)
theorem LW.wm (h : LW n0 M) (w : Wd M) {x : Int} (h0 : 0 ≤ i) (h1 : i < 2) {A : xM → Option γ} : (wJ M n0 i x).bind A = A (iS M n0 i.toNat x) := z_wJ (h.b w (k := 0) (by omega)) h.2.2.1 h0 h1 (by omega)
theorem Lr.same (h : Lr n0 M) (h1 : ∀ a j, 1044 ≤ a → iV N a j = iV M a j) (hn : 1044 ≤ n0) (h2 : ∀ d, d < 2 → iV N (101 + 7 * d) 1 = iV M (101 + 7 * d) 1) (h3 : ∀ t d j, d < 2 → t = 102 ∨ t = 103 ∨ t = 104 → iV N (t + 7 * d) j = iV M (t + 7 * d) j) : Lr n0 N := by
  intro d hd
  obtain ⟨a, b⟩ := h d hd
  rw [h2 d hd, h1 n0 _ hn]
  refine ⟨a, fun p hp => ?_⟩
  rw [h1 (n0 + 2 + d) _ (by omega), h1 (n0 + 5 + d) _ (by omega)]
  have e1 : ∀ j, iV N (102 + 7 * d) j = iV M (102 + 7 * d) j := fun j => h3 102 d j hd (by omega)
  have e2 : ∀ j, iV N (103 + 7 * d) j = iV M (103 + 7 * d) j := fun j => h3 103 d j hd (by omega)
  have e3 : ∀ j, iV N (104 + 7 * d) j = iV M (104 + 7 * d) j := fun j => h3 104 d j hd (by omega)
  rcases b p hp with ⟨q1, q2⟩ | ⟨i, q1, q2, q3, q4, q5⟩
  · exact Or.inl ⟨q1, fun i hi => by rw [e1]; exact q2 i hi⟩
  · exact Or.inr ⟨i, q1, by rw [e1]; exact q2, by rw [e3]; exact q3, by rw [e2]; exact q4, fun j hj hp => q5 j hj (by rw [← e1]; exact hp)⟩
theorem QQ.draw (h : QQ n0 M G) : QQ n0 (dM M) G := by
  obtain ⟨⟨a, b, c, d⟩, e, g, l⟩ := h
  exact ⟨⟨a, b, c, d.un (dM_un.le (fun a q => by (try dsimp only at q ⊢); omega))⟩, e.sm dM_un.1, g, l⟩
/-- what is delivered, for the law too -/
theorem dl_qq {e : Nat} {x : Int} (h : QQ n0 M G) (he : e < 2) (i0 : 0 ≤ x) (i1 : x < iV M n0 e) (hf : 20 ≤ f) : ∃ M' r, f_Calendarhall_deliver O f 1 (e : Int) x M = some (r, M') ∧ QQ n0 M' (fun m j => G m j ∨ (m = e ∧ j = x.toNat)) ∧ (∀ d, d < 2 → iV M' n0 d = iV M n0 d) ∧ Sm M M' := by
  obtain ⟨hq, hl, hr, hg⟩ := h
  have hn := hl.1
  rw [(hr e he).1] at i1
  obtain ⟨M', r, e1, u, q, hc⟩ := dl_ok (O := O) (e' := 1 - e) hq he rfl i0 i1 hf
  have hct : ∀ d, d < 2 → iV M' (101 + 7 * d) 1 = iV M (101 + 7 * d) 1 := by
    intro d hd
    by_cases g : d = 1 - e
    · rw [g]
      exact hc
    · exact u.i (by (try dsimp only); omega)
  refine ⟨M', r, e1, ⟨q, hl.sm u.1, hr.same (fun a j ha => u.i (by (try dsimp only); omega)) hn hct (fun t d j hd ht => u.i (by (try dsimp only); omega)), ?_⟩, fun d hd => u.i (by (try dsimp only); omega), u.1⟩
  intro m j m2 hm
  rw [hct m m2]
  rcases hm with hm | ⟨rfl, rfl⟩
  · exact hg m j m2 hm
  · omega
theorem al_93b {K : Nat → Nat → Nat → Nat → Nat → Int → Int → xM → Option (Int × xM)} {v5 v6 : Int} {k : Nat} (Q6 : QQ n0 M G) (hk : k < 2) (hf : 20 ≤ f) : ∃ M' G', ((isO O M 0 15).bind fun _ => xcl (f_LDraw_is O f 0 3 M) fun x9 M8 => if yw x9 = yw 0 then K 1 0 n0 (n0 + 1) (n0 + 4) v5 (v6 + 1) M8 else (aJ O M8 n0 (1 - (k : Int))).bind fun x10 => if yw x10 ≤ yw 0 then K 1 0 n0 (n0 + 1) (n0 + 4) v5 (v6 + 1) M8 else (aJ O M8 n0 (1 - (k : Int))).bind fun x11 => (isO O M8 0 15).bind fun _ => xcl (f_LDraw_n O f 0 x11 M8) fun x12 M9 => (isO O M9 1 12).bind fun _ => xcl (f_Calendarhall_deliver O f 1 (1 - (k : Int)) x12 M9) fun x13 M10 => K 1 0 n0 (n0 + 1) (n0 + 4) v5 (v6 + 1) M10) = K 1 0 n0 (n0 + 1) (n0 + 4) v5 (v6 + 1) M' ∧ QQ n0 M' G' := by
  have w6 := Q6.1.1
  have kz' : (1 - (k : Int)).toNat = 1 - k := by omega
  have Q8 := Q6.draw
  have w8 := Q8.1.1
  rw [w6.is (k := 0) (ci := 15) (by decide) (by decide), c_is w6 (by omega) (by omega)]
  generalize dV M 3 = z
  obtain ⟨M8, e8⟩ : ∃ M8, M8 = dM M := ⟨_, rfl⟩
  rw [← e8] at Q8 w8 ⊢
  by_cases x9 : z = 0
  · rw [if_pos x9, eq_F (by omega) (by omega) (by omega) (by omega) (by omega), Q8.2.1.made w8 (by omega) (by omega), kz']
    have rm := iV_r M8 n0 (1 - k)
    by_cases y : iV M8 n0 (1 - k) ≤ 0
    · rw [le_T y (by omega) (by omega)]
      exact ⟨_, G, rfl, Q8⟩
    · rw [le_F (by omega) (by omega) (by omega), Q8.2.1.made w8 (by omega) (by omega), kz', w8.is (k := 0) (ci := 15) (by decide) (by decide), c_n w8 (by omega) rm.2]
      have Q9 := Q8.draw
      have w9 := Q9.1.1
      have r9 := dV_r (M := M8) (m := iV M8 n0 (1 - k)) (by omega)
      have d9 : iV (dM M8) n0 (1 - k) = iV M8 n0 (1 - k) := dM_i
      generalize dV M8 (iV M8 n0 (1 - k)) = x12 at r9 ⊢
      obtain ⟨M9, e9⟩ : ∃ M9, M9 = dM M8 := ⟨_, rfl⟩
      rw [← e9] at Q9 w9 d9 ⊢
      obtain ⟨M', r, e', Q', -, -⟩ := dl_qq (O := O) (f := f) (e := 1 - k) (x := x12) Q9 (by omega) r9.1 (by omega) hf
      rw [a_Cal_is w9, show (1 - (k : Int)) = ((1 - k : Nat) : Int) by omega, e', xcl_e]
      exact ⟨M', _, rfl, Q'⟩
  · rw [if_neg x9, eq_T rfl]
    exact ⟨_, G, rfl, Q8⟩
/-- one turn of the law's first loop -/
theorem al_93 {K : Nat → Nat → Nat → Nat → Nat → Int → Int → xM → Option (Int × xM)} {v5 v6 d s : Int} (h : QQ n0 M G) (hd : 0 ≤ d) (hd1 : d < 2) (hs : 0 < s) (hs1 : s ≤ 48) (hf : 20 ≤ f) : ∃ M' G', f_Law_areAlike_93 O f K 1 0 n0 (n0 + 1) (n0 + 4) v5 v6 d 0 s M = K 1 0 n0 (n0 + 1) (n0 + 4) v5 (v6 + 1) M' ∧ QQ n0 M' G' := by
  obtain ⟨k, rfl⟩ := Int.eq_ofNat_of_zero_le hd
  have hk : k < 2 := by omega
  clear hd hd1
  have hw := h.1.1
  have kz : ((k : Nat) : Int).toNat = k := by omega
  have kz' : (1 - (k : Int)).toNat = 1 - k := by omega
  have r1 := dV_r (M := M) hs
  have r2 := dV_r (M := dM M) (m := 1000) (by omega)
  obtain ⟨fl, efl⟩ : ∃ fl, fl = dV M s := ⟨_, rfl⟩
  obtain ⟨v, ev⟩ : ∃ v, v = dV (dM M) 1000 := ⟨_, rfl⟩
  have h2 : QQ n0 (dM (dM M)) G := h.draw.draw
  have w2 := h2.1.1
  obtain ⟨M2, e2⟩ : ∃ M2, M2 = dM (dM M) := ⟨_, rfl⟩
  have hw1 : Wd (dM M) := hw
  unfold f_Law_areAlike_93
  rw [hw.is (k := 0) (ci := 15) (by decide) (by decide), c_n hw hs (by omega), hw1.is (k := 0) (ci := 15) (by decide) (by decide), c_n hw1 (by omega) (by omega), ← e2, ← efl, ← ev]
  rw [← e2] at h2 w2
  rw [← efl] at r1
  rw [← ev] at r2
  obtain ⟨hq, hl, hr, hg⟩ := h2
  have hA := (hq.2.2.2 k hk).1
  rw [hl.made w2 (by omega) (by omega), kz]
  by_cases hm : iV M2 n0 k = 40
  · rw [eq_T hm]
    exact ⟨M2, G, rfl, hq, hl, hr, hg⟩
  have hmk := (hr k hk).1
  have rv := iV_r M2 n0 k
  rw [eq_F hm (by omega) (by omega) (by omega) (by omega), hl.clk w2 (by omega) (by omega), kz, jdiv_e (by omega) (by omega) (by omega) (by omega), show fl - fl / 4 * 4 = fl % 4 by omega, a_Cal_is w2]
  obtain ⟨M3, e3, u3, q3, c3, ro3, p3, v3, k3, s3⟩ := ch_ok (O := O) (f := f) (n := fl / 4) (q := fl % 4) (v := v) hq hg hk (by omega) (by omega) (by omega) (by omega) (by omega) (by omega) (by omega) hf
  have hfl : fl / 4 * 4 + fl % 4 = fl := by omega
  rw [hfl] at p3 s3
  have w3 := q3.1
  have l3 := hl.sm u3.1
  rw [e3, xcl_e, l3.wc w3 hk (by omega) (by omega)]
  obtain ⟨cl, ecl⟩ : ∃ cl, cl = iV M2 (101 + 7 * k) 0 + 1 := ⟨_, rfl⟩
  rw [← ecl] at k3 ⊢
  have A0 : 0 ≤ iV M2 101 1 ∧ iV M2 101 1 ≤ 40 := ⟨(hq.2.2.2 0 (by omega)).1.1, (hq.2.2.2 0 (by omega)).1.2.1⟩
  have A1 : 0 ≤ iV M2 108 1 ∧ iV M2 108 1 ≤ 40 := ⟨(hq.2.2.2 1 (by omega)).1.1, (hq.2.2.2 1 (by omega)).1.2.1⟩
  have w4 : Wd (iS M3 (n0 + 2 + k) fl.toNat cl) := w3
  have l4 : LW n0 (iS M3 (n0 + 2 + k) fl.toNat cl) := l3
  rw [l4.val w4 (by omega) (by omega), kz, l4.wv w4 hk (by omega) (by omega)]
  have w5 : Wd (iS (iS M3 (n0 + 2 + k) fl.toNat cl) (n0 + 5 + k) fl.toNat v) := w3
  have l5 : LW n0 (iS (iS M3 (n0 + 2 + k) fl.toNat cl) (n0 + 5 + k) fl.toNat v) := l3
  have hn := hl.1
  have m5 : iV (iS (iS M3 (n0 + 2 + k) fl.toNat cl) (n0 + 5 + k) fl.toNat v) n0 k = iV M2 n0 k := by
    rw [iV_o (by omega), iV_o (by omega)]
    exact u3.i (by (try dsimp only); omega)
  rw [l5.made w5 (by omega) (by omega), l5.wm w5 (by omega) (by omega), kz, m5]
  obtain ⟨M6, e6⟩ : ∃ M6, M6 = iS (iS (iS M3 (n0 + 2 + k) fl.toNat cl) (n0 + 5 + k) fl.toNat v) n0 k (iV M2 n0 k + 1) := ⟨_, rfl⟩
  rw [← e6]
  have u6 : Un (fun a => a < 1044) M3 M6 := by
    rw [e6]
    exact ((Un.rf.iS (by (try dsimp only); omega)).iS (by (try dsimp only); omega)).iS (by (try dsimp only); omega)
  have w6 : Wd M6 := u6.wd w3
  have l6 : LW n0 M6 := l3.sm u6.1
  have q6 : Qd M6 G := ⟨w6, q3.2.1.un u6 (by (try dsimp only); omega), q3.2.2.1.un u6 (fun k hk => by (try dsimp only); omega), q3.2.2.2.un (u6.le (fun a q => by (try dsimp only at q ⊢); omega))⟩
  have o6 : ∀ a j, a < 1044 → iV M6 a j = iV M3 a j := fun a j ha => u6.i ha
  have hc : ∀ d, d < 2 → d ≠ k → ∀ t j, 101 ≤ t → t ≤ 107 → iV M6 (t + 7 * d) j = iV M2 (t + 7 * d) j := by
    intro d hd hdk t j t1 t2
    rw [o6 _ _ (by omega)]
    exact u3.i (by (try dsimp only); omega)
  have hlaw : ∀ a j, 1044 ≤ a → iV M3 a j = iV M2 a j := fun a j ha => u3.i (by (try dsimp only); omega)
  have r6 : Lr n0 M6 := by
    intro d hd
    by_cases e : d = k
    · subst e
      rw [o6 (101 + 7 * d) _ (by omega), c3]
      refine ⟨?_, fun p hp => ?_⟩
      · rw [e6, iV_s (by omega) (by omega)]
        omega
      · by_cases ep : (p : Int) = fl
        · refine Or.inr ⟨(iV M2 (101 + 7 * d) 1).toNat, by omega, ?_, ?_, ?_, fun j hj _ => by omega⟩
          · rw [o6 _ _ (by omega), p3, ep]
          · rw [o6 (104 + 7 * d) _ (by omega), k3, e6, iV_o (by omega), iV_o (by omega), show p = fl.toNat by omega, iV_s (by omega) (by omega)]
          · rw [o6 (103 + 7 * d) _ (by omega), v3, e6, iV_o (by omega), show p = fl.toNat by omega, iV_s (by omega) (by omega)]
        · have x2 : iV M6 (n0 + 2 + d) p = iV M2 (n0 + 2 + d) p := by
            rw [e6, iV_o (by omega), iV_o (by omega), iV_o (by omega)]
            exact hlaw _ _ (by omega)
          have x5 : iV M6 (n0 + 5 + d) p = iV M2 (n0 + 5 + d) p := by
            rw [e6, iV_o (by omega), iV_o (by omega), iV_o (by omega)]
            exact hlaw _ _ (by omega)
          have y : ∀ t j, t = 102 ∨ t = 103 ∨ t = 104 → j ≠ (iV M2 (101 + 7 * d) 1).toNat → iV M6 (t + 7 * d) j = iV M2 (t + 7 * d) j := by
            intro t j ht hj
            rw [o6 _ _ (by omega)]
            exact ro3 t j ht hj
          have yn : iV M6 (102 + 7 * d) (iV M2 (101 + 7 * d) 1).toNat ≠ p := by
            rw [o6 _ _ (by omega), p3]
            omega
          rw [x2, x5]
          rcases (hr d hd).2 p hp with ⟨g1, g2⟩ | ⟨i, g1, g2, g3, g4, g5⟩
          · refine Or.inl ⟨g1, fun i hi => ?_⟩
            by_cases ei : i = (iV M2 (101 + 7 * d) 1).toNat
            · rw [ei]
              exact yn
            · rw [y 102 i (by omega) ei]
              exact g2 i (by omega)
          · have ei : i ≠ (iV M2 (101 + 7 * d) 1).toNat := by omega
            refine Or.inr ⟨i, by omega, by rw [y 102 i (by omega) ei]; exact g2, by rw [y 104 i (by omega) ei]; exact g3, by rw [y 103 i (by omega) ei]; exact g4, fun j hj hp => ?_⟩
            by_cases ej : j = (iV M2 (101 + 7 * d) 1).toNat
            · rw [ej] at hp
              exact absurd hp yn
            · rw [y 102 j (by omega) ej] at hp
              exact g5 j (by omega) hp
    · obtain ⟨g1, g2⟩ := hr d hd
      have x0 : iV M6 n0 d = iV M2 n0 d := by
        rw [e6, iV_o (by omega), iV_o (by omega), iV_o (by omega)]
        exact hlaw _ _ (by omega)
      have x2 : ∀ p, iV M6 (n0 + 2 + d) p = iV M2 (n0 + 2 + d) p := by
        intro p
        rw [e6, iV_o (by omega), iV_o (by omega), iV_o (by omega)]
        exact hlaw _ _ (by omega)
      have x5 : ∀ p, iV M6 (n0 + 5 + d) p = iV M2 (n0 + 5 + d) p := by
        intro p
        rw [e6, iV_o (by omega), iV_o (by omega), iV_o (by omega)]
        exact hlaw _ _ (by omega)
      rw [hc d hd e 101 1 (by omega) (by omega), x0]
      refine ⟨g1, fun p hp => ?_⟩
      rw [x2, x5]
      rcases g2 p hp with ⟨z1, z2⟩ | ⟨i, z1, z2, z3, z4, z5⟩
      · exact Or.inl ⟨z1, fun i hi => by rw [hc d hd e 102 i (by omega) (by omega)]; exact z2 i hi⟩
      · exact Or.inr ⟨i, z1, by rw [hc d hd e 102 i (by omega) (by omega)]; exact z2, by rw [hc d hd e 104 i (by omega) (by omega)]; exact z3, by rw [hc d hd e 103 i (by omega) (by omega)]; exact z4, fun j hj hp => z5 j hj (by rw [← hc d hd e 102 j (by omega) (by omega)]; exact hp)⟩
  have g6 : GB M6 G := by
    intro m j m2 hm
    have := hg m j m2 hm
    by_cases e : m = k
    · rw [e] at this ⊢
      rw [o6 _ _ (by omega), c3]
      omega
    · rw [hc m m2 e 101 1 (by omega) (by omega)]
      exact this
  have Q6 : QQ n0 M6 G := ⟨q6, l6, r6, g6⟩
  have s6 : iV M6 (105 + 7 * k) fl.toNat = v := by
    rw [o6 _ _ (by omega)]
    exact s3
  rw [a_Cal_is w6, c_shown w6 (by omega) (by omega) (by omega) (by omega) (by omega) (by omega), kz, hfl, s6, eq_T rfl]
  exact al_93b Q6 hk hf
end ALW
end
/-! draft 534.alikeend -/
section
/-! ===== the law of two devices ===== -/
section ALE
variable {O : Nat → Option va_E} {f n0 : Nat} {M N : xM} {G : Nat → Nat → Prop} {γ : Type} {i : Int}
theorem QQ.un0 (h : QQ n0 M G) (u : Un (fun a => a ≠ 0) M N) : QQ n0 N G := by
  obtain ⟨⟨a, b, c, d⟩, e, g, l⟩ := h
  have hv : ∀ a j, a ≠ 0 → iV N a j = iV M a j := fun a j ha => u.i ha
  refine ⟨⟨u.wd a, b.un u (by (try dsimp only); omega), c.un u (fun k hk => by (try dsimp only); omega), d.un (u.le (fun a q => by (try dsimp only at q ⊢); omega))⟩, e.sm u.1, g.same (fun a j ha => hv a j (by omega)) e.1 (fun d hd => hv _ _ (by omega)) (fun t d j hd ht => hv _ _ (by omega)), fun m j m2 hm => ?_⟩
  rw [hv _ _ (by omega)]
  exact l m j m2 hm
theorem al_64 {v5 : Int} (h5 : 1 ≤ v5) (h5' : v5 ≤ 100) (hf : 20 ≤ f) : ∀ (r n : Nat) (v6 : Int) (M : xM) (G : Nat → Nat → Prop), QQ n0 M G → 0 ≤ v6 → v6 + r = v5 → r < n → ∃ M' G', f_Law_areAlike_64 O f n 1 0 n0 (n0 + 1) (n0 + 4) v5 v6 M = f_Law_areAlike_226 O f f 1 0 n0 (n0 + 1) (n0 + 4) 0 M' ∧ QQ n0 M' G' := by
  intro r
  induction r with
  | zero =>
    intro n v6 M G hQ h0 h1 h2
    obtain ⟨n, rfl⟩ : ∃ n', n = n' + 1 := ⟨n - 1, by omega⟩
    refine ⟨M, G, ?_, hQ⟩
    show (if yw v5 ≤ yw v6 then _ else _) = _
    rw [le_T (by omega) (by omega) (by omega)]
  | succ r ih =>
    intro n v6 M G hQ h0 h1 h2
    obtain ⟨n, rfl⟩ : ∃ n', n = n' + 1 := ⟨n - 1, by omega⟩
    have hw := hQ.1.1
    obtain ⟨d, M1, e1, d0, d1, w1, u1, -⟩ := dn_ok (O := O) (f := f) (m := 2) hw (by omega) (by omega)
    obtain ⟨b, M2, e2, hb, w2, u2, -⟩ := di_ok (O := O) (f := f) (m := 2) w1 (by omega) (by omega)
    have Q2 := (hQ.un0 u1).un0 u2
    have st : ∃ s : Int, 0 < s ∧ s ≤ 48 ∧ f_Law_areAlike_64 O f (n + 1) 1 0 n0 (n0 + 1) (n0 + 4) v5 v6 M = f_Law_areAlike_93 O f (f_Law_areAlike_64 O f n) 1 0 n0 (n0 + 1) (n0 + 4) v5 v6 d 0 s M2 := by
      have e : f_Law_areAlike_64 O f (n + 1) 1 0 n0 (n0 + 1) (n0 + 4) v5 v6 M = (if yw b = yw 0 then f_Law_areAlike_93 O f (f_Law_areAlike_64 O f n) 1 0 n0 (n0 + 1) (n0 + 4) v5 v6 d 0 5 M2 else f_Law_areAlike_93 O f (f_Law_areAlike_64 O f n) 1 0 n0 (n0 + 1) (n0 + 4) v5 v6 d 0 48 M2) := by
        show (if yw v5 ≤ yw v6 then _ else _) = _
        rw [le_F (by omega) (by omega) (by omega), hw.is (k := 0) (ci := 15) (by decide) (by decide), e1, xcl_e, w1.is (k := 0) (ci := 15) (by decide) (by decide), e2, xcl_e]
      rcases hb with hb | hb
      · exact ⟨5, by omega, by omega, by rw [e, eq_T hb]⟩
      · exact ⟨48, by omega, by omega, by rw [e, eq_F (by omega) (by omega) (by omega) (by omega) (by omega)]⟩
    obtain ⟨s, s0, s1, es⟩ := st
    obtain ⟨M3, G3, e3, Q3⟩ := al_93 (O := O) (f := f) (K := f_Law_areAlike_64 O f n) (v5 := v5) (v6 := v6) Q2 d0 d1 s0 s1 hf
    obtain ⟨M', G', e', Q'⟩ := ih n (v6 + 1) M3 G3 Q3 (by omega) (by omega) (by omega)
    exact ⟨M', G', by rw [es, e3, e'], Q'⟩
theorem gcd_one {b : Int} (h0 : 0 < b) (h1 : b ≤ 40) : f_Law_gcd O f 64 1 b M = some (1, M) := by
  show (if yw b = yw 0 then _ else _) = _
  rw [eq_F (by omega) (by omega) (by omega) (by omega) (by omega)]
  show (if yw b = yw 0 then _ else _) = _
  rw [eq_F (by omega) (by omega) (by omega) (by omega) (by omega), xlet_e, jrem_e (by omega) (by omega) (by omega) (by omega)]
  by_cases e : b = 1
  · subst e
    show xcl (if yw 0 = yw 0 then _ else _) _ = _
    rw [eq_T rfl, xcl_e]
  · rw [show (1 : Int) % b = 1 from Int.emod_eq_of_lt (by omega) (by omega)]
    show xcl (if yw 1 = yw 0 then _ else _) _ = _
    rw [eq_F (by omega) (by omega) (by omega) (by omega) (by omega)]
    show xcl (if yw 1 = yw 0 then _ else _) _ = _
    rw [eq_F (by omega) (by omega) (by omega) (by omega) (by omega), xlet_e, jrem_e (by omega) (by omega) (by omega) (by omega), show b % 1 = 0 by omega]
    show xcl (xcl (if yw 0 = yw 0 then _ else _) _) _ = _
    rw [eq_T rfl, xcl_e, xcl_e]
/-- all changes of a device are delivered -/
def Cov (M : xM) (G : Nat → Nat → Prop) (d : Nat) : Prop := ∀ i : Nat, (i : Int) < iV M (101 + 7 * d) 1 → G d i
theorem al_264 {K : Nat → Nat → Nat → Nat → Nat → Int → xM → Option (Int × xM)} {d : Nat} {c : Int} (hd : d < 2) (hc0 : 0 ≤ c) (hc : c ≤ 40) (hf : 20 ≤ f) : ∀ (r n : Nat) (v8 : Int) (M : xM) (G : Nat → Nat → Prop), QQ n0 M G → iV M n0 d = c → (∀ k : Nat, (k : Int) < v8 → G d ((k + 3) % c.toNat)) → (∀ e, e < d → Cov M G e) → 0 ≤ v8 → v8 + r = c → r < n → ∃ M' G', f_Law_areAlike_264 O f K n 1 0 n0 (n0 + 1) (n0 + 4) (d : Int) 1 v8 M = K 1 0 n0 (n0 + 1) (n0 + 4) ((d : Int) + 1) M' ∧ QQ n0 M' G' ∧ (∀ e, e < d + 1 → Cov M' G' e) := by
  intro r
  induction r with
  | zero =>
    intro n v8 M G hQ hm hG hC h0 h1 h2
    obtain ⟨n, rfl⟩ : ∃ n', n = n' + 1 := ⟨n - 1, by omega⟩
    have hw := hQ.1.1
    have hct := (hQ.2.2.1 d hd).1
    have hz : ((d : Int)).toNat = d := by omega
    have cov : ∀ e, e < d + 1 → Cov M G e := by
      intro e he
      by_cases q : e = d
      · subst q
        intro i hi
        have hk := hG ((i + 3 * c.toNat - 3) % c.toNat) (by
          have := Nat.mod_lt (i + 3 * c.toNat - 3) (show 0 < c.toNat by omega)
          omega)
        have e3 : ((i + 3 * c.toNat - 3) % c.toNat + 3) % c.toNat = i := by
          rw [Nat.mod_add_mod, show i + 3 * c.toNat - 3 + 3 = i + c.toNat * 3 by omega, Nat.add_mul_mod_self_left]
          exact Nat.mod_eq_of_lt (by omega)
        rw [e3] at hk
        exact hk
      · exact hC e (by omega)
    have st : f_Law_areAlike_264 O f K (n + 1) 1 0 n0 (n0 + 1) (n0 + 4) (d : Int) 1 v8 M = if yw c ≤ yw 0 then K 1 0 n0 (n0 + 1) (n0 + 4) ((d : Int) + 1) M else (isO O M 0 15).bind fun _ => xcl (f_LDraw_n O f 0 c M) fun x4 M1 => (isO O M1 1 12).bind fun _ => xcl (f_Calendarhall_deliver O f 1 (d : Int) x4 M1) fun x5 M2 => K 1 0 n0 (n0 + 1) (n0 + 4) ((d : Int) + 1) M2 := by
      show (aJ O M n0 (d : Int)).bind _ = _
      rw [hQ.2.1.made hw (by omega) (by omega), hz, hm, le_T (by omega) (by omega) (by omega), hQ.2.1.made hw (by omega) (by omega), hz, hm, hQ.2.1.made hw (by omega) (by omega), hz, hm]
    rw [st]
    by_cases hc1 : c ≤ 0
    · rw [le_T hc1 (by omega) (by omega)]
      exact ⟨M, G, rfl, hQ, cov⟩
    · rw [le_F (by omega) (by omega) (by omega), hw.is (k := 0) (ci := 15) (by decide) (by decide)]
      obtain ⟨x, M1, e1, x0, x1, w1, u1, v1⟩ := dn_ok (O := O) (f := f) (m := c) hw (by omega) (by omega)
      have Q1 := hQ.un0 u1
      obtain ⟨M2, y, e2, Q2, k2, s2⟩ := dl_qq (O := O) (f := f) (e := d) (x := x) Q1 hd x0 (by rw [v1]; omega) hf
      rw [e1, xcl_e, a_Cal_is w1, e2, xcl_e]
      refine ⟨M2, _, rfl, Q2, fun e he i hi => Or.inl (cov e he i ?_)⟩
      rw [← (Q2.2.2.1 e (by omega)).1, k2 e (by omega), v1] at hi
      rw [← (hQ.2.2.1 e (by omega)).1]
      exact hi
  | succ r ih =>
    intro n v8 M G hQ hm hG hC h0 h1 h2
    obtain ⟨n, rfl⟩ : ∃ n', n = n' + 1 := ⟨n - 1, by omega⟩
    have hw := hQ.1.1
    have hz : ((d : Int)).toNat = d := by omega
    have hr0 : 0 ≤ (v8 + 3) % c := Int.emod_nonneg _ (by omega)
    have hr1 : (v8 + 3) % c < c := Int.emod_lt_of_pos _ (by omega)
    obtain ⟨M2, y, e2, Q2, k2, s2⟩ := dl_qq (O := O) (f := f) (e := d) (x := (v8 + 3) % c) hQ hd hr0 (by omega) hf
    have hct : ∀ e, e < 2 → iV M2 (101 + 7 * e) 1 = iV M (101 + 7 * e) 1 := fun e he => by rw [← (Q2.2.2.1 e he).1, k2 e he, (hQ.2.2.1 e he).1]
    obtain ⟨M', G', e', Q', C'⟩ := ih n (v8 + 1) M2 _ Q2 (by rw [k2 d hd]; exact hm) (by
      intro k hk
      by_cases q : (k : Int) = v8
      · refine Or.inr ⟨rfl, ?_⟩
        rw [← q]
        have : (((k + 3) % c.toNat : Nat) : Int) = ((k : Int) + 3) % c := by
          rw [Int.natCast_emod, Int.natCast_add, Int.toNat_of_nonneg (by omega)]
          rfl
        omega
      · exact Or.inl (hG k (by omega))) (by
      intro e he i hi
      rw [hct e (by omega)] at hi
      exact Or.inl (hC e he i hi)) (by omega) (by omega) (by omega)
    refine ⟨M', G', ?_, Q', C'⟩
    rw [← e']
    show (aJ O M n0 (d : Int)).bind _ = _
    rw [hQ.2.1.made hw (by omega) (by omega), hz, hm, le_F (by omega) (by omega) (by omega), hQ.2.1.made hw (by omega) (by omega), hz, hm, eq_F (by omega) (by omega) (by omega) (by omega) (by omega), xlet_e, a_Cal_is hw, Int.mul_one, jrem_e (by omega) (by omega) (by omega) (by omega), e2, xcl_e]
theorem al_226 (hf : 100 ≤ f) : ∀ (r n d : Nat) (M : xM) (G : Nat → Nat → Prop), QQ n0 M G → (∀ e, e < d → Cov M G e) → d + r = 2 → r < n → ∃ M' G', f_Law_areAlike_226 O f n 1 0 n0 (n0 + 1) (n0 + 4) (d : Int) M = f_Law_areAlike_329 O f f 1 (n0 + 1) (n0 + 4) 0 M' ∧ QQ n0 M' G' ∧ (∀ e, e < 2 → Cov M' G' e) := by
  intro r
  induction r with
  | zero =>
    intro n d M G hQ hC h1 h2
    obtain ⟨n, rfl⟩ : ∃ n', n = n' + 1 := ⟨n - 1, by omega⟩
    refine ⟨M, G, ?_, hQ, fun e he => hC e (by omega)⟩
    show (if yw 2 ≤ yw (d : Int) then _ else _) = _
    rw [le_T (by omega) (by omega) (by omega)]
  | succ r ih =>
    intro n d M G hQ hC h1 h2
    obtain ⟨n, rfl⟩ : ∃ n', n = n' + 1 := ⟨n - 1, by omega⟩
    have hd : d < 2 := by omega
    have hw := hQ.1.1
    have hz : ((d : Int)).toNat = d := by omega
    have hct := (hQ.2.2.1 d hd).1
    have hA := (hQ.1.2.2.2 d hd).1
    obtain ⟨M3, G3, e3, Q3, C3⟩ := al_264 (O := O) (f := f) (K := f_Law_areAlike_226 O f n) (n0 := n0) (c := iV M n0 d) hd (by omega) (by omega) (by omega) (iV M n0 d).toNat f 0 M G hQ rfl (fun k hk => by omega) hC (by omega) (by omega) (by omega)
    obtain ⟨M', G', e', Q', C'⟩ := ih n (d + 1) M3 G3 Q3 C3 (by omega) (by omega)
    refine ⟨M', G', ?_, Q', C'⟩
    rw [← e', show ((d + 1 : Nat) : Int) = (d : Int) + 1 by omega, ← e3]
    obtain ⟨f1, rfl⟩ : ∃ n', f = n' + 1 := ⟨f - 1, by omega⟩
    show (if yw 2 ≤ yw (d : Int) then _ else _) = _
    rw [le_F (by omega) (by omega) (by omega)]
    show (aJ O M n0 (d : Int)).bind _ = _
    rw [hQ.2.1.made hw (by omega) (by omega), hz]
    by_cases q : iV M n0 d ≤ 0
    · rw [le_T q (by omega) (by omega)]
      rfl
    · rw [le_F (by omega) (by omega) (by omega), hQ.2.1.made hw (by omega) (by omega), hz, gcd_one (by omega) (by omega), xcl_e, eq_T rfl]
      rfl
/-- what the law is due at a place -/
def due (n0 : Nat) (M : xM) (p : Nat) : Int := if iV M (n0 + 3) p < iV M (n0 + 2) p then (if iV M (n0 + 2) p = -1 then -1 else iV M (n0 + 5) p) else (if iV M (n0 + 3) p = -1 then -1 else iV M (n0 + 6) p)
theorem due_ok (h : QQ n0 M G) (hC : ∀ e, e < 2 → Cov M G e) {d p : Nat} (hd : d < 2) (hp : p < 48) : iV M (105 + 7 * d) p = due n0 M p := by
  obtain ⟨⟨-, -, -, hA⟩, -, hr, -⟩ := h
  have mono : ∀ m i j : Nat, m < 2 → i ≤ j → (j : Int) < iV M (101 + 7 * m) 1 → iV M (104 + 7 * m) i ≤ iV M (104 + 7 * m) j ∧ (iV M (104 + 7 * m) i = iV M (104 + 7 * m) j → i = j) := by
    intro m i j hm hij hj
    by_cases e : i = j
    · subst e
      exact ⟨by omega, fun _ => rfl⟩
    · have := (hA m hm).2.2.1 i j (by omega) hj
      exact ⟨by omega, fun q => by omega⟩
  have pos : ∀ m i : Nat, m < 2 → (i : Int) < iV M (101 + 7 * m) 1 → 1 ≤ iV M (104 + 7 * m) i := fun m i hm hi => ((hA m hm).2.1 i hi).1
  obtain ⟨sa, sb⟩ := (hA d hd).2.2.2.2 p hp
  have kn : ∀ m i : Nat, m < 2 → (i : Int) < iV M (101 + 7 * m) 1 → KN M G d m i := fun m i hm hi => ⟨hm, hi, Or.inr (hC m hm i hi)⟩
  have r0 := (hr 0 (by omega)).2 p hp
  have r1 := (hr 1 (by omega)).2 p hp
  have key : ∀ (w o : Nat) (iw : Nat), w < 2 → o < 2 → w ≠ o → (iw : Int) < iV M (101 + 7 * w) 1 → iV M (102 + 7 * w) iw = p → (∀ j : Nat, (j : Int) < iV M (101 + 7 * w) 1 → iV M (102 + 7 * w) j = p → j ≤ iw) → (∀ j : Nat, (j : Int) < iV M (101 + 7 * o) 1 → iV M (102 + 7 * o) j = p → iV M (104 + 7 * o) j < iV M (104 + 7 * w) iw ∨ (iV M (104 + 7 * o) j = iV M (104 + 7 * w) iw ∧ o < w)) → iV M (105 + 7 * d) p = iV M (103 + 7 * w) iw := by
    intro w o iw hw ho hwo h1 h2 h3 h4
    rcases sa with ⟨m, i, q1, q2, q3, q4, q5⟩ | ⟨-, -, -, q4⟩
    · have hb := sb w iw (kn w iw hw h1) h2
      have hm : m = w ∨ m = o := by
        have := q1.1
        omega
      rcases hm with rfl | rfl
      · have hi := h3 i q1.2.1 q2
        obtain ⟨g1, g2⟩ := mono m i iw hw hi h1
        have : i = iw := by
          apply g2
          omega
        rw [q3, this]
      · exfalso
        have := h4 i q1.2.1 q2
        omega
    · exact absurd h2 (q4 w iw (kn w iw hw h1))
  unfold due
  rcases r0 with ⟨a1, a2⟩ | ⟨i0, a1, a2, a3, a4, a5⟩
  · rcases r1 with ⟨b1, b2⟩ | ⟨i1, b1, b2, b3, b4, b5⟩
    · have a1' : iV M (n0 + 2) p = -1 := a1
      have b1' : iV M (n0 + 3) p = -1 := b1
      rw [a1', b1', if_neg (by omega), if_pos rfl]
      rcases sa with ⟨m, i, q1, q2, -⟩ | ⟨q1, -⟩
      · exfalso
        have hm : m = 0 ∨ m = 1 := by
          have := q1.1
          omega
        rcases hm with rfl | rfl
        · exact a2 i q1.2.1 q2
        · exact b2 i q1.2.1 q2
      · exact q1
    · have a1' : iV M (n0 + 2) p = -1 := a1
      have b3' : iV M (n0 + 3) p = iV M 111 i1 := b3
      have b4' : iV M (n0 + 6) p = iV M (103 + 7 * 1) i1 := b4
      have hp1 : 1 ≤ iV M 111 i1 := pos 1 i1 (by omega) b1
      rw [a1', b3', if_neg (by omega), if_neg (by omega), b4']
      exact key 1 0 i1 (by omega) (by omega) (by omega) b1 b2 b5 (fun j hj hq => absurd hq (a2 j hj))
  · have a3' : iV M (n0 + 2) p = iV M (104 + 7 * 0) i0 := a3
    have a4' : iV M (n0 + 5) p = iV M (103 + 7 * 0) i0 := a4
    have ha1 : 1 ≤ iV M (104 + 7 * 0) i0 := pos 0 i0 (by omega) a1
    rcases r1 with ⟨b1, b2⟩ | ⟨i1, b1, b2, b3, b4, b5⟩
    · have b1' : iV M (n0 + 3) p = -1 := b1
      rw [a3', b1', if_pos (by omega), if_neg (by omega), a4']
      exact key 0 1 i0 (by omega) (by omega) (by omega) a1 a2 a5 (fun j hj hq => absurd hq (b2 j hj))
    · have b3' : iV M (n0 + 3) p = iV M (104 + 7 * 1) i1 := b3
      have b4' : iV M (n0 + 6) p = iV M (103 + 7 * 1) i1 := b4
      have hb1 : 1 ≤ iV M (104 + 7 * 1) i1 := pos 1 i1 (by omega) b1
      rw [a3', b3']
      by_cases g : iV M (104 + 7 * 1) i1 < iV M (104 + 7 * 0) i0
      · rw [if_pos g, if_neg (by omega), a4']
        refine key 0 1 i0 (by omega) (by omega) (by omega) a1 a2 a5 (fun j hj hq => Or.inl ?_)
        have := (mono 1 j i1 (by omega) (b5 j hj hq) b1).1
        omega
      · rw [if_neg g, if_neg (by omega), b4']
        refine key 1 0 i1 (by omega) (by omega) (by omega) b1 b2 b5 (fun j hj hq => ?_)
        have := (mono 0 j i0 (by omega) (a5 j hj hq) a1).1
        omega
theorem al_14 (h : Wd M) (he : ∀ p : Nat, p < 48 → iV M 105 p = iV M 112 p) : ∀ (r n : Nat) (v : Int), 0 ≤ v → v + r = 48 → r < n → f_Calendarhall_areAlike_14 O f n 101 108 v M = some (1, M) := by
  intro r
  induction r with
  | zero =>
    intro n v h0 h1 h2
    obtain ⟨n, rfl⟩ : ∃ n', n = n' + 1 := ⟨n - 1, by omega⟩
    show (if yw 48 ≤ yw v then _ else _) = _
    rw [le_T (by omega) (by omega) (by omega)]
  | succ r ih =>
    intro n v h0 h1 h2
    obtain ⟨n, rfl⟩ : ∃ n', n = n' + 1 := ⟨n - 1, by omega⟩
    show (if yw 48 ≤ yw v then _ else _) = _
    rw [le_F (by omega) (by omega) (by omega), a_Device_is (k := 0) h (by omega), c_valueAt (k := 0) h (by omega) (by omega) (by omega), a_Device_is (k := 1) h (by omega), c_valueAt (k := 1) h (by omega) (by omega) (by omega), eq_T (he v.toNat (by omega))]
    exact ih n (v + 1) (by omega) (by omega) (by omega)
theorem al_329 (hf : 100 ≤ f) (h : QQ n0 M G) (hC : ∀ e, e < 2 → Cov M G e) : ∀ (r n : Nat) (v : Int), 0 ≤ v → v + r = 48 → r < n → f_Law_areAlike_329 O f n 1 (n0 + 1) (n0 + 4) v M = some (1, M) := by
  have hw := h.1.1
  have hl := h.2.1
  intro r
  induction r with
  | zero =>
    intro n v h0 h1 h2
    obtain ⟨n, rfl⟩ : ∃ n', n = n' + 1 := ⟨n - 1, by omega⟩
    show (if yw 48 ≤ yw v then _ else _) = _
    rw [le_T (by omega) (by omega) (by omega), a_Cal_is hw]
    have e : f_Calendarhall_areAlike O f 1 M = some (1, M) := by
      unfold f_Calendarhall_areAlike
      rw [a_Cal_is hw, c_deviceNumbered hw (by omega) (by omega), a_Cal_is hw, c_deviceNumbered hw (by omega) (by omega)]
      exact al_14 hw (fun p hp => (due_ok h hC (d := 0) (by omega) hp).trans (due_ok h hC (d := 1) (by omega) hp).symm) 48 f 0 (by omega) (by omega) (by omega)
    rw [e, xcl_e]
    exact if_pos rfl
  | succ r ih =>
    intro n v h0 h1 h2
    obtain ⟨n, rfl⟩ : ∃ n', n = n' + 1 := ⟨n - 1, by omega⟩
    have d0 := due_ok h hC (d := 0) (p := v.toNat) (by omega) (by omega)
    have d1 := due_ok h hC (d := 1) (p := v.toNat) (by omega) (by omega)
    have fin : f_Law_areAlike_381 O f (f_Law_areAlike_329 O f n) 1 (n0 + 1) (n0 + 4) v (due n0 M v.toNat) M = some (1, M) := by
      unfold f_Law_areAlike_381
      have hv : (v / 4 * 4 + v % 4).toNat = v.toNat := by omega
      rw [a_Cal_is hw, jdiv_e (by omega) (by omega) (by omega) (by omega), show v - v / 4 * 4 = v % 4 by omega, c_shown hw (by omega) (by omega) (by omega) (by omega) (by omega) (by omega), hv]
      have d0' : iV M (105 + 7 * (0 : Int).toNat) v.toNat = due n0 M v.toNat := d0
      have d1' : iV M (105 + 7 * (1 : Int).toNat) v.toNat = due n0 M v.toNat := d1
      rw [d0', eq_T rfl, a_Cal_is hw, c_shown hw (by omega) (by omega) (by omega) (by omega) (by omega) (by omega), hv, d1', eq_T rfl]
      exact ih n (v + 1) (by omega) (by omega) (by omega)
    have k2 : ∀ s : Int, s = 0 ∨ s = 1 → due n0 M v.toNat = (if iV M (n0 + 2 + s.toNat) v.toNat = -1 then -1 else iV M (n0 + 5 + s.toNat) v.toNat) → f_Law_areAlike_356 O f (f_Law_areAlike_329 O f n) 1 (n0 + 1) (n0 + 4) v s M = some (1, M) := by
      intro s hs hdue
      unfold f_Law_areAlike_356
      have rr := iV_r M (n0 + 2 + s.toNat) v.toNat
      rw [hl.clk hw (by omega) (by omega), hl.rc hw (by omega) (by omega) (by omega)]
      by_cases q : iV M (n0 + 2 + s.toNat) v.toNat = -1
      · rw [if_pos q] at hdue
        rw [eq_T q, ← hdue]
        exact fin
      · rw [if_neg q] at hdue
        rw [eq_F q (by omega) (by omega) (by omega) (by omega), hl.val hw (by omega) (by omega), hl.rv hw (by omega) (by omega) (by omega), ← hdue]
        exact fin
    show (if yw 48 ≤ yw v then _ else _) = _
    have ra := iV_r M (n0 + 2 + (1 : Int).toNat) v.toNat
    have rb := iV_r M (n0 + 2 + (0 : Int).toNat) v.toNat
    rw [le_F (by omega) (by omega) (by omega), hl.clk hw (by omega) (by omega), hl.rc hw (by decide) (by omega) (by omega), hl.clk hw (by omega) (by omega), hl.rc hw (by decide) (by omega) (by omega)]
    by_cases g : iV M (n0 + 2 + (1 : Int).toNat) v.toNat < iV M (n0 + 2 + (0 : Int).toNat) v.toNat
    · rw [lt_T g ra.1 rb.2]
      refine k2 0 (by omega) ?_
      unfold due
      exact if_pos g
    · rw [lt_F (by omega) rb.1 ra.2]
      refine k2 1 (by omega) ?_
      unfold due
      exact if_neg g
end ALE
end
/-! draft 535.alikeall -/
section
/-! ===== two devices come to the same ===== -/
section ALF
variable {O : Nat → Option va_E} {f n0 : Nat} {M N : xM} {G : Nat → Nat → Prop}
/-- the law's rows are begun -/
theorem al_24 (hf : 100 ≤ f) : ∀ (r n : Nat) (v : Int) (M : xM), Qd M (fun _ _ => False) → LW n0 M → (∀ d : Nat, d < 2 → iV M n0 d = 0 ∧ iV M (101 + 7 * d) 1 = 0 ∧ ∀ p : Nat, (p : Int) < v → iV M (n0 + 2 + d) p = -1) → 0 ≤ v → v + r = 48 → r < n → ∃ M' x, f_Law_areAlike_24 O f n 1 0 n0 (n0 + 1) (n0 + 4) v M = f_Law_areAlike_64 O f f 1 0 n0 (n0 + 1) (n0 + 4) (1 + x) 0 M' ∧ QQ n0 M' (fun _ _ => False) ∧ 0 ≤ x ∧ x < 40 := by
  intro r
  induction r with
  | zero =>
    intro n v M hq hl hv h0 h1 h2
    obtain ⟨n, rfl⟩ : ∃ n', n = n' + 1 := ⟨n - 1, by omega⟩
    have hw := hq.1
    have Q : QQ n0 M (fun _ _ => False) := by
      refine ⟨hq, hl, fun d hd => ?_, fun m i _ q => q.elim⟩
      obtain ⟨g1, g2, g3⟩ := hv d hd
      rw [g1, g2]
      exact ⟨rfl, fun p hp => Or.inl ⟨g3 p (by omega), fun i hi => by omega⟩⟩
    obtain ⟨x, M1, e1, x0, x1, w1, u1, -⟩ := dn_ok (O := O) (f := f) (m := 40) hw (by omega) (by omega)
    refine ⟨M1, x, ?_, Q.un0 u1, x0, x1⟩
    show (if yw 48 ≤ yw v then _ else _) = _
    rw [le_T (by omega) (by omega) (by omega), hw.is (k := 0) (ci := 15) (by decide) (by decide), e1, xcl_e]
  | succ r ih =>
    intro n v M hq hl hv h0 h1 h2
    obtain ⟨n, rfl⟩ : ∃ n', n = n' + 1 := ⟨n - 1, by omega⟩
    have hw := hq.1
    have hn := hl.1
    have l1 : LW n0 (iS M (n0 + 2 + 0) v.toNat (-1)) := hl
    have w1 : Wd (iS M (n0 + 2 + 0) v.toNat (-1)) := hw
    obtain ⟨M2, e2⟩ : ∃ M2, M2 = iS (iS M (n0 + 2 + 0) v.toNat (-1)) (n0 + 2 + 1) v.toNat (-1) := ⟨_, rfl⟩
    have u2 : Un (fun a => a < 1044) M M2 := by
      rw [e2]
      exact (Un.rf.iS (by (try dsimp only); omega)).iS (by (try dsimp only); omega)
    have q2 : Qd M2 (fun _ _ => False) := ⟨u2.wd hw, hq.2.1.un u2 (by (try dsimp only); omega), hq.2.2.1.un u2 (fun k hk => by (try dsimp only); omega), hq.2.2.2.un (u2.le (fun a q => by (try dsimp only at q ⊢); omega))⟩
    obtain ⟨M', x, e', z⟩ := ih n (v + 1) M2 q2 (hl.sm u2.1) (by
      intro d hd
      obtain ⟨g1, g2, g3⟩ := hv d hd
      refine ⟨?_, ?_, fun p hp => ?_⟩
      · rw [e2, iV_o (by omega), iV_o (by omega)]
        exact g1
      · rw [u2.i (by (try dsimp only); omega)]
        exact g2
      · rw [e2]
        by_cases ep : p = v.toNat
        · have hd2 : d = 0 ∨ d = 1 := by omega
          rcases hd2 with rfl | rfl
          · rw [iV_o (by omega), ep, iV_s (by omega) (by omega)]
          · rw [ep, iV_s (by omega) (by omega)]
        · rw [iV_o (by omega), iV_o (by omega)]
          exact g3 p (by omega)) (by omega) (by omega) (by omega)
    refine ⟨M', x, ?_, z⟩
    rw [← e']
    show (if yw 48 ≤ yw v then _ else _) = _
    rw [le_F (by omega) (by omega) (by omega), hl.clk hw (by omega) (by omega)]
    show (wJ M (n0 + 2 + 0) v (-1)).bind _ = _
    rw [hl.wc hw (by omega) h0 (by omega), l1.clk w1 (by omega) (by omega)]
    show (wJ (iS M (n0 + 2 + 0) v.toNat (-1)) (n0 + 2 + 1) v (-1)).bind _ = _
    rw [l1.wc w1 (by omega) h0 (by omega), ← e2]
theorem areAlike_ok (h : St0 M) (hf : 1000 ≤ f) : ∃ M', f_Law_areAlike O f 1 0 M = some (1, M') ∧ M'.1 ≤ 2000 ∧ M'.2.1 ≤ 40000 := by
  have hsv := h.sv
  have hbo := h.bo
  obtain ⟨hw, hM, hM2, -, -, hdev, -⟩ := h
  obtain ⟨M1, e1⟩ : ∃ M1, M1 = mnew M (.inr (0, (2 : Int).toNat)) (2 : Int).toNat := ⟨_, rfl⟩
  obtain ⟨M2, e2⟩ : ∃ M2, M2 = mmk M1 (2 : Int).toNat (48 : Int).toNat := ⟨_, rfl⟩
  obtain ⟨M3, e3⟩ : ∃ M3, M3 = mmk M2 (2 : Int).toNat (48 : Int).toNat := ⟨_, rfl⟩
  have c1 : M1.1 = 1045 := by rw [e1]; show M.1 + 1 = 1045; omega
  have c2 : M2.1 = 1048 := by rw [e2]; show M1.1 + (1 + 2) = 1048; omega
  have c3 : M3.1 = 1051 := by rw [e3]; show M2.1 + (1 + 2) = 1051; omega
  have k1 : M1.2.1 = M.2.1 + 2 := by rw [e1]; rfl
  have k2 : M2.2.1 = M1.2.1 + (2 + 2 * 48) := by rw [e2]; rfl
  have k3 : M3.2.1 = M2.2.1 + (2 + 2 * 48) := by rw [e3]; rfl
  have x1 : Ex M M1 := by rw [e1]; exact Ex.new
  have x2 : Ex M1 M2 := by rw [e2]; exact Ex.mmk
  have x3 : Ex M2 M3 := by rw [e3]; exact Ex.mmk
  have xx : Ex M M3 := (x1.tr x2).tr x3
  have hv : ∀ a j, a < 1044 → iV M3 a j = iV M a j := fun a j ha => xx.i (by omega)
  have w3 : Wd M3 := xx.wd hw (by omega)
  have f1 : mS M1 1044 = .inr (0, 2) ∧ mI M1 1044 = fun _ => 0 := by
    rw [e1]
    exact ⟨if_pos hM.symm, if_pos hM.symm⟩
  have f2 : mS M2 1045 = .inr (5, 2) ∧ (∀ d, d < 2 → mS M2 (1046 + d) = .inr (0, 48) ∧ mR M2 1045 d = some (1046 + d)) := by
    rw [e2]
    refine ⟨if_pos c1.symm, fun d hd => ⟨?_, ?_⟩⟩
    · show (if 1046 + d = M1.1 then _ else if M1.1 < 1046 + d ∧ 1046 + d < M1.1 + (1 + 2) then Sum.inr (0, 48) else _) = _
      rw [if_neg (by omega), if_pos (by omega)]
    · show (if 1045 = M1.1 then fun i => if i < 2 then some (M1.1 + 1 + i) else none else _) d = _
      rw [if_pos c1.symm, c1]
      exact if_pos hd
  have f3 : mS M3 1048 = .inr (5, 2) ∧ (∀ d, d < 2 → mS M3 (1049 + d) = .inr (0, 48) ∧ mR M3 1048 d = some (1049 + d)) := by
    rw [e3]
    refine ⟨if_pos c2.symm, fun d hd => ⟨?_, ?_⟩⟩
    · show (if 1049 + d = M2.1 then _ else if M2.1 < 1049 + d ∧ 1049 + d < M2.1 + (1 + 2) then Sum.inr (0, 48) else _) = _
      rw [if_neg (by omega), if_pos (by omega)]
    · show (if 1048 = M2.1 then fun i => if i < 2 then some (M2.1 + 1 + i) else none else _) d = _
      rw [if_pos c2.symm, c2]
      exact if_pos hd
  have lw : LW 1044 M3 := by
    refine ⟨by omega, ⟨by omega, by omega⟩, ?_, ?_, f3.1, fun d hd => ⟨?_, ?_, ?_, ?_⟩⟩
    · rw [(x3.2 1044 (by omega)).1, (x2.2 1044 (by omega)).1]
      exact f1.1
    · rw [(x3.2 1045 (by omega)).1]
      exact f2.1
    · rw [(x3.2 (1044 + 2 + d) (by omega)).1]
      exact (f2.2 d hd).1
    · exact (f3.2 d hd).1
    · rw [(x3.2 1045 (by omega)).2.2.2]
      exact (f2.2 d hd).2
    · exact (f3.2 d hd).2
  have made : ∀ d, iV M3 1044 d = 0 := by
    intro d
    rw [x3.i (by omega), x2.i (by omega)]
    unfold iV
    rw [f1.2]
    rfl
  have q3 : Qd M3 (fun _ _ => False) := by
    refine ⟨w3, ?_, ?_, ?_⟩
    · unfold Sv
      rw [hv _ _ (by omega), hv _ _ (by omega)]
      exact hsv
    · intro k hk
      rw [hv _ _ (by omega), hv _ _ (by omega)]
      exact hbo k hk
    · intro d hd
      obtain ⟨g1, g2, g3⟩ := hdev d hd
      have z0 : iV M 101 1 = 0 := (hdev 0 (by omega)).2.1
      have z1 : iV M 108 1 = 0 := (hdev 1 (by omega)).2.1
      rw [hv _ _ (by omega), hv _ _ (by omega), hv 101 _ (by omega), hv 108 _ (by omega), g1, g2, z0, z1]
      refine ⟨by omega, fun i hi => by omega, fun i j _ hj => by omega, fun p hp => ?_, fun p hp => ⟨Or.inr ⟨?_, ?_, ?_, fun m i q => ?_⟩, fun m i q => ?_⟩⟩
      · rw [hv _ _ (by omega), (g3 p hp).2.1]
        omega
      · rw [hv _ _ (by omega)]
        exact (g3 p hp).1
      · rw [hv _ _ (by omega)]
        exact (g3 p hp).2.1
      · rw [hv _ _ (by omega)]
        exact (g3 p hp).2.2
      · exfalso
        have q1 := q.1
        have q2 := q.2.1
        rw [hv _ _ (by omega), (hdev m q1).2.1] at q2
        omega
      · exfalso
        have q1 := q.1
        have q2 := q.2.1
        rw [hv _ _ (by omega), (hdev m q1).2.1] at q2
        omega
  obtain ⟨M4, x, e4, Q4, y0, y1⟩ := al_24 (O := O) (f := f) (n0 := 1044) (by omega) 48 f 0 M3 q3 lw (by
    intro d hd
    refine ⟨made d, ?_, fun p hp => by omega⟩
    rw [hv _ _ (by omega)]
    exact (hdev d hd).2.1) (by omega) (by omega) (by omega)
  obtain ⟨M5, G5, e5, Q5⟩ := al_64 (O := O) (f := f) (n0 := 1044) (v5 := 1 + x) (by omega) (by omega) (by omega) (1 + x).toNat f 0 M4 _ Q4 (by omega) (by omega) (by omega)
  obtain ⟨M6, G6, e6, Q6, C6⟩ := al_226 (O := O) (f := f) (n0 := 1044) (by omega) 2 f 0 M5 G5 Q5 (fun e he => by omega) (by omega) (by omega)
  have e7 := al_329 (O := O) (f := f) (n0 := 1044) (by omega) Q6 C6 48 f 0 (by omega) (by omega) (by omega)
  refine ⟨M6, ?_, ?_, ?_⟩
  · unfold f_Law_areAlike
    rw [x_nAJ (by omega) (by omega) (by omega), xcl_e, ← e1, x_nMJ (by omega) (by omega) (by omega) (by omega) (by omega), xcl_e, ← e2, x_nMJ (by omega) (by omega) (by omega) (by omega) (by omega), xcl_e, ← e3, hM, c1, c2, e4, e5]
    exact e6.trans e7
  · have := Q6.2.1.2.1.1
    omega
  · exact Q6.2.1.2.1.2
end ALF
end
/-! draft 540.zone -/
section
/-! ===== zones ===== -/
/-- the minute of a switch in a month, by the standard clock -/
def sW (pl wd mi m : Int) : Int := (if cBegin m + (wd - cBegin m - 5) % 7 + 7 * (pl - 1) < cBegin m + cLen m then cBegin m + (wd - cBegin m - 5) % 7 + 7 * (pl - 1) else cBegin m + (wd - cBegin m - 5) % 7 + 7 * (pl - 1) - 7) * 1440 + mi
theorem sW_in {pl wd mi m : Int} (p0 : 1 ≤ pl) (p1 : pl ≤ 5) (m0 : 0 ≤ mi) (m1 : mi ≤ 1439) : cBegin m * 1440 ≤ sW pl wd mi m ∧ sW pl wd mi m < (cBegin m + cLen m) * 1440 := by
  have hl := cLen_r m
  have h0 : 0 ≤ (wd - cBegin m - 5) % 7 := Int.emod_nonneg _ (by decide)
  have h1 : (wd - cBegin m - 5) % 7 < 7 := Int.emod_lt_of_pos _ (by decide)
  unfold sW
  generalize (wd - cBegin m - 5) % 7 = q at *
  generalize cBegin m = b at *
  generalize cLen m = l at *
  split <;> omega
section ZON
variable {O : Nat → Option va_E} {f : Nat} {M : xM} {k a : Nat} {s m c l : Int} {γ : Type}
theorem z4 (hb : inM M a) (hs : mS M a = .inr (0, 4)) : (∀ {A : Int → Option γ}, (aJ O M a 0).bind A = A (iV M a 0)) ∧ (∀ {A : Int → Option γ}, (aJ O M a 1).bind A = A (iV M a 1)) ∧ (∀ {A : Int → Option γ}, (aJ O M a 2).bind A = A (iV M a 2)) ∧ (∀ {A : Int → Option γ}, (aJ O M a 3).bind A = A (iV M a 3)) := ⟨z_aJ hb hs (by decide) (by decide) (by decide), z_aJ hb hs (by decide) (by decide) (by decide), z_aJ hb hs (by decide) (by decide) (by decide), z_aJ hb hs (by decide) (by decide) (by decide)⟩
/-- a switch's row is sound -/
def rV (M : xM) (a : Nat) : Prop := 1 ≤ iV M a 0 ∧ iV M a 0 ≤ 12 ∧ 1 ≤ iV M a 1 ∧ iV M a 1 ≤ 5 ∧ 0 ≤ iV M a 2 ∧ iV M a 2 ≤ 6 ∧ 0 ≤ iV M a 3 ∧ iV M a 3 ≤ 1439
/-- a zone is sound -/
def Zv (M : xM) (k : Nat) : Prop := -720 ≤ iV M (12 + 3 * k) 0 ∧ iV M (12 + 3 * k) 0 ≤ 840 ∧ 0 ≤ iV M (12 + 3 * k) 1 ∧ iV M (12 + 3 * k) 1 ≤ 120 ∧ rV M (13 + 3 * k) ∧ rV M (14 + 3 * k)
/-- the switch of a row in a month -/
def sR (M : xM) (a : Nat) (m : Int) : Int := sW (iV M a 1) (iV M a 2) (iV M a 3) m
theorem e_switchIn (hb : inM M a) (hs : mS M a = .inr (0, 4)) (h0 : 0 ≤ m) (h1 : m < 100000) (hr : rV M a) : f_Zone_switchIn O f m a M = some (sR M a m, M) := by
  obtain ⟨-, -, p0, p1, w0, w1, m0, m1⟩ := hr
  have hc : 0 ≤ cBegin m ∧ cBegin m < 146097 := ⟨Int.emod_nonneg _ (by decide), Int.emod_lt_of_pos _ (by decide)⟩
  have hl := cLen_r m
  have q0 : 0 ≤ (iV M a 2 - cBegin m - 5) % 7 := Int.emod_nonneg _ (by decide)
  have q1 : (iV M a 2 - cBegin m - 5) % 7 < 7 := Int.emod_lt_of_pos _ (by decide)
  have r4 := z4 (O := O) (γ := Int × xM) hb hs
  unfold f_Zone_switchIn f_Zone_switchIn_51
  rw [z_aN hb hs (by decide) (by decide), le_T (by decide) (by decide) (by decide), c_monthBegin h0 h1, r4.2.2.1, c_floorMod (by omega) (by omega) (by decide) (by decide), r4.2.1, c_monthLength h0 h1, r4.2.2.2]
  unfold sR sW
  by_cases g : cBegin m + (iV M a 2 - cBegin m - 5) % 7 + 7 * (iV M a 1 - 1) < cBegin m + cLen m
  · rw [lt_T g (by omega) (by omega), if_pos g]
  · rw [lt_F (by omega) (by omega) (by omega), if_neg g, xlet_e, r4.2.2.2]
    rfl
theorem c_switchIn (hb : inM M a) (hs : mS M a = .inr (0, 4)) (h0 : 0 ≤ m) (h1 : m < 100000) (hr : rV M a) {δ : Type} {A : _ → xM → Option δ} : xcl (f_Zone_switchIn O f m a M) A = A (sR M a m) (M) := xc_of (e_switchIn hb hs h0 h1 hr) A
/-- is it summer at a standard minute -/
def sm (M : xM) (k : Nat) (s : Int) : Int := if iV M (12 + 3 * k) 1 = 0 then 0 else if cMonth (s / 1440) % 12 + 1 = iV M (13 + 3 * k) 0 then (if s < sR M (13 + 3 * k) (cMonth (s / 1440)) then 0 else 1) else if cMonth (s / 1440) % 12 + 1 = iV M (14 + 3 * k) 0 then (if s < sR M (14 + 3 * k) (cMonth (s / 1440)) then 1 else 0) else if (min (iV M (13 + 3 * k) 0) (iV M (14 + 3 * k) 0) < cMonth (s / 1440) % 12 + 1 ∧ cMonth (s / 1440) % 12 + 1 < max (iV M (13 + 3 * k) 0) (iV M (14 + 3 * k) 0)) then (if iV M (13 + 3 * k) 0 < iV M (14 + 3 * k) 0 then 1 else 0) else (if iV M (13 + 3 * k) 0 < iV M (14 + 3 * k) 0 then 0 else 1)
theorem sm_01 : sm M k s = 0 ∨ sm M k s = 1 := by
  unfold sm
  repeat' split
  all_goals omega
theorem e_isSummer (h : Wd M) (hk : k < 3) (hz : Zv M k) (h0 : 0 ≤ s) (h1 : s < 210379680) : f_Zone_isSummer O f (12 + 3 * k) s M = some (sm M k s, M) := by
  obtain ⟨o0, o1, s0, s1, hF, hB⟩ := hz
  have bF : inM M (13 + 3 * k) := h.b (by omega)
  have bB : inM M (14 + 3 * k) := h.b (by omega)
  have sF : mS M (13 + 3 * k) = .inr (0, 4) := (h.s (by omega)).trans (shp_Zone_forth hk)
  have sB : mS M (14 + 3 * k) = .inr (0, 4) := (h.s (by omega)).trans (shp_Zone_back hk)
  have rF := z4 (O := O) (γ := Int × xM) bF sF
  have rB := z4 (O := O) (γ := Int × xM) bB sB
  obtain ⟨c0, c1, -, -⟩ := c_in (d := s / 1440) (by omega) (by omega)
  have iF := sW_in (pl := iV M (13 + 3 * k) 1) (wd := iV M (13 + 3 * k) 2) (mi := iV M (13 + 3 * k) 3) (m := cMonth (s / 1440)) hF.2.2.1 hF.2.2.2.1 hF.2.2.2.2.2.2.1 hF.2.2.2.2.2.2.2
  have iB := sW_in (pl := iV M (14 + 3 * k) 1) (wd := iV M (14 + 3 * k) 2) (mi := iV M (14 + 3 * k) 3) (m := cMonth (s / 1440)) hB.2.2.1 hB.2.2.2.1 hB.2.2.2.2.2.2.1 hB.2.2.2.2.2.2.2
  have hc := c_begin_r c0 c1
  have hl := cLen_r (cMonth (s / 1440))
  have hF1 := hF.1
  have hF2 := hF.2.1
  have hB1 := hB.1
  have hB2 := hB.2.1
  unfold f_Zone_isSummer sm
  rw [a_Zone_shift h hk]
  by_cases g0 : iV M (12 + 3 * k) 1 = 0
  · rw [eq_T g0, if_pos g0]
  rw [eq_F g0 (by omega) (by omega) (by omega) (by omega), if_neg g0, c_floorDiv (by omega) (by omega) (by omega) (by omega), c_monthOf (by omega) (by omega), jrem_e (by omega) (by omega) (by omega) (by omega), xlet_e, a_Zone_forth h hk, rF.1]
  generalize cMonth (s / 1440) = m at *
  by_cases g1 : m % 12 + 1 = iV M (13 + 3 * k) 0
  · rw [eq_T g1, if_pos g1, a_Zone_forth h hk, xc_of (e_switchIn bF sF c0 (by omega) hF)]
    unfold sR
    by_cases g2 : s < sW (iV M (13 + 3 * k) 1) (iV M (13 + 3 * k) 2) (iV M (13 + 3 * k) 3) m
    · rw [lt_T g2 (by omega) (by omega), if_pos g2]
    · rw [lt_F (by omega) (by omega) (by omega), if_neg g2]
  rw [eq_F g1 (by omega) (by omega) (by omega) (by omega), if_neg g1, a_Zone_back h hk, rB.1]
  by_cases g2 : m % 12 + 1 = iV M (14 + 3 * k) 0
  · rw [eq_T g2, if_pos g2, a_Zone_back h hk, xc_of (e_switchIn bB sB c0 (by omega) hB)]
    unfold sR
    by_cases g3 : s < sW (iV M (14 + 3 * k) 1) (iV M (14 + 3 * k) 2) (iV M (14 + 3 * k) 3) m
    · rw [le_F g3 (by omega) (by omega), if_pos g3]
    · rw [le_T (by omega) (by omega) (by omega), if_neg g3]
  rw [eq_F g2 (by omega) (by omega) (by omega) (by omega), if_neg g2, a_Zone_forth h hk, rF.1, a_Zone_back h hk, rB.1, c_min (by omega) (by omega) (by omega) (by omega)]
  have t126 : ∀ b : Int, b = 0 ∨ b = 1 → f_Zone_isSummer_126 O f (12 + 3 * k) b M = some ((if b = 1 then (if iV M (13 + 3 * k) 0 < iV M (14 + 3 * k) 0 then 1 else 0) else (if iV M (13 + 3 * k) 0 < iV M (14 + 3 * k) 0 then 0 else 1)), M) := by
    intro b hb
    unfold f_Zone_isSummer_126 f_Zone_isSummer_150
    rw [a_Zone_forth h hk, rF.1, a_Zone_back h hk, rB.1]
    by_cases q : iV M (13 + 3 * k) 0 < iV M (14 + 3 * k) 0
    · rw [le_F q (by omega) (by omega), if_pos q, if_pos q]
      rcases hb with rfl | rfl
      · rw [eq_F (by omega) (by omega) (by omega) (by omega) (by omega), if_neg (by omega)]
      · rw [eq_T rfl, if_pos rfl]
    · rw [le_T (by omega) (by omega) (by omega), if_neg q, if_neg q]
      rcases hb with rfl | rfl
      · rw [eq_T rfl, if_neg (by omega)]
      · rw [eq_F (by omega) (by omega) (by omega) (by omega) (by omega), if_pos rfl]
  have t0 := t126 0 (Or.inl rfl)
  have t1 := t126 1 (Or.inr rfl)
  rw [if_neg (by omega)] at t0
  rw [if_pos rfl] at t1
  unfold f_Zone_isSummer_125
  by_cases g3 : min (iV M (13 + 3 * k) 0) (iV M (14 + 3 * k) 0) < m % 12 + 1
  · rw [le_F g3 (by omega) (by omega), a_Zone_forth h hk, rF.1, a_Zone_back h hk, rB.1, c_max (by omega) (by omega) (by omega) (by omega)]
    by_cases g4 : m % 12 + 1 < max (iV M (13 + 3 * k) 0) (iV M (14 + 3 * k) 0)
    · rw [le_F g4 (by omega) (by omega), if_pos ⟨g3, g4⟩, t1]
    · rw [le_T (by omega) (by omega) (by omega), if_neg (fun q => g4 q.2), t0]
  · rw [le_T (by omega) (by omega) (by omega), if_neg (fun q => g3 q.1), t0]
theorem c_isSummer (h : Wd M) (hk : k < 3) (hz : Zv M k) (h0 : 0 ≤ s) (h1 : s < 210379680) {δ : Type} {A : _ → xM → Option δ} : xcl (f_Zone_isSummer O f (12 + 3 * k) s M) A = A (sm M k s) (M) := xc_of (e_isSummer h hk hz h0 h1) A
/-- the local minute of a common one; the common one of a local one, the first, the second -/
def loc (M : xM) (k : Nat) (c : Int) : Int := if sm M k (c + iV M (12 + 3 * k) 0) = 0 then c + iV M (12 + 3 * k) 0 else c + iV M (12 + 3 * k) 0 + iV M (12 + 3 * k) 1
def com (M : xM) (k : Nat) (l : Int) : Int := if sm M k (l - iV M (12 + 3 * k) 1) = 0 then l - iV M (12 + 3 * k) 0 else l - iV M (12 + 3 * k) 1 - iV M (12 + 3 * k) 0
def fst (M : xM) (k : Nat) (l : Int) : Int := if sm M k (l - iV M (12 + 3 * k) 1) = 0 then (if sm M k l = 0 then l - iV M (12 + 3 * k) 0 else -1) else l - iV M (12 + 3 * k) 1 - iV M (12 + 3 * k) 0
def snd (M : xM) (k : Nat) (l : Int) : Int := if sm M k (l - iV M (12 + 3 * k) 1) = 0 then -1 else if sm M k l = 0 then l - iV M (12 + 3 * k) 0 else -1
theorem loc_r (hz : Zv M k) : c - 720 ≤ loc M k c ∧ loc M k c ≤ c + 960 := by
  obtain ⟨o0, o1, s0, s1, -, -⟩ := hz
  unfold loc
  split <;> omega
theorem e_localOf (h : Wd M) (hk : k < 3) (hz : Zv M k) (h0 : 720 ≤ c) (h1 : c < 210370000) : f_Zone_localOf O f (12 + 3 * k) c M = some (loc M k c, M) := by
  have hz' := hz
  obtain ⟨o0, o1, s0, s1, -, -⟩ := hz'
  unfold f_Zone_localOf loc
  rw [a_Zone_offset h hk, a_Zone_is h hk, xc_of (e_isSummer h hk hz (by omega) (by omega))]
  rcases sm_01 (M := M) (k := k) (s := c + iV M (12 + 3 * k) 0) with e | e
  · rw [e, eq_T rfl, if_pos rfl]
  · rw [e, eq_F (by omega) (by omega) (by omega) (by omega) (by omega), if_neg (by omega), a_Zone_shift h hk]
theorem c_localOf (h : Wd M) (hk : k < 3) (hz : Zv M k) (h0 : 720 ≤ c) (h1 : c < 210370000) {δ : Type} {A : _ → xM → Option δ} : xcl (f_Zone_localOf O f (12 + 3 * k) c M) A = A (loc M k c) (M) := xc_of (e_localOf h hk hz h0 h1) A
theorem e_commonOf (h : Wd M) (hk : k < 3) (hz : Zv M k) (h0 : 120 ≤ l) (h1 : l < 210370000) : f_Zone_commonOf O f (12 + 3 * k) l M = some (com M k l, M) := by
  have hz' := hz
  obtain ⟨o0, o1, s0, s1, -, -⟩ := hz'
  unfold f_Zone_commonOf com
  rw [a_Zone_shift h hk, a_Zone_is h hk, xc_of (e_isSummer h hk hz (by omega) (by omega))]
  rcases sm_01 (M := M) (k := k) (s := l - iV M (12 + 3 * k) 1) with e | e
  · rw [e, eq_T rfl, if_pos rfl, a_Zone_offset h hk]
  · rw [e, eq_F (by omega) (by omega) (by omega) (by omega) (by omega), if_neg (by omega), a_Zone_shift h hk, a_Zone_offset h hk]
theorem c_commonOf (h : Wd M) (hk : k < 3) (hz : Zv M k) (h0 : 120 ≤ l) (h1 : l < 210370000) {δ : Type} {A : _ → xM → Option δ} : xcl (f_Zone_commonOf O f (12 + 3 * k) l M) A = A (com M k l) (M) := xc_of (e_commonOf h hk hz h0 h1) A
theorem e_firstOf (h : Wd M) (hk : k < 3) (hz : Zv M k) (h0 : 120 ≤ l) (h1 : l < 210370000) : f_Zone_firstOf O f (12 + 3 * k) l M = some (fst M k l, M) := by
  have hz' := hz
  obtain ⟨o0, o1, s0, s1, -, -⟩ := hz'
  unfold f_Zone_firstOf fst
  rw [a_Zone_shift h hk, a_Zone_is h hk, xc_of (e_isSummer h hk hz (by omega) (by omega))]
  rcases sm_01 (M := M) (k := k) (s := l - iV M (12 + 3 * k) 1) with e | e
  · rw [e, eq_T rfl, if_pos rfl, a_Zone_is h hk, xc_of (e_isSummer h hk hz (by omega) (by omega))]
    rcases sm_01 (M := M) (k := k) (s := l) with e | e
    · rw [e, eq_T rfl, if_pos rfl, a_Zone_offset h hk]
    · rw [e, eq_F (by omega) (by omega) (by omega) (by omega) (by omega), if_neg (by omega)]
  · rw [e, eq_F (by omega) (by omega) (by omega) (by omega) (by omega), if_neg (by omega), a_Zone_shift h hk, a_Zone_offset h hk]
theorem c_firstOf (h : Wd M) (hk : k < 3) (hz : Zv M k) (h0 : 120 ≤ l) (h1 : l < 210370000) {δ : Type} {A : _ → xM → Option δ} : xcl (f_Zone_firstOf O f (12 + 3 * k) l M) A = A (fst M k l) (M) := xc_of (e_firstOf h hk hz h0 h1) A
theorem e_secondOf (h : Wd M) (hk : k < 3) (hz : Zv M k) (h0 : 120 ≤ l) (h1 : l < 210370000) : f_Zone_secondOf O f (12 + 3 * k) l M = some (snd M k l, M) := by
  have hz' := hz
  obtain ⟨o0, o1, s0, s1, -, -⟩ := hz'
  unfold f_Zone_secondOf snd
  rw [a_Zone_shift h hk, a_Zone_is h hk, xc_of (e_isSummer h hk hz (by omega) (by omega))]
  rcases sm_01 (M := M) (k := k) (s := l - iV M (12 + 3 * k) 1) with e | e
  · rw [e, eq_T rfl, if_pos rfl]
  · rw [e, eq_F (by omega) (by omega) (by omega) (by omega) (by omega), if_neg (by omega), a_Zone_is h hk, xc_of (e_isSummer h hk hz (by omega) (by omega))]
    rcases sm_01 (M := M) (k := k) (s := l) with e | e
    · rw [e, eq_T rfl, if_pos rfl, a_Zone_offset h hk]
    · rw [e, eq_F (by omega) (by omega) (by omega) (by omega) (by omega), if_neg (by omega)]
theorem c_secondOf (h : Wd M) (hk : k < 3) (hz : Zv M k) (h0 : 120 ≤ l) (h1 : l < 210370000) {δ : Type} {A : _ → xM → Option δ} : xcl (f_Zone_secondOf O f (12 + 3 * k) l M) A = A (snd M k l) (M) := xc_of (e_secondOf h hk hz h0 h1) A
/-- common minutes are told back -/
theorem loc_back : fst M k (loc M k c) = c ∨ (fst M k (loc M k c) ≠ c ∧ snd M k (loc M k c) = c) := by
  unfold loc
  rcases sm_01 (M := M) (k := k) (s := c + iV M (12 + 3 * k) 0) with e | e
  · rw [if_pos e]
    by_cases q : fst M k (c + iV M (12 + 3 * k) 0) = c
    · exact Or.inl q
    · refine Or.inr ⟨q, ?_⟩
      unfold fst at q
      unfold snd
      rw [e] at q ⊢
      rw [if_pos rfl] at q
      rw [if_pos rfl]
      rcases sm_01 (M := M) (k := k) (s := c + iV M (12 + 3 * k) 0 - iV M (12 + 3 * k) 1) with g | g
      · rw [g, if_pos rfl] at q
        exact absurd (by omega) q
      · rw [g, if_neg (by omega)]
        omega
  · refine Or.inl ?_
    rw [if_neg (by omega)]
    unfold fst
    rw [show c + iV M (12 + 3 * k) 0 + iV M (12 + 3 * k) 1 - iV M (12 + 3 * k) 1 = c + iV M (12 + 3 * k) 0 by omega, e, if_neg (by omega)]
    omega
theorem zr_loop (h : Wd M) (hk : k < 3) (hz : Zv M k) : ∀ (r n : Nat) (v : Int), 0 ≤ v → v + r = 731 → r < n → f_Zone_isRight_2 O f n (12 + 3 * k) v M = some (1, M) := by
  intro r
  induction r with
  | zero =>
    intro n v h0 h1 h2
    obtain ⟨n, rfl⟩ : ∃ n', n = n' + 1 := ⟨n - 1, by omega⟩
    show (if yw 730 < yw v then _ else _) = _
    rw [lt_T (by omega) (by omega) (by omega)]
  | succ r ih =>
    intro n v h0 h1 h2
    obtain ⟨n, rfl⟩ : ∃ n', n = n' + 1 := ⟨n - 1, by omega⟩
    have hl := loc_r (c := 14400 + 1440 * v + 120) hz
    have hz' := hz
    obtain ⟨o0, o1, s0, s1, -, -⟩ := hz'
    show (if yw 730 < yw v then _ else _) = _
    rw [lt_F (by omega) (by omega) (by omega), xlet_e, a_Zone_is h hk, xc_of (e_localOf h hk hz (by omega) (by omega)), a_Zone_is h hk, xc_of (e_firstOf h hk hz (by omega) (by omega))]
    have fr : -2147483648 ≤ fst M k (loc M k (14400 + 1440 * v + 120)) ∧ fst M k (loc M k (14400 + 1440 * v + 120)) ≤ 2147483647 := by
      unfold fst
      split
      · split <;> omega
      · omega
    rcases loc_back (M := M) (k := k) (c := 14400 + 1440 * v + 120) with e | ⟨e, e2⟩
    · rw [eq_T e]
      exact ih n (v + 1) (by omega) (by omega) (by omega)
    · rw [eq_F e fr.1 fr.2 (by omega) (by omega), a_Zone_is h hk, xc_of (e_secondOf h hk hz (by omega) (by omega)), eq_T e2]
      exact ih n (v + 1) (by omega) (by omega) (by omega)
theorem e_zisRight (h : Wd M) (hk : k < 3) (hz : Zv M k) (hf : 1000 ≤ f) : f_Zone_isRight O f (12 + 3 * k) M = some (1, M) := zr_loop h hk hz 731 f 0 (by omega) (by omega) (by omega)
theorem c_zisRight (h : Wd M) (hk : k < 3) (hz : Zv M k) (hf : 1000 ≤ f) {δ : Type} {A : _ → xM → Option δ} : xcl (f_Zone_isRight O f (12 + 3 * k) M) A = A (1) (M) := xc_of (e_zisRight h hk hz hf) A
end ZON
end
