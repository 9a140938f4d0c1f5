/-! draft 723.adtail -/
section
/-! ===== areDays from the writing on ===== -/
section ADT
variable {O : Nat → Option va_E} {f k n m : Nat} {M N : xM} {kk : Int}
theorem ad_tail (hO : STo O) (hd : DGo O) (hkk : kk = (k : Int)) (hk0 : k = 0) (bo : Bs M) (dt : DT n m k M) (sv : SV M k) (s7 : iV M (29 + 6 * k) 7 = 0) (rv : RVg (iV M (30 + 6 * k))) (so : SO (iV M (30 + 6 * k))) (er : ∀ j, j ≤ 6 → iV M (30 + 6 * k) j = iV M m j) (nm : n + 5 ≤ m) (hM : M.1 ≤ 100000) (hf : 10000 ≤ f) : ∃ N, f_Law_areDays_202 O f 1 0 n m kk M = some (1, N) ∧ N.1 ≤ M.1 + 305 ∧ N.2.1 ≤ M.2.1 + 63200 := by
  have hk : k < 12 := by omega
  obtain ⟨zv, ld, lr, lv, ⟨nb, L, bd, b6⟩, ab⟩ := dt
  have n0 : 1044 ≤ n := ld.1.1
  have mM := lr.1.2
  have M4 := bo.1.1
  obtain ⟨N1, e1, k1, w1, c1, s1⟩ := ad_202 (O := O) (f := f) (n2 := n) hO hd bo.1 hM hkk hk sv.1 lr (by omega) lv er bd b6 hf
  have v1 : ∀ a j, a < M.1 → a ≠ 137 → a ≠ 138 → iV N1 a j = iV M a j := fun a j h1 h2 h3 => k1.i h1 ⟨h2, h3⟩
  have q1 : M.1 ≤ N1.1 := k1.1
  obtain ⟨N2, eA, x2, ar2, z2, c2, s2⟩ := ar_new (M := N1) (x := 800) (by omega) (by omega) (by omega)
  have x21 := x2.1
  have w2 : Wd N2 := x2.wd w1 (by omega)
  have v2 : ∀ a j, a < M.1 → a ≠ 137 → a ≠ 138 → iV N2 a j = iV M a j := fun a j h1 h2 h3 => by rw [x2.i (by omega), v1 a j h1 h2 h3]
  have ld2 : LD n N2 := (ld.kq k1 (by omega) (fun a ha => ⟨by omega, by omega⟩)).ex x2 (by omega)
  have lr2 : LRp m N2 := (lr.kq k1).ex x2 (by omega)
  have em2 : iV N2 m = iV M m := funext (fun j => v2 m j mM (by omega) (by omega))
  have er2 : iV N2 (30 + 6 * k) = iV M (30 + 6 * k) := funext (fun j => v2 _ j (by omega) (by omega) (by omega))
  obtain ⟨r, hr⟩ : ∃ r, r = iV M (30 + 6 * k) := ⟨_, rfl⟩
  rw [← hr] at er2 er rv so
  have em0 : iV M m 0 = r 0 := (er 0 (by omega)).symm
  have r0b := lv.1
  rw [em0] at r0b
  have hol2 : hol (iV M m) = hol r := hol_of (fun j hj => (er j (by omega)).symm)
  have m5 : iV M m 5 = r 5 := (er 5 (by omega)).symm
  have m6 : iV M m 6 = r 6 := (er 6 (by omega)).symm
  have em20 : iV N2 m 0 = r 0 := by rw [em2, em0]
  have lw : lwD (iV N2 m) (Dg r) := by
    rw [em2]
    intro d d0 d1
    rw [em0] at d0 d1
    rw [hol2, em0, m5, m6]
    exact so d d0 (by omega)
  have ar2' : inM N2 N1.1 ∧ mS N2 N1.1 = .inr (0, 800) := ⟨⟨by omega, by omega⟩, ar2.2.2.1⟩
  have nz : nD (Dg r) (r 0) (r 0 - 1) = 0 := nD_e (by omega)
  obtain ⟨N3, e3, u3, dl3⟩ := dl_287 (O := O) (f := f) (n := n) (m := m) (p := N1.1) (kk := kk) (D := Dg r) (by omega) (by omega) (by omega) hf 800 f (r 0) 0 N2 ld2 lr2 (by rw [em2]; exact lv) ar2'.1 ar2'.2 w2 lw (by omega) (by omega) (by omega) (by rw [em20]; omega) (fun z => by
    have nz2 : nD (hol (iV M m)) (iV M m 0) (r 0 - 1) = 0 := nD_e (by omega)
    have en := lv.2.2.2.2.2.2.2.2.2.2.2
    rw [em2] at z ⊢
    rw [nz2]
    omega) (fun i hi => absurd hi (Nat.not_lt_zero _))
  rw [em20] at e3 dl3
  -- the rule there
  have w3 := u3.wd w2
  have er3 : iV N3 (30 + 6 * k) = r := funext (fun j => by rw [u3.i (by (try dsimp only); omega)]; exact congrFun er2 j)
  have v3 : ∀ a j, a < M.1 → a ≠ 137 → a ≠ 138 → iV N3 a j = iV M a j := fun a j h1 h2 h3 => by rw [u3.i (by (try dsimp only); omega), v2 a j h1 h2 h3]
  obtain ⟨T, eT⟩ : ∃ T, T = nD (Dg r) (r 0) (r 0 + 799) := ⟨_, rfl⟩
  have t8 : T ≤ 800 := by
    have := nD_le (P := Dg r) (a := r 0) (b := r 0 + 799) (by omega)
    omega
  obtain ⟨N4, e4, u4⟩ := dl_asks (O := O) (f := f) (kk := kk) (m := m) (v10 := r 0 + 799) (x := 0) w3 hkk hk (by rw [v3 _ _ (by omega) (by omega) (by omega)]; exact sv.1) (by rw [er3]; exact rv) (p := N1.1) (by omega) (u3.1.inM ar2'.1) (by rw [u3.1.s]; exact ar2'.2) (by rw [er3]; omega) (by rw [er3]) (by rw [er3]; exact dl3) hf
  rw [er3, ← eT] at e4
  rw [← eT] at e3 dl3
  have w4 := u4.wd w3
  have v4 : ∀ a j, a < M.1 → a ≠ 0 → a ≠ 137 → a ≠ 138 → iV N4 a j = iV M a j := fun a j h0 h1 h2 h3 => by rw [u4.i h1, v3 a j h0 h2 h3]
  have er4 : iV N4 (30 + 6 * k) = r := funext (fun j => by rw [u4.i (by (try dsimp only); omega)]; exact congrFun er3 j)
  have ep4 : iV N4 N1.1 = iV N3 N1.1 := funext (fun j => u4.i (by (try dsimp only); omega))
  have ip4 : inM N4 N1.1 := u4.1.inM (u3.1.inM ar2'.1)
  have sp4 : mS N4 N1.1 = .inr (0, 800) := by rw [u4.1.s, u3.1.s]; exact ar2'.2
  have n41 : N4.1 = N1.1 + 1 := by rw [u4.1.1, u3.1.1, c2]
  have n42 : N4.2.1 = N1.2.1 + 800 := by rw [u4.1.2.1, u3.1.2.1, s2]; rfl
  have bo4 : Bs N4 := bo.iv w4 (fun a j h0 h1 => v4 a j (by omega) (by omega) (by omega) (by omega))
  have aq4 : AQ N4 k T N1.1 := ⟨w4, sv.of (fun a j a0 a1 => v4 a j (by omega) (by omega) (by omega) (by omega)), fun z hz => (zv z hz).of (fun a j a0 a1 => v4 a j (by omega) (by omega) (by omega) (by omega)), by rw [er4]; exact rv, ip4, sp4, by omega, t8, fun i hi => by rw [er4, ep4]; exact (dl3 i hi).2.2.1⟩
  have dl4 : dyL (iV N4 N1.1) (Dg (iV N4 (30 + 6 * k))) (iV N4 (30 + 6 * k) 0) T (r 0 + 799) := by rw [er4, ep4]; exact dl3
  have em4 : ∀ j, iV N4 m j = iV M m j := fun j => v4 m j mM (by omega) (by omega) (by omega)
  have ch : f_Law_areDays_202 O f 1 0 n m kk M = f_Law_areDays_566 O f 1 0 m kk N1.1 (T : Int) (r 0 + 799) N4 := by
    rw [e1, eA, xcl_e, lr2.gJ (j := 0) (by decide), lr2.gJ (j := 0) (by decide), em20, e3, e4]
  rw [ch]
  unfold f_Law_areDays_566
  by_cases t0 : T = 0
  · refine ⟨N4, ?_, by omega, by omega⟩
    rw [eq_T (show (T : Int) = 0 by omega)]
  obtain ⟨N5, e5, bo5, ke, ze, kp5, c5, s5⟩ := areMoved_ok (O := O) (f := f) (kk := kk) (v10 := r 0 + 799) hkk hk hf bo4 aq4 (by rw [v4 _ _ (by omega) (by omega) (by omega) (by omega)]; exact s7) (by rw [er4]; omega) (by rw [er4]) (by omega) (by rw [er4]; exact eT) dl4 (by omega)
  have ek := (ke k hk).fs
  have er5 : ∀ j, j < 8 → iV N5 (30 + 6 * k) j = r j := fun j hj => by rw [ek.2.1 j hj, er4]
  obtain ⟨-, dg5, rv5, so5⟩ := r8 er5
  have ip5 : inM N5 N1.1 := ⟨ip4.1, by omega⟩
  have sp5 : mS N5 N1.1 = .inr (0, 800) := by rw [(kp5.2.1 _ ip4.2).1]; exact sp4
  have ep5 : iV N5 N1.1 = iV N4 N1.1 := funext (fun j => kp5.i ip4.2 (by (try dsimp only); omega))
  have em5 : ∀ j, iV N5 m j = iV M m j := fun j => by rw [kp5.i (by omega) (by (try dsimp only); omega), em4]
  have sdr : sdA (r 1) (r 2) (r 3) (r 4) := by
    rw [er 1 (by omega), er 2 (by omega), er 3 (by omega), er 4 (by omega)]
    exact lv.sd
  have enr : enA (r 0) (r 5) (r 6) := by
    rw [er 0 (by omega), er 5 (by omega), er 6 (by omega)]
    exact lv.en
  have sv5 : SV N5 k := (ke k hk).sv aq4.2.1
  have aq5 : AQ N5 k T N1.1 := ⟨bo5.1, sv5, fun z hz => (ze z hz).zv (aq4.2.2.1 z hz), rv5 rv, ip5, sp5, by omega, t8, fun i hi => by rw [dg5, ep5]; have q := aq4.2.2.2.2.2.2.2.2 i hi; rw [er4] at q; exact q⟩
  obtain ⟨N6, e6, c6, s6⟩ := isCut_ok (O := O) (f := f) (m := m) (kk := kk) (v10 := r 0 + 799) hkk hk0 hf bo5 aq5 (by rw [ek.1 7 (by decide) (by decide), v4 _ _ (by omega) (by omega) (by omega) (by omega)]; exact s7) (fun j hj hjk => by rw [(ke j hj).fs.1 0 (by decide) (by decide), v4 _ _ (by omega) (by omega) (by omega) (by omega)]; exact ab j hj hjk) (so5 so) (by rw [er5 1 (by decide), er5 2 (by decide), er5 3 (by decide), er5 4 (by decide)]; exact sdr) (by rw [er5 0 (by decide), er5 5 (by decide), er5 6 (by decide)]; exact enr) ((lr2.sm u3.1).sm u4.1 |>.kq kp5.kq) (by omega) (by rw [em5, er5 5 (by decide)]; exact m5) (by rw [em5, er5 6 (by decide)]; exact m6) (by rw [dg5, er5 0 (by decide)]; exact eT) (by rw [dg5, er5 0 (by decide), ep5, ep4]; exact dl3)
  refine ⟨N6, ?_, by omega, by omega⟩
  rw [eq_F (by omega) (by omega) (by omega) (by omega) (by omega), e5, xcl_e, eq_F (by omega) (by omega) (by omega) (by omega) (by omega), e6, xcl_e, eq_F (by omega) (by omega) (by omega) (by omega) (by omega)]
end ADT
end
