/-! draft 725.aredays -/
section
/-! ===== areDays holds ===== -/
section ADF
variable {O : Nat → Option va_E} {f k n m : Nat} {M N : xM} {kk z mi p q : Int} {P : Nat → Prop}
theorem DT.uz (h : DT n m k M) (u : Un P M N) (m0 : 1044 ≤ m) (hz : ∀ z, z < 3 → Zv N z) (hp : ∀ a, (21 ≤ a ∧ a < 101) ∨ a = 137 ∨ a = 138 ∨ 1044 ≤ a → P a) : DT n m k N := by
  obtain ⟨zv, ld, lr, lv, ⟨nb, L, bd, b6⟩, ab⟩ := h
  have em : iV N m = iV M m := funext (fun j => u.i (hp m (by omega)))
  exact ⟨hz, ld.un u (fun j hj => hp _ (by have := ld.1.1; omega)), lr.sm u.1, by rw [em]; exact lv, ⟨nb, L, bd.un u (hp _ (by omega)) (hp _ (by omega)), b6⟩, fun j hj hk2 => by rw [u.i (hp _ (by omega))]; exact ab j hj hk2⟩
theorem zv_set (h : ∀ z, z < 3 → Zv M z) (z0 : 0 ≤ z) (z1 : z < 3) (u : Un (fun a => a = 0 ∨ 1044 ≤ a ∨ (1 < a ∧ a < 140 ∧ a ≠ 12 + 3 * z.toNat)) M N) (e0 : iV N (12 + 3 * z.toNat) 0 = 15 * p) (e1 : iV N (12 + 3 * z.toNat) 1 = 15 * q) (p0 : -48 ≤ p) (p1 : p ≤ 56) (q0 : 0 ≤ q) (q1 : q ≤ 8) : ∀ y, y < 3 → Zv N y := by
  intro y hy
  have hv := h y hy
  by_cases c : y = z.toNat
  · obtain ⟨-, -, -, -, r1, r2⟩ := hv
    rw [← c] at e0 e1
    have v : ∀ a j, a = 13 + 3 * y ∨ a = 14 + 3 * y → iV N a j = iV M a j := fun a j ha => u.i (by (try dsimp only); omega)
    unfold Zv rV at *
    rw [e0, e1, v _ 0 (Or.inl rfl), v _ 1 (Or.inl rfl), v _ 2 (Or.inl rfl), v _ 3 (Or.inl rfl), v _ 0 (Or.inr rfl), v _ 1 (Or.inr rfl), v _ 2 (Or.inr rfl), v _ 3 (Or.inr rfl)]
    exact ⟨by omega, by omega, by omega, by omega, r1, r2⟩
  · exact hv.of (fun a j a0 a1 => u.i (by (try dsimp only); omega))
theorem isRead_ok (lr : LRp m M) : f_LRule_isRead O f m M = some ((if iV M m 4 < -1 then 0 else 1), M) := by
  have r4 := iV_r M m 4
  unfold f_LRule_isRead
  rw [lr.gJ (j := 4) (by decide)]
  by_cases c : iV M m 4 < -1
  · rw [lt_T c (by omega) (by omega), if_pos c]
  · rw [lt_F (by omega) (by omega) (by omega), if_neg c]
theorem ad_83 (hO : STo O) (hd : DGo O) (bo : Bs M) (dt : DT n m 0 M) (s0 : iV M (29 + 6 * 0) 0 = 0) (z0 : 0 ≤ z) (z1 : z < 3) (i0 : 0 ≤ mi) (i1 : mi ≤ 1439) (nm : n + 5 ≤ m) (hM : M.1 ≤ 90000) (hf : 10000 ≤ f) : ∃ N, f_Law_areDays_83 O f 1 0 n m z mi M = some (1, N) ∧ N.1 ≤ M.1 + 567 ∧ N.2.1 ≤ M.2.1 + 122800 := by
  have n0 : 1044 ≤ n := dt.2.1.1.1
  have lr := dt.2.2.1
  have lv := dt.2.2.2.1
  obtain ⟨x2, A, eA, a0, a1, wA, uA, iA⟩ := dn_ok (O := O) (f := f) (m := 600) bo.1 (by omega) (by omega)
  obtain ⟨x3, B, eB, b0, b1, wB, uB, iB⟩ := dn_ok (O := O) (f := f) (m := 256) wA (by omega) (by omega)
  obtain ⟨x4, C, eC, c0, wC, uC, iC⟩ := di_ok (O := O) (f := f) (m := 2) wB (by omega) (by omega)
  have uMC : Un (fun a => a ≠ 0) M C := (uA.tr uB).tr uC
  have iMC : ∀ a j, iV C a j = iV M a j := fun a j => by rw [iC, iB, iA]
  have bC : Bs C := bo.iv wC (fun a j _ _ => iMC a j)
  have dtC := dt.un uMC (by decide) (by omega) (fun a ha => by (try dsimp only); omega)
  have lvb := lv.1
  obtain ⟨D, eD, bD, uD, ⟨d0, d1, d2, d3, d4, d5, d7⟩, ⟨g0, g1, g2, g3, g4, g5, g6, g7⟩, -⟩ := add_series (O := O) (f := f) (k := 0) (z := z) (d := iV M m 0) (mi := mi) (le := 1 + x2) (pe := x3) (ne := x4) bC (by decide) (fun j hj => absurd hj (Nat.not_lt_zero _)) (by rw [iMC]; exact s0) z0 z1 (by omega) (by omega) i0 i1 (by omega) (by omega) (by omega) (by omega) c0 (by omega)
  have us : ∀ a, (12 ≤ a ∧ a < 21) ∨ (21 ≤ a ∧ a < 101 ∧ (a < 29 + 6 * 0 ∨ 35 + 6 * 0 ≤ a)) ∨ a = 137 ∨ a = 138 ∨ 1044 ≤ a → Us 0 a := fun a ha => by unfold Us; omega
  have dtD := dtC.un uD (by decide) (by omega) us
  have mD : ∀ j, iV D m j = iV M m j := fun j => by rw [uD.i (us m (by omega)), iMC]
  have svD : SV D 0 := by
    unfold SV
    rw [d0, d1, d2, d3, d4, d5, d7]
    exact ⟨rfl, ⟨z0, z1⟩, ⟨i0, i1⟩, ⟨by omega, by omega⟩, ⟨by omega, by omega⟩, c0, ⟨by omega, by omega⟩, fun i hi => by omega, fun i j hij hj => by omega⟩
  have cD : D.1 = M.1 := by rw [uD.1.1, uMC.1.1]
  have dD : D.2.1 = M.2.1 := by rw [uD.1.2.1, uMC.1.2.1]
  have w := bo.1
  have zero : ((0 : Nat) : Int) = 0 := rfl
  -- told by calls
  have told : ∀ E : xM, Bs E → Un (fun a => a ≠ 0) D E → (∀ a j, iV E a j = iV D a j) → ∃ N, f_Law_areDays_164 O f 1 0 n m ((0 : Nat) : Int) E = some (1, N) ∧ N.1 ≤ M.1 + 567 ∧ N.2.1 ≤ M.2.1 + 122800 := by
    intro E bE uE iE
    have svE : SV E 0 := svD.of (fun a j _ _ => iE a j)
    obtain ⟨N, eN, n1, n2⟩ := ad_164 (O := O) (f := f) (k := 0) (kk := ((0 : Nat) : Int)) hO hd rfl rfl bE (dtD.un uE (by decide) (by omega) (fun a ha => by (try dsimp only); omega)) svE (by rw [iE, iE, g0, mD]) (by rw [iE, g5]) (by rw [iE, g6]) nm (by have := uE.1.1; omega) hf
    have q1 := uE.1.1
    have q2 := uE.1.2.1
    exact ⟨N, eN, by omega, by omega⟩
  unfold f_Law_areDays_83
  rw [lr.gJ (j := 0) (by decide), w.is (k := 0) (ci := 15) (by decide) (by decide), eA, xcl_e, wA.is (k := 0) (ci := 15) (by decide) (by decide), eB, xcl_e, wB.is (k := 0) (ci := 15) (by decide) (by decide), eC, xcl_e, a_Cal_is wC, eD, xcl_e, dtD.2.2.1.is, isRead_ok dtD.2.2.1, xcl_e]
  by_cases c : iV D m 4 < -1
  · rw [if_pos c, eq_T rfl]
    exact told D bD Un.rf (fun _ _ => rfl)
  obtain ⟨x7, E, eE, e01, wE, uE, iE⟩ := di_ok (O := O) (f := f) (m := 2) bD.1 (by omega) (by omega)
  have bE : Bs E := bD.iv wE (fun a j _ _ => iE a j)
  rw [if_neg c, eq_F (by omega) (by omega) (by omega) (by omega) (by omega), bD.1.is (k := 0) (ci := 15) (by decide) (by decide), eE, xcl_e]
  rcases e01 with rfl | rfl
  · rw [eq_T rfl]
    exact told E bE uE iE
  · rw [eq_F (by omega) (by omega) (by omega) (by omega) (by omega)]
    have svE : SV E 0 := svD.of (fun a j _ _ => iE a j)
    have q1 := uE.1.1
    have q2 := uE.1.2.1
    obtain ⟨N, eN, n1, n2⟩ := ad_read (O := O) (f := f) (k := 0) (kk := ((0 : Nat) : Int)) hO hd rfl rfl bE (dtD.un uE (by decide) (by omega) (fun a ha => by (try dsimp only); omega)) svE (by rw [iE, iE, g0, mD]) (by rw [iE]; omega) nm (by omega) hf
    exact ⟨N, eN, by omega, by omega⟩
/-- the branch -/
theorem areDays_ok (hO : STo O) (hd : DGo O) (h : St0 M) (hb : BD M 137 138 16 []) (hf : 10000 ≤ f) : ∃ M', f_Law_areDays O f 1 0 M = some (1, M') ∧ M'.1 ≤ 2000 ∧ M'.2.1 ≤ 200000 := by
  have hsv := h.sv
  have hbo := h.bo
  obtain ⟨hw, hM, hM2, hs, hse, -, hzo, -⟩ := h
  have bo : Bs M := ⟨hw, hsv, hbo⟩
  have zv : ∀ z, z < 3 → Zv M z := fun k hk => by
    obtain ⟨v1, v2, v3, v4, v5, v6, v7, v8, v9, v10⟩ := hzo k hk
    unfold Zv rV
    omega
  obtain ⟨A0, A, e0, eA, ldA, xA, A1, A2⟩ := ld_ok (O := O) (f := f) (M := M) (by omega) (by omega) (by omega)
  obtain ⟨B, eB⟩ : ∃ B, B = mnew A (.inl 16) (xNf 16) := ⟨_, rfl⟩
  have nB : nO A 16 = some (A.1, B) := by
    unfold nO
    rw [if_pos (by omega), eB]
  have xB : Ex A B := by rw [eB]; exact Ex.new
  have B1 : B.1 = A.1 + 1 := by rw [eB]; rfl
  have B2 : B.2.1 = A.2.1 + 7 := by rw [eB]; rfl
  have lrB : LRp A.1 B := ⟨⟨by omega, by omega⟩, by rw [eB]; exact if_pos rfl⟩
  have xMB : Ex M B := xA.tr xB
  have wB : Wd B := xMB.wd hw (by omega)
  have ldB : LD M.1 B := ldA.ex xB (by omega)
  obtain ⟨x5, C, eC, c0, c1, wC, uC, iC⟩ := dn_ok (O := O) (f := f) (m := 3000) wB (by omega) (by omega)
  have lrC : LRp A.1 C := lrB.sm uC.1
  obtain ⟨D, eD, wD, uD, lvD, fD⟩ := ldraw_ok (O := O) (f := f) (m := A.1) (fd := 10 + x5) wC lrC (by omega) (by omega) (by omega)
  have lrD : LRp A.1 D := lrC.sm uD.1
  have uBD : Un (fun a => a ≠ 0 ∧ a ≠ A.1) B D := (uC.le (fun a q => q.1)).tr uD
  have bB : Bs B := bo.ex xMB (by omega)
  have bD : Bs D := bB.iv wD (fun a j h0 h1 => uBD.i ⟨by omega, by omega⟩)
  have iD : ∀ a j, 1 ≤ a → a < 1044 → iV D a j = iV M a j := fun a j h0 h1 => by rw [uBD.i ⟨by omega, by omega⟩, xMB.i (by omega)]
  have bdD : BD D 137 138 16 [] := (hb.kq (P := fun _ => True) xMB.kq (by omega) trivial trivial).un uBD ⟨by omega, by omega⟩ ⟨by omega, by omega⟩
  have dtD : DT M.1 A.1 0 D := ⟨fun z hz => (zv z hz).of (fun a j a0 a1 => iD a j (by omega) (by omega)), ldB.un uBD (fun j hj => ⟨by omega, by omega⟩), lrD, lvD, ⟨16, [], bdD, by omega⟩, fun j hj hj0 => by rw [iD _ _ (by omega) (by omega)]; exact (hse j hj).1⟩
  have sD : iV D (29 + 6 * 0) 0 = 0 := by rw [iD _ _ (by omega) (by omega)]; exact (hse 0 (by decide)).1
  have D1 : D.1 = M.1 + 6 := by rw [uBD.1.1, B1, A1]
  have D2 : D.2.1 = M.2.1 + 24011 := by rw [uBD.1.2.1, B2, A2]
  obtain ⟨x7, E, eE, z0, z1, wE, uE, iE⟩ := dn_ok (O := O) (f := f) (m := 3) wD (by omega) (by omega)
  obtain ⟨x8, F, eF, i0, i1, wF, uF, iF⟩ := dn_ok (O := O) (f := f) (m := 1440) wE (by omega) (by omega)
  obtain ⟨x9, G, eG, g01, wG, uG, iG⟩ := di_ok (O := O) (f := f) (m := 2) wF (by omega) (by omega)
  have uDG : Un (fun a => a ≠ 0) D G := (uE.tr uF).tr uG
  have iDG : ∀ a j, iV G a j = iV D a j := fun a j => by rw [iG, iF, iE]
  have bG : Bs G := bD.iv wG (fun a j _ _ => iDG a j)
  have dtG : DT M.1 A.1 0 G := dtD.un uDG (by decide) (by omega) (fun a ha => by (try dsimp only); omega)
  have sG : iV G (29 + 6 * 0) 0 = 0 := by rw [iDG]; exact sD
  have G1 := uDG.1.1
  have G2 := uDG.1.2.1
  unfold f_Law_areDays
  rw [e0, xcl_e, eA, xcl_e, nB, xcl_e]
  unfold f_LRule_ctor
  rw [xcl_e, wB.is (k := 0) (ci := 15) (by decide) (by decide), eC, xcl_e, lrC.is, eD, xcl_e, wD.is (k := 0) (ci := 15) (by decide) (by decide), eE, xcl_e, wE.is (k := 0) (ci := 15) (by decide) (by decide), eF, xcl_e, wF.is (k := 0) (ci := 15) (by decide) (by decide), eG, xcl_e]
  rcases g01 with rfl | rfl
  · rw [eq_T rfl]
    obtain ⟨N, eN, n1, n2⟩ := ad_83 (O := O) (f := f) hO hd bG dtG sG z0 z1 i0 (by omega) (by omega) (by omega) hf
    exact ⟨N, eN, by omega, by omega⟩
  · obtain ⟨x10, H, eH, h0, h1, wH, uH, iH⟩ := dn_ok (O := O) (f := f) (m := 105) wG (by omega) (by omega)
    obtain ⟨x11, I, eI, j0, j1, wI, uI, iI⟩ := dn_ok (O := O) (f := f) (m := 9) wH (by omega) (by omega)
    have uGI : Un (fun a => a ≠ 0) G I := uH.tr uI
    have iGI : ∀ a j, iV I a j = iV G a j := fun a j => by rw [iI, iH]
    have bI : Bs I := bG.iv wI (fun a j _ _ => iGI a j)
    have dtI : DT M.1 A.1 0 I := dtG.un uGI (by decide) (by omega) (fun a ha => by (try dsimp only); omega)
    obtain ⟨J, y, eJ, bJ, uJ, o0, o1⟩ := sz_ok (O := O) (f := f) (z := x7) (p := x10 - 48) (q := x11) bI z0 z1 (by omega) (by omega) (by omega) (by omega) (by omega)
    have zJ := zv_set dtI.1 z0 z1 uJ o0 o1 (by omega) (by omega) (by omega) (by omega)
    have dtJ : DT M.1 A.1 0 J := dtI.uz uJ (by omega) zJ (fun a ha => by (try dsimp only); omega)
    have sJ : iV J (29 + 6 * 0) 0 = 0 := by rw [uJ.i (by (try dsimp only); omega), iGI]; exact sG
    have J1 := uJ.1.1
    have J2 := uJ.1.2.1
    have I1 := uGI.1.1
    have I2 := uGI.1.2.1
    rw [eq_F (by omega) (by omega) (by omega) (by omega) (by omega), wG.is (k := 0) (ci := 15) (by decide) (by decide), eH, xcl_e, wH.is (k := 0) (ci := 15) (by decide) (by decide), eI, xcl_e, a_Cal_is wI, eJ, xcl_e]
    obtain ⟨N, eN, n1, n2⟩ := ad_83 (O := O) (f := f) hO hd bJ dtJ sJ z0 z1 i0 (by omega) (by omega) (by omega) hf
    exact ⟨N, eN, by omega, by omega⟩
end ADF
end
