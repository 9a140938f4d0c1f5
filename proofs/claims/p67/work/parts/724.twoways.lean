/-! draft 724.twoways -/
section
/-! ===== areDays: the rule told, or read ===== -/
section ADW
variable {O : Nat → Option va_E} {f k n m : Nat} {M N : xM} {kk : Int}
/-- the rule is told by calls -/
theorem ad_164 (hO : STo O) (hd : DGo O) (hkk : kk = (k : Int)) (hk0 : k = 0) (bo : Bs M) (dt : DT n m k M) (sv : SV M k) (e0 : iV M (30 + 6 * k) 0 = iV M m 0) (e5 : iV M (30 + 6 * k) 5 = 0) (e6 : iV M (30 + 6 * k) 6 = 0) (nm : n + 5 ≤ m) (hM : M.1 ≤ 100000) (hf : 10000 ≤ f) : ∃ N, f_Law_areDays_164 O f 1 0 n m kk M = some (1, N) ∧ N.1 ≤ M.1 + 305 ∧ N.2.1 ≤ M.2.1 + 63200 := by
  have hk : k < 12 := by omega
  have dt' := dt
  obtain ⟨-, ld, lr, lv, -, -⟩ := dt'
  have n0 : 1044 ≤ n := ld.1.1
  have w := bo.1
  have lvb := lv.1
  have us : ∀ a, (12 ≤ a ∧ a < 21) ∨ (21 ≤ a ∧ a < 101 ∧ (a < 29 + 6 * k ∨ 35 + 6 * k ≤ a)) ∨ a = 137 ∨ a = 138 ∨ 1044 ≤ a → Us k a := fun a ha => by unfold Us; omega
  obtain ⟨A, y, eA, bA, uA, sA, sA7, ⟨a1, a2, a3, a4⟩, ao, -, -⟩ := setRuleG_ok (O := O) (f := f) (a := iV M m 1) (b := iV M m 2) (c := iV M m 3) (e := iV M m 4) bo hkk hk sv.1 (by omega) (by omega) (Or.inl ⟨e5, e6⟩) lv.sd hf
  have dtA := dt.un uA hk (by omega) us
  have mA : ∀ j, iV A m j = iV M m j := fun j => uA.i (us m (by omega))
  have lrA := dtA.2.2.1
  obtain ⟨B, y2, eB, bB, uB, sB2, sB7, ⟨b5, b6⟩, b4, rvB, soB⟩ := setEndG_ok (O := O) (f := f) (q := iV M m 5) (w := iV M m 6) bA hkk hk (by rw [sA 0 (by decide)]; exact sv.1) (by rw [ao 0 (by omega)]; omega) (by rw [ao 0 (by omega)]; omega) (by rw [a1, a2, a3, a4]; exact lv.sd) (by rw [ao 0 (by omega), e0]; exact lv.en) hf
  have dtB := dtA.un uB hk (by omega) us
  have mB : ∀ j, iV B m j = iV M m j := fun j => by rw [uB.i (us m (by omega)), mA]
  have s29 : ∀ j, j ≠ 7 → iV B (29 + 6 * k) j = iV M (29 + 6 * k) j := fun j hj => by rw [sB2 j hj, sA j hj]
  have svB : SV B k := by
    obtain ⟨q0, q1, q2, q3, q4, q5, -, -, -⟩ := sv
    unfold SV
    rw [s29 0 (by decide), s29 1 (by decide), s29 2 (by decide), s29 3 (by decide), s29 4 (by decide), s29 5 (by decide), sB7]
    exact ⟨q0, q1, q2, q3, q4, q5, ⟨by omega, by omega⟩, fun i hi => by omega, fun i j hij hj => by omega⟩
  have erB : ∀ j, j ≤ 6 → iV B (30 + 6 * k) j = iV B m j := fun j hj => by
    rw [mB]
    have c : j = 0 ∨ j = 1 ∨ j = 2 ∨ j = 3 ∨ j = 4 ∨ j = 5 ∨ j = 6 := by omega
    rcases c with rfl | rfl | rfl | rfl | rfl | rfl | rfl
    · rw [b4 0 (by omega), ao 0 (by omega), e0]
    · rw [b4 1 (by omega), a1]
    · rw [b4 2 (by omega), a2]
    · rw [b4 3 (by omega), a3]
    · rw [b4 4 (by omega), a4]
    · exact b5
    · exact b6
  have cB : B.1 = M.1 := by rw [uB.1.1, uA.1.1]
  have dB : B.2.1 = M.2.1 := by rw [uB.1.2.1, uA.1.2.1]
  obtain ⟨N, eN, n1, n2⟩ := ad_tail (O := O) (f := f) hO hd hkk hk0 bB dtB svB sB7 rvB soB erB nm (by omega) hf
  refine ⟨N, ?_, by omega, by omega⟩
  unfold f_Law_areDays_164
  rw [lr.gJ (j := 1) (by decide), lr.gJ (j := 2) (by decide), lr.gJ (j := 3) (by decide), lr.gJ (j := 4) (by decide), a_Cal_is w, eA, xcl_e, lrA.gJ (j := 5) (by decide), lrA.gJ (j := 6) (by decide), mA, mA, a_Cal_is bA.1, eB, xcl_e]
  exact eN
/-- the rule is told by its text -/
theorem ad_read (hO : STo O) (hd : DGo O) (hkk : kk = (k : Int)) (hk0 : k = 0) (bo : Bs M) (dt : DT n m k M) (sv : SV M k) (e0 : iV M (30 + 6 * k) 0 = iV M m 0) (p4 : -1 ≤ iV M m 4) (nm : n + 5 ≤ m) (hM : M.1 ≤ 90000) (hf : 10000 ≤ f) : ∃ N, ((isO O M m 16).bind fun _ => xcl (f_LRule_text O f m M) fun x8 M7 => xcl (f_Law_type O f 1 x8 M7) fun _ M8 => (isO O M8 1 12).bind fun _ => xcl (f_Calendarhall_errorPlace O f 1 M8) fun x10 M9 => if yw x10 = yw (-1) then ((isO O M9 1 12).bind fun _ => xcl (f_Calendarhall_readRule O f 1 kk M9) fun x11 M10 => (gJ O M10 m 16 1).bind fun x12 => if yw x11 = yw x12 then f_Law_areDays_202 O f 1 0 n m kk M10 else some (0, M10)) else some (0, M9)) = some (1, N) ∧ N.1 ≤ M.1 + 567 ∧ N.2.1 ≤ M.2.1 + 122800 := by
  have hk : k < 12 := by omega
  have dt' := dt
  obtain ⟨-, ld, lr, lv, -, -⟩ := dt'
  have n0 : 1044 ≤ n := ld.1.1
  have w := bo.1
  have M4 := w.1
  have mM := lr.1.2
  obtain ⟨u, A, eA, sA, u1, xA, A1, A2⟩ := ltext_ok (O := O) (f := f) hO hd lr lv (by omega) hf
  have wA := xA.wd w (by omega)
  have bA := bo.ex xA (by omega)
  have dtA := dt.ex xA w (by omega)
  have svA : SV A k := sv.of (fun a j a0 a1 => xA.i (by omega))
  obtain ⟨r, hr⟩ : ∃ r, r = iV M m := ⟨_, rfl⟩
  have mA : iV A m = r := by rw [hr]; exact lr.iv xA
  rw [← hr] at sA lv p4
  obtain ⟨B, eB, rB, uB⟩ := ltype_ok (O := O) (f := f) (txR_good lv) (txR_len lv) wA sA (by omega)
  have wB := uB.wd wA
  obtain ⟨C, eC, rC, wC, uC⟩ := errorPlace_ok (O := O) (f := f) hO wB rB lv p4 (by omega)
  have uBC : Un (fun a => a ≠ 134 ∧ a ≠ 135 ∧ a ≠ 136) A C := (uB.le (fun a q => ⟨q.1, q.2.2⟩)).tr (uC.le (fun a q => ⟨q.1, q.2.1⟩))
  have bC : Bs C := bA.iv wC (fun a j h0 h1 => uBC.i ⟨by omega, by omega, by omega⟩)
  have dtC := dtA.un uBC hk (by omega) (fun a ha => ⟨by omega, by omega, by omega⟩)
  have svC : SV C k := svA.of (fun a j a0 a1 => uBC.i ⟨by omega, by omega, by omega⟩)
  have f0 : iV C (30 + 6 * k) 0 = r 0 := by rw [uBC.i ⟨by omega, by omega, by omega⟩, xA.i (by omega), e0, hr]
  have mC : iV C m = r := funext (fun j => by rw [uBC.i ⟨by omega, by omega, by omega⟩, mA])
  obtain ⟨D, eD, bD, uD, sD, sD7, er, rvD, soD⟩ := readRule_ok (O := O) (f := f) hO bC hkk hk svC.1 f0 rC lv p4 hf
  have dtD := dtC.un uD hk (by omega) (fun a ha => ⟨by omega, by omega, by unfold Us; omega⟩)
  have mD : iV D m = r := funext (fun j => by rw [uD.i ⟨by omega, by omega, by unfold Us; omega⟩, mC])
  have svD : SV D k := by
    obtain ⟨q0, q1, q2, q3, q4, q5, -, -, -⟩ := svC
    unfold SV
    rw [sD 0 (by decide), sD 1 (by decide), sD 2 (by decide), sD 3 (by decide), sD 4 (by decide), sD 5 (by decide), sD7]
    exact ⟨q0, q1, q2, q3, q4, q5, ⟨by omega, by omega⟩, fun i hi => by omega, fun i j hij hj => by omega⟩
  have cD : D.1 = A.1 := by rw [uD.1.1, uBC.1.1]
  have dD : D.2.1 = A.2.1 := by rw [uD.1.2.1, uBC.1.2.1]
  obtain ⟨N, eN, n1, n2⟩ := ad_tail (O := O) (f := f) hO hd hkk hk0 bD dtD svD sD7 rvD soD (fun j hj => by rw [mD]; exact er j hj) nm (by omega) hf
  refine ⟨N, ?_, by omega, by omega⟩
  rw [lr.is, eA, xcl_e, eB, xcl_e, a_Cal_is wB, eC, xcl_e, eq_T rfl, a_Cal_is wC, eD, xcl_e, dtD.2.2.1.gJ (j := 1) (by decide), mD, eq_T rfl]
  exact eN
end ADW
end
