/-! draft 503.frame -/
section
/-! ===== what stays ===== -/
/-- the same cells, shapes and references -/
def Sm (M N : xM) : Prop := N.1 = M.1 ∧ N.2.1 = M.2.1 ∧ mS N = mS M ∧ mR N = mR M
/-- the same cells, and some of them unchanged -/
def Un (P : Nat → Prop) (M N : xM) : Prop := Sm M N ∧ ∀ a, P a → mI N a = mI M a ∧ mL N a = mL M a
section FRA
variable {M N L : xM} {P Q : Nat → Prop} {a j : Nat} {x : Int}
theorem Sm.rf : Sm M M := ⟨rfl, rfl, rfl, rfl⟩
theorem Sm.tr (h : Sm M N) (g : Sm N L) : Sm M L := ⟨g.1.trans h.1, g.2.1.trans h.2.1, g.2.2.1.trans h.2.2.1, g.2.2.2.trans h.2.2.2⟩
theorem Sm.wd (h : Sm M N) (w : Wd M) : Wd N := by
  obtain ⟨h1, h2, h3, h4⟩ := h
  obtain ⟨w1, w2, w3, w4⟩ := w
  exact ⟨by omega, by omega, fun k hk => by rw [h3]; exact w3 k hk, fun k j r hk hr => by rw [h4]; exact w4 k j r hk hr⟩
theorem Sm.inM (h : Sm M N) {k : Nat} (w : inM M k) : inM N k := ⟨w.1, by rw [h.1]; exact w.2⟩
theorem Sm.s (h : Sm M N) (k : Nat) : mS N k = mS M k := by rw [h.2.2.1]
theorem Sm.r (h : Sm M N) (k : Nat) : mR N k = mR M k := by rw [h.2.2.2]
theorem Sm.iS (h : Sm M N) : Sm M (iS N a j x) := h
theorem Sm.lS (h : Sm M N) : Sm M (lS N a j x) := h
theorem Sm.cS {a0 sp a1 dp n : Nat} (h : Sm M N) : Sm M (cS N a0 sp a1 dp n) := h
theorem Sm.cL {a0 sp a1 dp n : Nat} (h : Sm M N) : Sm M (cL N a0 sp a1 dp n) := h
theorem Un.rf : Un P M M := ⟨Sm.rf, fun _ _ => ⟨rfl, rfl⟩⟩
theorem Un.tr (h : Un P M N) (g : Un P N L) : Un P M L := ⟨h.1.tr g.1, fun a p => ⟨(g.2 a p).1.trans (h.2 a p).1, (g.2 a p).2.trans (h.2 a p).2⟩⟩
theorem Un.le (h : Un P M N) (g : ∀ a, Q a → P a) : Un Q M N := ⟨h.1, fun a q => h.2 a (g a q)⟩
theorem Un.wd (h : Un P M N) (w : Wd M) : Wd N := h.1.wd w
theorem Un.i (h : Un P M N) (p : P a) : iV N a j = iV M a j := by
  unfold iV
  rw [(h.2 a p).1]
theorem Un.l (h : Un P M N) (p : P a) : lV N a j = lV M a j := by
  unfold lV
  rw [(h.2 a p).2]
theorem Un.iS (h : Un P M N) (p : ¬ P a) : Un P M (iS N a j x) := by
  refine ⟨h.1, fun b q => ⟨?_, (h.2 b q).2⟩⟩
  rw [← (h.2 b q).1]
  exact if_neg (fun (e : b = a) => p (e ▸ q))
theorem Un.lS (h : Un P M N) (p : ¬ P a) : Un P M (lS N a j x) := by
  refine ⟨h.1, fun b q => ⟨(h.2 b q).1, ?_⟩⟩
  rw [← (h.2 b q).2]
  exact if_neg (fun (e : b = a) => p (e ▸ q))
theorem Un.cS {a0 sp dp n : Nat} (h : Un P M N) (p : ¬ P a) : Un P M (cS N a0 sp a dp n) := by
  refine ⟨h.1, fun b q => ⟨?_, (h.2 b q).2⟩⟩
  rw [← (h.2 b q).1]
  exact if_neg (fun (e : b = a) => p (e ▸ q))
theorem Un.cL {a0 sp dp n : Nat} (h : Un P M N) (p : ¬ P a) : Un P M (cL N a0 sp a dp n) := by
  refine ⟨h.1, fun b q => ⟨(h.2 b q).1, ?_⟩⟩
  rw [← (h.2 b q).2]
  exact if_neg (fun (e : b = a) => p (e ▸ q))
end FRA
/-! ===== numbers drawn ===== -/
theorem kushr33 (x : Int) : 0 ≤ kushr x (ki2l 33) ∧ kushr x (ki2l 33) < 2147483648 := by
  unfold kushr
  have hs : ((yl (ki2l 33)).toUInt64 &&& Int64.toUInt64 (yl 63)) = 33 := by decide
  rw [hs]
  generalize Int64.toUInt64 (yl x) = u
  have h1 : (u >>> 33).toNat = u.toNat / 8589934592 := by
    rw [UInt64.toNat_shiftRight]
    show u.toNat >>> (33 % 64) = _
    rw [Nat.shiftRight_eq_div_pow]
  have h2 : u.toNat < 18446744073709551616 := UInt64.toNat_lt _
  have h3 : (u >>> 33).toInt64.toInt = ((u >>> 33).toNat : Int) := by
    show ((u >>> 33).toBitVec).toInt = _
    rw [BitVec.toInt_eq_toNat_of_lt]
    · rfl
    · show 2 * (u >>> 33).toNat < 2 ^ 64
      rw [h1]
      omega
  rw [h3, h1]
  omega
theorem kdiv_e {a b : Int} (h0 : 0 ≤ a) (h1 : 0 < b) (ha : a ≤ 9223372036854775807) (hb : b ≤ 9223372036854775807) : kdiv a b = a / b := by
  have h6 : 0 ≤ a / b := Int.ediv_nonneg h0 (by omega)
  have h7 : a / b ≤ a := Int.ediv_le_self _ h0
  unfold kdiv
  rw [yl_div ⟨by omega, ha⟩ ⟨by omega, hb⟩ (by rw [Int.tdiv_eq_ediv_of_nonneg h0]; exact ⟨by omega, by omega⟩), Int.tdiv_eq_ediv_of_nonneg h0, yl_to ⟨by omega, by omega⟩]
/-- the seed's next -/
def dM (M : xM) : xM := lS M 0 0 (lV M 0 0 * 6364136223846793005 + 1442695040888963407)
/-- the number that it tells -/
def dV (M : xM) (m : Int) : Int := kushr (lV (dM M) 0 0) (ki2l 33) % m
section DRW
variable {O : Nat → Option va_E} {f : Nat} {M : xM} {m : Int}
theorem dV_r (h : 0 < m) : 0 ≤ dV M m ∧ dV M m < m := ⟨Int.emod_nonneg _ (by omega), Int.emod_lt_of_pos _ h⟩
theorem dM_un : Un (fun a => a ≠ 0) M (dM M) := Un.rf.lS (fun q => q rfl)
theorem wd_dM : Wd (dM M) = Wd M := rfl
theorem dM_i {a j : Nat} : iV (dM M) a j = iV M a j := rfl
theorem e_n (h : Wd M) (h0 : 0 < m) (h1 : m ≤ 2147483647) : f_LDraw_n O f 0 m M = some (dV M m, dM M) := by
  unfold f_LDraw_n
  rw [h.gK (by decide) (by decide) (by decide) (by decide), h.pK (by decide) (by decide) (by decide) (by decide)]
  have h' : Wd (dM M) := h
  show (gK O (dM M) 0 15 0).bind _ = _
  rw [h'.gK (by decide) (by decide) (by decide) (by decide), ki2l_e (a := m) (by omega) h1, eqL_F (by omega) (by omega) (by omega) (by omega) (by omega), xlet_e]
  have hr := kushr33 (lV (dM M) 0 0)
  have e : kushr (lV (dM M) 0 0) (ki2l 33) - kdiv (kushr (lV (dM M) 0 0) (ki2l 33)) m * m = dV M m := by
    rw [kdiv_e hr.1 h0 (by omega) (by omega), Int.mul_comm, ← Int.emod_def]
    rfl
  rw [e]
  rfl
theorem c_n (h : Wd M) (h0 : 0 < m) (h1 : m ≤ 2147483647) {δ : Type} {A : _ → xM → Option δ} : xcl (f_LDraw_n O f 0 m M) A = A (dV M m) (dM M) := xc_of (e_n h h0 h1) A
theorem e_is (h : Wd M) (h0 : 0 < m) (h1 : m ≤ 2147483647) : f_LDraw_is O f 0 m M = some ((if dV M m = 0 then 1 else 0), dM M) := by
  have hr := dV_r (M := M) h0
  unfold f_LDraw_is
  rw [h.is (by decide) (by decide), e_n h h0 h1]
  show (if yw (dV M m) = yw 0 then _ else _) = _
  by_cases e : dV M m = 0
  · rw [eq_T e, if_pos e]
  · rw [eq_F e (by omega) (by omega) (by omega) (by omega), if_neg e]
theorem c_is (h : Wd M) (h0 : 0 < m) (h1 : m ≤ 2147483647) {δ : Type} {A : _ → xM → Option δ} : xcl (f_LDraw_is O f 0 m M) A = A ((if dV M m = 0 then 1 else 0)) (dM M) := xc_of (e_is h h0 h1) A
end DRW
/-- a number is drawn (to be used so: the seed's reckoning stays shut) -/
theorem dn_ok {O : Nat → Option va_E} {f : Nat} {M : xM} {m : Int} (h : Wd M) (h0 : 0 < m) (h1 : m ≤ 2147483647) : ∃ r M', f_LDraw_n O f 0 m M = some (r, M') ∧ 0 ≤ r ∧ r < m ∧ Wd M' ∧ Un (fun a => a ≠ 0) M M' ∧ (∀ a j, iV M' a j = iV M a j) := ⟨_, _, e_n h h0 h1, (dV_r h0).1, (dV_r h0).2, h, dM_un, fun _ _ => rfl⟩
theorem di_ok {O : Nat → Option va_E} {f : Nat} {M : xM} {m : Int} (h : Wd M) (h0 : 0 < m) (h1 : m ≤ 2147483647) : ∃ r M', f_LDraw_is O f 0 m M = some (r, M') ∧ (r = 0 ∨ r = 1) ∧ Wd M' ∧ Un (fun a => a ≠ 0) M M' ∧ (∀ a j, iV M' a j = iV M a j) := ⟨_, _, e_is h h0 h1, by split <;> omega, h, dM_un, fun _ _ => rfl⟩
end
/-! draft 505.copy -/
section
/-! ===== halls are copied ===== -/
/-- where a hall lies: the hall, or a saved one -/
def Hb (b : Nat) : Prop := b = 2 ∨ ∃ t, t < 8 ∧ b = 140 + 113 * t
section HBL
variable {O : Nat → Option va_E} {f : Nat} {M : xM} {b c i j k z y : Nat} {γ : Type}
theorem Hb.le (hb : Hb b) : b + 113 ≤ 1044 := by
  rcases hb with rfl | ⟨t, ht, rfl⟩ <;> omega
theorem Hb.sep (hb : Hb b) (hc : Hb c) (hn : b ≠ c) : b + 113 ≤ c ∨ c + 113 ≤ b := by
  rcases hb with rfl | ⟨t, ht, rfl⟩ <;> rcases hc with rfl | ⟨u, hu, rfl⟩ <;> omega
theorem Hb.s (hb : Hb b) (hi : i < 113) : shp (b + i) = hbS.getD i (.inl 99) := by
  rcases hb with rfl | ⟨t, ht, rfl⟩
  · unfold shp
    rw [if_neg (by omega), if_neg (by omega), if_pos (by omega), Nat.add_sub_cancel_left]
  · unfold shp
    rw [if_neg (by omega), if_neg (by omega), if_neg (by omega), if_neg (by omega), show (140 + 113 * t + i - 140) % 113 = i by omega]
theorem Hb.ref (hb : Hb b) (hi : i < 113) : rfs (b + i) j = ((hbR.getD i []).getD j none).map (fun r => b + r) := by
  rcases hb with rfl | ⟨t, ht, rfl⟩
  · unfold rfs
    rw [if_neg (by omega), if_neg (by omega), if_pos (by omega), Nat.add_sub_cancel_left]
  · unfold rfs
    rw [if_neg (by omega), if_neg (by omega), if_neg (by omega), if_neg (by omega), if_neg (by omega), show (140 + 113 * t + i - 140) % 113 = i by omega, show 140 + 113 * t + i - i = 140 + 113 * t by omega]
theorem Hb.s' {s : Nat ⊕ Nat × Nat} (hb : Hb b) (hi : i < 113) (e : hbS.getD i (.inl 99) = s) : shp (b + i) = s := (hb.s hi).trans e
theorem Hb.ref' {r : Nat} (hb : Hb b) (hi : i < 113) (e : (hbR.getD i []).getD j none = some r) : rfs (b + i) j = some (b + r) := by rw [hb.ref hi, e]; rfl
theorem q_gJ {ci j : Nat} (hk : k < 1044) (hs : shp k = .inl ci) (hj : j < xNf ci) (ht : xkI (xTy ci j) = true) (M : xM) (h : Wd M) {A : Int → Option γ} : (gJ O M k ci j).bind A = A (iV M k j) := h.gJ hk hs hj ht
theorem q_gR {ci j r : Nat} (hk : k < 1044) (hs : shp k = .inl ci) (hj : j < xNf ci) (ht : xkR (xTy ci j) = true) (hr : rfs k j = some r) (M : xM) (h : Wd M) {A : Nat → Option γ} : (gR O M k ci j).bind A = A r := h.gR hk hs hj ht hr
theorem q_is {ci : Nat} (hk : k < 1044) (hs : shp k = .inl ci) (M : xM) (h : Wd M) {A : Unit → Option γ} : (isO O M k ci).bind A = A () := h.is hk hs
theorem q_pJ {ci j : Nat} (hk : k < 1044) (hs : shp k = .inl ci) (hj : j < xNf ci) (ht : xkI (xTy ci j) = true) (hf : ∀ x : Int, xfit (xTy ci j) (.int (yw x)) = true) (M : xM) (h : Wd M) (x : Int) {A : xM → Option γ} : (pJ M k ci j x).bind A = A (iS M k j x) := h.pJ hk hs hj ht (hf x)
theorem q_aN {t n : Nat} {c : Int} (hk : k < 1044) (hs : shp k = .inr (t, n)) (ht : t < 12) (hn : n ≤ 2147483647) (hc : (n : Int) = c) (M : xM) (h : Wd M) {A : Int → Option γ} : (aJN O M k).bind A = A c := hc ▸ h.aN hk hs ht hn
theorem q_cS {a0 a1 n : Nat} {c : Int} (h0 : a0 < 1044) (h1 : a1 < 1044) (s0 : shp a0 = .inr (0, n)) (s1 : shp a1 = .inr (0, n)) (hn : n ≤ 2147483647) (hc : (n : Int) = c) (M : xM) (h : Wd M) {A : xM → Option γ} : (cpJ O M a0 0 a1 0 c).bind A = A (cS M a0 0 a1 0 n) := hc ▸ z_cS (h.b h0) (h.b h1) ((h.s h0).trans s0) ((h.s h1).trans s1) (by omega) (by omega) (by omega) (by omega) (by omega) hn hn
theorem q_cL {a0 a1 n : Nat} {c : Int} (h0 : a0 < 1044) (h1 : a1 < 1044) (s0 : shp a0 = .inr (1, n)) (s1 : shp a1 = .inr (1, n)) (hn : n ≤ 2147483647) (hc : (n : Int) = c) (M : xM) (h : Wd M) {A : xM → Option γ} : (cpJ O M a0 0 a1 0 c).bind A = A (cL M a0 0 a1 0 n) := hc ▸ z_cL (h.b h0) (h.b h1) ((h.s h0).trans s0) ((h.s h1).trans s1) (by omega) (by omega) (by omega) (by omega) (by omega) hn hn
theorem iV_sv {a b i j : Nat} {N : xM} : iV (iS M a j (iV N b i)) a j = iV N b i := iV_s (iV_r _ _ _).1 (iV_r _ _ _).2

def zoB (z : Nat) : Prop := z + 3 ≤ 1044 ∧ shp z = .inl 11 ∧ shp (z + 1) = .inr (0, 4) ∧ rfs z 2 = some (z + 1) ∧ shp (z + 2) = .inr (0, 4) ∧ rfs z 3 = some (z + 2)
/-- the numbers that are copied -/
def zoF (i j : Nat) : Prop := (i = 0 ∧ (j = 0 ∨ j = 1)) ∨ (i = 1 ∧ j < 4) ∨ (i = 2 ∧ j < 4)
theorem e_zocopy (h : Wd M) (bz : zoB z) (by' : zoB y) (hd : z + 3 ≤ y ∨ y + 3 ≤ z) : ∃ M', f_Zone_copyFrom O f z y M = some ((), M') ∧ Un (fun a => a < z ∨ z + 3 ≤ a) M M' ∧ ∀ i j, zoF i j → iV M' (z + i) j = iV M (y + i) j := by
  obtain ⟨hz, sz, s2, r2, s3, r3⟩ := bz
  obtain ⟨hy, sy, u2, v2, u3, v3⟩ := by'
  unfold f_Zone_copyFrom
  simp (disch := first | assumption | omega | (simp only [wd_iS, wd_lS, wd_cS, wd_cL]; assumption)) only [↓xcl_e, ↓bind_e, ↓q_pJ (k := z) (ci := 11) (j := 0) (by omega) sz (by decide) (by decide) (fun _ => rfl), ↓q_pJ (k := z) (ci := 11) (j := 1) (by omega) sz (by decide) (by decide) (fun _ => rfl), ↓q_gR (k := z) (ci := 11) (j := 2) (by omega) sz (by decide) (by decide) r2, ↓q_aN (k := z + 1) (by omega) s2 (by decide) (by decide) (c := 4) rfl, ↓q_gR (k := z) (ci := 11) (j := 3) (by omega) sz (by decide) (by decide) r3, ↓q_aN (k := z + 2) (by omega) s3 (by decide) (by decide) (c := 4) rfl, ↓q_gJ (k := y) (ci := 11) (j := 0) (by omega) sy (by decide) (by decide), ↓q_gJ (k := y) (ci := 11) (j := 1) (by omega) sy (by decide) (by decide), ↓q_gR (k := y) (ci := 11) (j := 2) (by omega) sy (by decide) (by decide) v2, ↓q_aN (k := y + 1) (by omega) u2 (by decide) (by decide) (c := 4) rfl, ↓q_gR (k := y) (ci := 11) (j := 3) (by omega) sy (by decide) (by decide) v3, ↓q_aN (k := y + 2) (by omega) u3 (by decide) (by decide) (c := 4) rfl, ↓q_cS (a0 := y + 1) (a1 := z + 1) (n := 4) (by omega) (by omega) u2 s2 (by decide) (c := 4) rfl, ↓q_cS (a0 := y + 2) (a1 := z + 2) (n := 4) (by omega) (by omega) u3 s3 (by decide) (c := 4) rfl]
  refine ⟨_, rfl, ?_, ?_⟩
  · (repeat first | exact Un.rf | refine Un.iS ?_ (fun q => by (try dsimp only at q); omega) | refine Un.cS ?_ (fun q => by (try dsimp only at q); omega) | refine Un.cL ?_ (fun q => by (try dsimp only at q); omega))
  · intro i j hF
    rcases hF with ⟨rfl, rfl | rfl⟩ | ⟨rfl, hj⟩ | ⟨rfl, hj⟩ <;> simp (disch := omega) only [iV_sv, iV_s, iV_o, iV_cs, iV_co, iV_cL, Nat.zero_add, Nat.sub_zero, Nat.add_zero]
def peB (z : Nat) : Prop := z + 1 ≤ 1044 ∧ shp z = .inl 6
def peF (i j : Nat) : Prop := i = 0 ∧ (j = 0 ∨ j = 1 ∨ j = 2 ∨ j = 3)
theorem e_pecopy (h : Wd M) (bz : peB z) (by' : peB y) (hd : z + 1 ≤ y ∨ y + 1 ≤ z) : ∃ M', f_Person_copyFrom O f z y M = some ((), M') ∧ Un (fun a => a < z ∨ z + 1 ≤ a) M M' ∧ ∀ i j, peF i j → iV M' (z + i) j = iV M (y + i) j := by
  obtain ⟨hz, sz⟩ := bz
  obtain ⟨hy, sy⟩ := by'
  unfold f_Person_copyFrom f_Person_put
  simp (disch := first | assumption | omega | (simp only [wd_iS, wd_lS, wd_cS, wd_cL]; assumption)) only [↓xcl_e, ↓bind_e, ↓q_is (k := z) (by omega) sz, ↓q_gJ (k := y) (ci := 6) (j := 0) (by omega) sy (by decide) (by decide), ↓q_gJ (k := y) (ci := 6) (j := 1) (by omega) sy (by decide) (by decide), ↓q_gJ (k := y) (ci := 6) (j := 2) (by omega) sy (by decide) (by decide), ↓q_gJ (k := y) (ci := 6) (j := 3) (by omega) sy (by decide) (by decide), ↓q_pJ (k := z) (ci := 6) (j := 0) (by omega) sz (by decide) (by decide) (fun _ => rfl), ↓q_pJ (k := z) (ci := 6) (j := 1) (by omega) sz (by decide) (by decide) (fun _ => rfl), ↓q_pJ (k := z) (ci := 6) (j := 2) (by omega) sz (by decide) (by decide) (fun _ => rfl), ↓q_pJ (k := z) (ci := 6) (j := 3) (by omega) sz (by decide) (by decide) (fun _ => rfl)]
  refine ⟨_, rfl, ?_, ?_⟩
  · (repeat first | exact Un.rf | refine Un.iS ?_ (fun q => by (try dsimp only at q); omega) | refine Un.cS ?_ (fun q => by (try dsimp only at q); omega) | refine Un.cL ?_ (fun q => by (try dsimp only at q); omega))
  · intro i j hF
    obtain ⟨rfl, rfl | rfl | rfl | rfl⟩ := hF <;> simp (disch := omega) only [iV_sv, iV_s, iV_o, iV_cs, iV_co, iV_cL, Nat.zero_add, Nat.sub_zero, Nat.add_zero]
def ruB (z : Nat) : Prop := z + 1 ≤ 1044 ∧ shp z = .inl 9
def ruF (i j : Nat) : Prop := i = 0 ∧ j < 8
theorem e_rucopy (h : Wd M) (bz : ruB z) (by' : ruB y) (hd : z + 1 ≤ y ∨ y + 1 ≤ z) : ∃ M', f_Rule_copyFrom O f z y M = some ((), M') ∧ Un (fun a => a < z ∨ z + 1 ≤ a) M M' ∧ ∀ i j, ruF i j → iV M' (z + i) j = iV M (y + i) j := by
  obtain ⟨hz, sz⟩ := bz
  obtain ⟨hy, sy⟩ := by'
  unfold f_Rule_copyFrom f_Rule_put f_Rule_putEnd
  simp (disch := first | assumption | omega | (simp only [wd_iS, wd_lS, wd_cS, wd_cL]; assumption)) only [↓xcl_e, ↓bind_e, ↓q_is (k := z) (by omega) sz, ↓q_gJ (k := y) (ci := 9) (j := 0) (by omega) sy (by decide) (by decide), ↓q_gJ (k := y) (ci := 9) (j := 1) (by omega) sy (by decide) (by decide), ↓q_gJ (k := y) (ci := 9) (j := 2) (by omega) sy (by decide) (by decide), ↓q_gJ (k := y) (ci := 9) (j := 3) (by omega) sy (by decide) (by decide), ↓q_gJ (k := y) (ci := 9) (j := 4) (by omega) sy (by decide) (by decide), ↓q_gJ (k := y) (ci := 9) (j := 5) (by omega) sy (by decide) (by decide), ↓q_gJ (k := y) (ci := 9) (j := 6) (by omega) sy (by decide) (by decide), ↓q_gJ (k := y) (ci := 9) (j := 7) (by omega) sy (by decide) (by decide), ↓q_pJ (k := z) (ci := 9) (j := 0) (by omega) sz (by decide) (by decide) (fun _ => rfl), ↓q_pJ (k := z) (ci := 9) (j := 1) (by omega) sz (by decide) (by decide) (fun _ => rfl), ↓q_pJ (k := z) (ci := 9) (j := 2) (by omega) sz (by decide) (by decide) (fun _ => rfl), ↓q_pJ (k := z) (ci := 9) (j := 3) (by omega) sz (by decide) (by decide) (fun _ => rfl), ↓q_pJ (k := z) (ci := 9) (j := 4) (by omega) sz (by decide) (by decide) (fun _ => rfl), ↓q_pJ (k := z) (ci := 9) (j := 5) (by omega) sz (by decide) (by decide) (fun _ => rfl), ↓q_pJ (k := z) (ci := 9) (j := 6) (by omega) sz (by decide) (by decide) (fun _ => rfl), ↓q_pJ (k := z) (ci := 9) (j := 7) (by omega) sz (by decide) (by decide) (fun _ => rfl)]
  refine ⟨_, rfl, ?_, ?_⟩
  · (repeat first | exact Un.rf | refine Un.iS ?_ (fun q => by (try dsimp only at q); omega) | refine Un.cS ?_ (fun q => by (try dsimp only at q); omega) | refine Un.cL ?_ (fun q => by (try dsimp only at q); omega))
  · intro i j hF
    obtain ⟨rfl, hj⟩ := hF
    have hc : j = 0 ∨ j = 1 ∨ j = 2 ∨ j = 3 ∨ j = 4 ∨ j = 5 ∨ j = 6 ∨ j = 7 := by omega
    rcases hc with rfl | rfl | rfl | rfl | rfl | rfl | rfl | rfl <;> simp (disch := omega) only [iV_sv, iV_s, iV_o, iV_cs, iV_co, iV_cL, Nat.zero_add, Nat.sub_zero, Nat.add_zero]
def seB (z : Nat) : Prop := z + 6 ≤ 1044 ∧ shp z = .inl 10 ∧ shp (z + 1) = .inl 9 ∧ rfs z 6 = some (z + 1) ∧ shp (z + 2) = .inr (0, 10) ∧ rfs z 8 = some (z + 2) ∧ shp (z + 3) = .inr (0, 10) ∧ rfs z 9 = some (z + 3) ∧ shp (z + 4) = .inr (0, 8) ∧ rfs z 10 = some (z + 4) ∧ shp (z + 5) = .inr (0, 8) ∧ rfs z 11 = some (z + 5)
def seF (i j : Nat) : Prop := (i = 0 ∧ j < 8 ∧ j ≠ 6) ∨ (i = 1 ∧ j < 8) ∨ (i = 2 ∧ j < 10) ∨ (i = 3 ∧ j < 10) ∨ (i = 4 ∧ j < 8) ∨ (i = 5 ∧ j < 8)
theorem q_pJb {ci j : Nat} {x : Int} (hk : k < 1044) (hs : shp k = .inl ci) (hj : j < xNf ci) (ht : xkI (xTy ci j) = true) (hb : xTy ci j = .boolean) (hx : x = 0 ∨ x = 1) (M : xM) (h : Wd M) {A : xM → Option γ} : (pJ M k ci j x).bind A = A (iS M k j x) := h.pJ hk hs hj ht (by rw [hb]; rcases hx with e | e <;> subst e <;> rfl)
theorem e_secopy (h : Wd M) (bz : seB z) (by' : seB y) (hd : z + 6 ≤ y ∨ y + 6 ≤ z) (t0 : iV M y 0 = 0 ∨ iV M y 0 = 1) (t5 : iV M y 5 = 0 ∨ iV M y 5 = 1) : ∃ M', f_Series_copyFrom O f z y M = some ((), M') ∧ Un (fun a => a < z ∨ z + 6 ≤ a) M M' ∧ ∀ i j, seF i j → iV M' (z + i) j = iV M (y + i) j := by
  obtain ⟨hz, sz, sr, rr, s8, r8, s9, r9, s10, r10, s11, r11⟩ := bz
  obtain ⟨hy, sy, ur, vr, u8, v8, u9, v9, u10, v10, u11, v11⟩ := by'
  unfold f_Series_copyFrom
  simp (disch := first | assumption | omega | (simp only [wd_iS, wd_lS, wd_cS, wd_cL]; assumption)) only [↓bind_e, iV_o, ↓q_is (k := z + 1) (by omega) sr, ↓q_gR (k := z) (ci := 10) (j := 6) (by omega) sz (by decide) (by decide) rr, ↓q_gR (k := z) (ci := 10) (j := 8) (by omega) sz (by decide) (by decide) r8, ↓q_gR (k := z) (ci := 10) (j := 9) (by omega) sz (by decide) (by decide) r9, ↓q_gR (k := z) (ci := 10) (j := 10) (by omega) sz (by decide) (by decide) r10, ↓q_gR (k := z) (ci := 10) (j := 11) (by omega) sz (by decide) (by decide) r11, ↓q_is (k := y + 1) (by omega) ur, ↓q_gR (k := y) (ci := 10) (j := 6) (by omega) sy (by decide) (by decide) vr, ↓q_gR (k := y) (ci := 10) (j := 8) (by omega) sy (by decide) (by decide) v8, ↓q_gR (k := y) (ci := 10) (j := 9) (by omega) sy (by decide) (by decide) v9, ↓q_gR (k := y) (ci := 10) (j := 10) (by omega) sy (by decide) (by decide) v10, ↓q_gR (k := y) (ci := 10) (j := 11) (by omega) sy (by decide) (by decide) v11, ↓q_gJ (k := y) (ci := 10) (j := 0) (by omega) sy (by decide) (by decide), ↓q_pJb (k := z) (ci := 10) (j := 0) (by omega) sz (by decide) (by decide) rfl (x := iV M y 0) t0, ↓q_gJ (k := y) (ci := 10) (j := 1) (by omega) sy (by decide) (by decide), ↓q_pJ (k := z) (ci := 10) (j := 1) (by omega) sz (by decide) (by decide) (fun _ => rfl), ↓q_gJ (k := y) (ci := 10) (j := 2) (by omega) sy (by decide) (by decide), ↓q_pJ (k := z) (ci := 10) (j := 2) (by omega) sz (by decide) (by decide) (fun _ => rfl), ↓q_gJ (k := y) (ci := 10) (j := 3) (by omega) sy (by decide) (by decide), ↓q_pJ (k := z) (ci := 10) (j := 3) (by omega) sz (by decide) (by decide) (fun _ => rfl), ↓q_gJ (k := y) (ci := 10) (j := 4) (by omega) sy (by decide) (by decide), ↓q_pJ (k := z) (ci := 10) (j := 4) (by omega) sz (by decide) (by decide) (fun _ => rfl), ↓q_gJ (k := y) (ci := 10) (j := 5) (by omega) sy (by decide) (by decide), ↓q_pJb (k := z) (ci := 10) (j := 5) (by omega) sz (by decide) (by decide) rfl (x := iV M y 5) t5, ↓q_gJ (k := y) (ci := 10) (j := 7) (by omega) sy (by decide) (by decide), ↓q_pJ (k := z) (ci := 10) (j := 7) (by omega) sz (by decide) (by decide) (fun _ => rfl)]
  obtain ⟨M6, q6⟩ : ∃ M6, M6 = iS (iS (iS (iS (iS (iS M z 0 (iV M y 0)) z 1 (iV M y 1)) z 2 (iV M y 2)) z 3 (iV M y 3)) z 4 (iV M y 4)) z 5 (iV M y 5) := ⟨_, rfl⟩
  rw [← q6]
  have w6 : Wd M6 := by rw [q6]; exact h
  have u6 : Un (fun a => a < z ∨ z + 6 ≤ a) M M6 := by
    rw [q6]
    (repeat first | exact Un.rf | refine Un.iS ?_ (fun q => by (try dsimp only at q); omega) | refine Un.cS ?_ (fun q => by (try dsimp only at q); omega) | refine Un.cL ?_ (fun q => by (try dsimp only at q); omega))
  obtain ⟨M7, e7, u7, v7⟩ := e_rucopy (O := O) (f := f) (M := M6) (z := z + 1) (y := y + 1) w6 ⟨by omega, sr⟩ ⟨by omega, ur⟩ (by omega)
  rw [e7, xcl_e]
  have w7 : Wd M7 := u7.wd w6
  simp (disch := first | assumption | omega | (simp only [wd_iS, wd_lS, wd_cS, wd_cL]; assumption)) only [↓bind_e, ↓q_is (k := z + 1) (by omega) sr, ↓q_gR (k := z) (ci := 10) (j := 6) (by omega) sz (by decide) (by decide) rr, ↓q_gR (k := z) (ci := 10) (j := 8) (by omega) sz (by decide) (by decide) r8, ↓q_gR (k := z) (ci := 10) (j := 9) (by omega) sz (by decide) (by decide) r9, ↓q_gR (k := z) (ci := 10) (j := 10) (by omega) sz (by decide) (by decide) r10, ↓q_gR (k := z) (ci := 10) (j := 11) (by omega) sz (by decide) (by decide) r11, ↓q_is (k := y + 1) (by omega) ur, ↓q_gR (k := y) (ci := 10) (j := 6) (by omega) sy (by decide) (by decide) vr, ↓q_gR (k := y) (ci := 10) (j := 8) (by omega) sy (by decide) (by decide) v8, ↓q_gR (k := y) (ci := 10) (j := 9) (by omega) sy (by decide) (by decide) v9, ↓q_gR (k := y) (ci := 10) (j := 10) (by omega) sy (by decide) (by decide) v10, ↓q_gR (k := y) (ci := 10) (j := 11) (by omega) sy (by decide) (by decide) v11, ↓q_gJ (k := y) (ci := 10) (j := 0) (by omega) sy (by decide) (by decide), ↓q_pJb (k := z) (ci := 10) (j := 0) (by omega) sz (by decide) (by decide) rfl (x := iV M y 0) t0, ↓q_gJ (k := y) (ci := 10) (j := 1) (by omega) sy (by decide) (by decide), ↓q_pJ (k := z) (ci := 10) (j := 1) (by omega) sz (by decide) (by decide) (fun _ => rfl), ↓q_gJ (k := y) (ci := 10) (j := 2) (by omega) sy (by decide) (by decide), ↓q_pJ (k := z) (ci := 10) (j := 2) (by omega) sz (by decide) (by decide) (fun _ => rfl), ↓q_gJ (k := y) (ci := 10) (j := 3) (by omega) sy (by decide) (by decide), ↓q_pJ (k := z) (ci := 10) (j := 3) (by omega) sz (by decide) (by decide) (fun _ => rfl), ↓q_gJ (k := y) (ci := 10) (j := 4) (by omega) sy (by decide) (by decide), ↓q_pJ (k := z) (ci := 10) (j := 4) (by omega) sz (by decide) (by decide) (fun _ => rfl), ↓q_gJ (k := y) (ci := 10) (j := 5) (by omega) sy (by decide) (by decide), ↓q_pJb (k := z) (ci := 10) (j := 5) (by omega) sz (by decide) (by decide) rfl (x := iV M y 5) t5, ↓q_gJ (k := y) (ci := 10) (j := 7) (by omega) sy (by decide) (by decide), ↓q_pJ (k := z) (ci := 10) (j := 7) (by omega) sz (by decide) (by decide) (fun _ => rfl), ↓q_cS (a0 := y + 2) (a1 := z + 2) (n := 10) (by omega) (by omega) u8 s8 (by decide) (c := 10) rfl, ↓q_cS (a0 := y + 3) (a1 := z + 3) (n := 10) (by omega) (by omega) u9 s9 (by decide) (c := 10) rfl, ↓q_cS (a0 := y + 4) (a1 := z + 4) (n := 8) (by omega) (by omega) u10 s10 (by decide) (c := 8) rfl, ↓q_cS (a0 := y + 5) (a1 := z + 5) (n := 8) (by omega) (by omega) u11 s11 (by decide) (c := 8) rfl]
  have v6 : ∀ j, j < 6 → iV M6 z j = iV M y j := by
    intro j hj
    rw [q6]
    have hc : j = 0 ∨ j = 1 ∨ j = 2 ∨ j = 3 ∨ j = 4 ∨ j = 5 := by omega
    rcases hc with rfl | rfl | rfl | rfl | rfl | rfl <;> simp (disch := omega) only [iV_sv, iV_s, iV_o, iV_cs, iV_co, iV_cL, Nat.zero_add, Nat.sub_zero, Nat.add_zero]
  have x7 : ∀ b j, b ≠ z + 1 → iV M7 b j = iV M6 b j := fun b j hb => u7.i (show b < z + 1 ∨ z + 1 + 1 ≤ b by omega)
  have y6 : ∀ i j, i < 6 → iV M6 (y + i) j = iV M (y + i) j := fun i j hi => u6.i (show y + i < z ∨ z + 6 ≤ y + i by omega)
  have y7 : ∀ i j, i < 6 → iV M7 (y + i) j = iV M (y + i) j := fun i j hi => (x7 _ _ (by omega)).trans (y6 i j hi)
  refine ⟨_, rfl, ?_, ?_⟩
  · have u7' : Un (fun a => a < z ∨ z + 6 ≤ a) M M7 := u6.tr (u7.le (fun a q => by (try dsimp only at q ⊢); omega))
    (repeat first | exact u7' | refine Un.iS ?_ (fun q => by (try dsimp only at q); omega) | refine Un.cS ?_ (fun q => by (try dsimp only at q); omega) | refine Un.cL ?_ (fun q => by (try dsimp only at q); omega))
  · intro i j hF
    rcases hF with ⟨rfl, hj, hj6⟩ | ⟨rfl, hj⟩ | ⟨rfl, hj⟩ | ⟨rfl, hj⟩ | ⟨rfl, hj⟩ | ⟨rfl, hj⟩
    · by_cases h7 : j = 7
      · subst h7
        simp (disch := omega) only [iV_sv, iV_s, iV_o, iV_cs, iV_co, iV_cL, Nat.zero_add, Nat.sub_zero, Nat.add_zero]
        exact y7 0 7 (by omega)
      · simp (disch := omega) only [iV_co, iV_o, Nat.add_zero]
        rw [x7 _ _ (by omega), v6 _ (by omega)]
    · simp (disch := omega) only [iV_co, iV_o, Nat.add_zero]
      exact (v7 0 j ⟨rfl, hj⟩).trans (y6 1 j (by omega))
    · simp (disch := omega) only [iV_sv, iV_s, iV_o, iV_cs, iV_co, iV_cL, Nat.zero_add, Nat.sub_zero, Nat.add_zero]
      exact y7 2 j (by omega)
    · simp (disch := omega) only [iV_sv, iV_s, iV_o, iV_cs, iV_co, iV_cL, Nat.zero_add, Nat.sub_zero, Nat.add_zero]
      exact y7 3 j (by omega)
    · simp (disch := omega) only [iV_sv, iV_s, iV_o, iV_cs, iV_co, iV_cL, Nat.zero_add, Nat.sub_zero, Nat.add_zero]
      exact y7 4 j (by omega)
    · simp (disch := omega) only [iV_sv, iV_s, iV_o, iV_cs, iV_co, iV_cL, Nat.zero_add, Nat.sub_zero, Nat.add_zero]
      exact y7 5 j (by omega)
def deB (z : Nat) : Prop := z + 7 ≤ 1044 ∧ shp z = .inl 3 ∧ shp (z + 1) = .inr (0, 40) ∧ rfs z 2 = some (z + 1) ∧ shp (z + 2) = .inr (0, 40) ∧ rfs z 3 = some (z + 2) ∧ shp (z + 3) = .inr (0, 40) ∧ rfs z 4 = some (z + 3) ∧ shp (z + 4) = .inr (0, 48) ∧ rfs z 5 = some (z + 4) ∧ shp (z + 5) = .inr (0, 48) ∧ rfs z 6 = some (z + 5) ∧ shp (z + 6) = .inr (0, 48) ∧ rfs z 7 = some (z + 6)
/-- the numbers that are copied -/
def deF (i j : Nat) : Prop := (i = 0 ∧ (j = 0 ∨ j = 1)) ∨ (i = 1 ∧ j < 40) ∨ (i = 2 ∧ j < 40) ∨ (i = 3 ∧ j < 40) ∨ (i = 4 ∧ j < 48) ∨ (i = 5 ∧ j < 48) ∨ (i = 6 ∧ j < 48)
theorem e_decopy (h : Wd M) (bz : deB z) (by' : deB y) (hd : z + 7 ≤ y ∨ y + 7 ≤ z) : ∃ M', f_Device_copyFrom O f z y M = some ((), M') ∧ Un (fun a => a < z ∨ z + 7 ≤ a) M M' ∧ ∀ i j, deF i j → iV M' (z + i) j = iV M (y + i) j := by
  obtain ⟨hz, sz, s2, r2, s3, r3, s4, r4, s5, r5, s6, r6, s7, r7⟩ := bz
  obtain ⟨hy, sy, u2, v2, u3, v3, u4, v4, u5, v5, u6, v6, u7, v7⟩ := by'
  unfold f_Device_copyFrom
  simp (disch := first | assumption | omega | (simp only [wd_iS, wd_lS, wd_cS, wd_cL]; assumption)) only [↓xcl_e, ↓bind_e, ↓q_pJ (k := z) (ci := 3) (j := 0) (by omega) sz (by decide) (by decide) (fun _ => rfl), ↓q_pJ (k := z) (ci := 3) (j := 1) (by omega) sz (by decide) (by decide) (fun _ => rfl), ↓q_gR (k := z) (ci := 3) (j := 2) (by omega) sz (by decide) (by decide) r2, ↓q_aN (k := z + 1) (by omega) s2 (by decide) (by decide) (c := 40) rfl, ↓q_gR (k := z) (ci := 3) (j := 3) (by omega) sz (by decide) (by decide) r3, ↓q_aN (k := z + 2) (by omega) s3 (by decide) (by decide) (c := 40) rfl, ↓q_gR (k := z) (ci := 3) (j := 4) (by omega) sz (by decide) (by decide) r4, ↓q_aN (k := z + 3) (by omega) s4 (by decide) (by decide) (c := 40) rfl, ↓q_gR (k := z) (ci := 3) (j := 5) (by omega) sz (by decide) (by decide) r5, ↓q_aN (k := z + 4) (by omega) s5 (by decide) (by decide) (c := 48) rfl, ↓q_gR (k := z) (ci := 3) (j := 6) (by omega) sz (by decide) (by decide) r6, ↓q_aN (k := z + 5) (by omega) s6 (by decide) (by decide) (c := 48) rfl, ↓q_gR (k := z) (ci := 3) (j := 7) (by omega) sz (by decide) (by decide) r7, ↓q_aN (k := z + 6) (by omega) s7 (by decide) (by decide) (c := 48) rfl, ↓q_gJ (k := y) (ci := 3) (j := 0) (by omega) sy (by decide) (by decide), ↓q_gJ (k := y) (ci := 3) (j := 1) (by omega) sy (by decide) (by decide), ↓q_gR (k := y) (ci := 3) (j := 2) (by omega) sy (by decide) (by decide) v2, ↓q_aN (k := y + 1) (by omega) u2 (by decide) (by decide) (c := 40) rfl, ↓q_gR (k := y) (ci := 3) (j := 3) (by omega) sy (by decide) (by decide) v3, ↓q_aN (k := y + 2) (by omega) u3 (by decide) (by decide) (c := 40) rfl, ↓q_gR (k := y) (ci := 3) (j := 4) (by omega) sy (by decide) (by decide) v4, ↓q_aN (k := y + 3) (by omega) u4 (by decide) (by decide) (c := 40) rfl, ↓q_gR (k := y) (ci := 3) (j := 5) (by omega) sy (by decide) (by decide) v5, ↓q_aN (k := y + 4) (by omega) u5 (by decide) (by decide) (c := 48) rfl, ↓q_gR (k := y) (ci := 3) (j := 6) (by omega) sy (by decide) (by decide) v6, ↓q_aN (k := y + 5) (by omega) u6 (by decide) (by decide) (c := 48) rfl, ↓q_gR (k := y) (ci := 3) (j := 7) (by omega) sy (by decide) (by decide) v7, ↓q_aN (k := y + 6) (by omega) u7 (by decide) (by decide) (c := 48) rfl, ↓q_cS (a0 := y + 1) (a1 := z + 1) (n := 40) (by omega) (by omega) u2 s2 (by decide) (c := 40) rfl, ↓q_cS (a0 := y + 2) (a1 := z + 2) (n := 40) (by omega) (by omega) u3 s3 (by decide) (c := 40) rfl, ↓q_cS (a0 := y + 3) (a1 := z + 3) (n := 40) (by omega) (by omega) u4 s4 (by decide) (c := 40) rfl, ↓q_cS (a0 := y + 4) (a1 := z + 4) (n := 48) (by omega) (by omega) u5 s5 (by decide) (c := 48) rfl, ↓q_cS (a0 := y + 5) (a1 := z + 5) (n := 48) (by omega) (by omega) u6 s6 (by decide) (c := 48) rfl, ↓q_cS (a0 := y + 6) (a1 := z + 6) (n := 48) (by omega) (by omega) u7 s7 (by decide) (c := 48) rfl]
  refine ⟨_, rfl, ?_, ?_⟩
  · (repeat first | exact Un.rf | refine Un.iS ?_ (fun q => by (try dsimp only at q); omega) | refine Un.cS ?_ (fun q => by (try dsimp only at q); omega) | refine Un.cL ?_ (fun q => by (try dsimp only at q); omega))
  · intro i j hF
    rcases hF with ⟨rfl, rfl | rfl⟩ | ⟨rfl, hj⟩ | ⟨rfl, hj⟩ | ⟨rfl, hj⟩ | ⟨rfl, hj⟩ | ⟨rfl, hj⟩ | ⟨rfl, hj⟩ <;> simp (disch := omega) only [iV_sv, iV_s, iV_o, iV_cs, iV_co, iV_cL, Nat.zero_add, Nat.sub_zero, Nat.add_zero]
theorem B_anyZone {x : Int} (hb : Hb b) (h : Wd M) (h0 : 0 ≤ x) (h1 : x < 3) {δ : Type} {A : Nat → xM → Option δ} : xcl (f_Hall_anyZone O f b x M) A = A (b + (10 + 3 * x.toNat)) M := by
  have hl := hb.le
  have sb : shp b = .inl 4 := hb.s' (i := 0) (by decide) rfl
  have sr : rfs b 0 = some (b + 1) := hb.ref' (i := 0) (by decide) rfl
  have sa : shp (b + 1) = .inr (7, 3) := hb.s' (by decide) rfl
  have re : ∀ k, k < 3 → (hbR.getD 1 []).getD k none = some (10 + 3 * k) := by decide
  have ra : rfs (b + 1) x.toNat = some (b + (10 + 3 * x.toNat)) := hb.ref' (by decide) (re _ (by omega))
  unfold f_Hall_anyZone f_Hall_anyZone_22
  simp (disch := first | assumption | omega) only [↓lt_T, ↓lt_F, ↓le_T, ↓le_F, ↓eq_T, ↓eq_F, ↓eqL_F, ↓xlet_e, ↓xcl_e, ↓bind_e, ↓elim_n, ↓elim_s, ↓q_gR (k := b) (ci := 4) (j := 0) (by omega) sb (by decide) (by decide) sr, ↓q_aN (k := b + 1) (by omega) sa (by decide) (by decide) (c := 3) rfl, ↓h.aJR (k := b + 1) (i := x) (by omega) sa (by decide) h0 (by omega) (by omega) ra]
theorem B_anyPerson {x : Int} (hb : Hb b) (h : Wd M) (h0 : 0 ≤ x) (h1 : x < 8) {δ : Type} {A : Nat → xM → Option δ} : xcl (f_Hall_anyPerson O f b x M) A = A (b + (19 + 1 * x.toNat)) M := by
  have hl := hb.le
  have sb : shp b = .inl 4 := hb.s' (i := 0) (by decide) rfl
  have sr : rfs b 1 = some (b + 2) := hb.ref' (i := 0) (by decide) rfl
  have sa : shp (b + 2) = .inr (8, 8) := hb.s' (by decide) rfl
  have re : ∀ k, k < 8 → (hbR.getD 2 []).getD k none = some (19 + 1 * k) := by decide
  have ra : rfs (b + 2) x.toNat = some (b + (19 + 1 * x.toNat)) := hb.ref' (by decide) (re _ (by omega))
  unfold f_Hall_anyPerson f_Hall_anyPerson_22
  simp (disch := first | assumption | omega) only [↓lt_T, ↓lt_F, ↓le_T, ↓le_F, ↓eq_T, ↓eq_F, ↓eqL_F, ↓xlet_e, ↓xcl_e, ↓bind_e, ↓elim_n, ↓elim_s, ↓q_gR (k := b) (ci := 4) (j := 1) (by omega) sb (by decide) (by decide) sr, ↓q_aN (k := b + 2) (by omega) sa (by decide) (by decide) (c := 8) rfl, ↓h.aJR (k := b + 2) (i := x) (by omega) sa (by decide) h0 (by omega) (by omega) ra]
theorem B_anySeries {x : Int} (hb : Hb b) (h : Wd M) (h0 : 0 ≤ x) (h1 : x < 12) {δ : Type} {A : Nat → xM → Option δ} : xcl (f_Hall_anySeries O f b x M) A = A (b + (27 + 6 * x.toNat)) M := by
  have hl := hb.le
  have sb : shp b = .inl 4 := hb.s' (i := 0) (by decide) rfl
  have sr : rfs b 3 = some (b + 4) := hb.ref' (i := 0) (by decide) rfl
  have sa : shp (b + 4) = .inr (9, 12) := hb.s' (by decide) rfl
  have re : ∀ k, k < 12 → (hbR.getD 4 []).getD k none = some (27 + 6 * k) := by decide
  have ra : rfs (b + 4) x.toNat = some (b + (27 + 6 * x.toNat)) := hb.ref' (by decide) (re _ (by omega))
  unfold f_Hall_anySeries f_Hall_anySeries_22
  simp (disch := first | assumption | omega) only [↓lt_T, ↓lt_F, ↓le_T, ↓le_F, ↓eq_T, ↓eq_F, ↓eqL_F, ↓xlet_e, ↓xcl_e, ↓bind_e, ↓elim_n, ↓elim_s, ↓q_gR (k := b) (ci := 4) (j := 3) (by omega) sb (by decide) (by decide) sr, ↓q_aN (k := b + 4) (by omega) sa (by decide) (by decide) (c := 12) rfl, ↓h.aJR (k := b + 4) (i := x) (by omega) sa (by decide) h0 (by omega) (by omega) ra]
theorem B_anyDevice {x : Int} (hb : Hb b) (h : Wd M) (h0 : 0 ≤ x) (h1 : x < 2) {δ : Type} {A : Nat → xM → Option δ} : xcl (f_Hall_anyDevice O f b x M) A = A (b + (99 + 7 * x.toNat)) M := by
  have hl := hb.le
  have sb : shp b = .inl 4 := hb.s' (i := 0) (by decide) rfl
  have sr : rfs b 4 = some (b + 5) := hb.ref' (i := 0) (by decide) rfl
  have sa : shp (b + 5) = .inr (10, 2) := hb.s' (by decide) rfl
  have re : ∀ k, k < 2 → (hbR.getD 5 []).getD k none = some (99 + 7 * k) := by decide
  have ra : rfs (b + 5) x.toNat = some (b + (99 + 7 * x.toNat)) := hb.ref' (by decide) (re _ (by omega))
  unfold f_Hall_anyDevice f_Hall_anyDevice_22
  simp (disch := first | assumption | omega) only [↓lt_T, ↓lt_F, ↓le_T, ↓le_F, ↓eq_T, ↓eq_F, ↓eqL_F, ↓xlet_e, ↓xcl_e, ↓bind_e, ↓elim_n, ↓elim_s, ↓q_gR (k := b) (ci := 4) (j := 4) (by omega) sb (by decide) (by decide) sr, ↓q_aN (k := b + 5) (by omega) sa (by decide) (by decide) (c := 2) rfl, ↓h.aJR (k := b + 5) (i := x) (by omega) sa (by decide) h0 (by omega) (by omega) ra]
theorem Hb.zo (hb : Hb b) (hk : k < 3) : zoB (b + (10 + 3 * k)) := by
  have hl := hb.le
  have q0 : ∀ k, k < 3 → hbS.getD (10 + 3 * k) (.inl 99) = .inl 11 := by decide
  have s2 : ∀ k, k < 3 → hbS.getD (10 + 3 * k + 1) (.inl 99) = .inr (0, 4) := by decide
  have p2 : ∀ k, k < 3 → (hbR.getD (10 + 3 * k) []).getD 2 none = some (10 + 3 * k + 1) := by decide
  have s3 : ∀ k, k < 3 → hbS.getD (10 + 3 * k + 2) (.inl 99) = .inr (0, 4) := by decide
  have p3 : ∀ k, k < 3 → (hbR.getD (10 + 3 * k) []).getD 3 none = some (10 + 3 * k + 2) := by decide
  exact ⟨by omega, hb.s' (by omega) (q0 k hk), hb.s' (i := 10 + 3 * k + 1) (by omega) (s2 k hk), hb.ref' (by omega) (p2 k hk), hb.s' (i := 10 + 3 * k + 2) (by omega) (s3 k hk), hb.ref' (by omega) (p3 k hk)⟩
theorem Hb.pe (hb : Hb b) (hk : k < 8) : peB (b + (19 + 1 * k)) := by
  have hl := hb.le
  have q0 : ∀ k, k < 8 → hbS.getD (19 + 1 * k) (.inl 99) = .inl 6 := by decide
  exact ⟨by omega, hb.s' (by omega) (q0 k hk)⟩
theorem Hb.se (hb : Hb b) (hk : k < 12) : seB (b + (27 + 6 * k)) := by
  have hl := hb.le
  have q0 : ∀ k, k < 12 → hbS.getD (27 + 6 * k) (.inl 99) = .inl 10 := by decide
  have q1 : ∀ k, k < 12 → hbS.getD (27 + 6 * k + 1) (.inl 99) = .inl 9 := by decide
  have p1 : ∀ k, k < 12 → (hbR.getD (27 + 6 * k) []).getD 6 none = some (27 + 6 * k + 1) := by decide
  have s8 : ∀ k, k < 12 → hbS.getD (27 + 6 * k + 2) (.inl 99) = .inr (0, 10) := by decide
  have p8 : ∀ k, k < 12 → (hbR.getD (27 + 6 * k) []).getD 8 none = some (27 + 6 * k + 2) := by decide
  have s9 : ∀ k, k < 12 → hbS.getD (27 + 6 * k + 3) (.inl 99) = .inr (0, 10) := by decide
  have p9 : ∀ k, k < 12 → (hbR.getD (27 + 6 * k) []).getD 9 none = some (27 + 6 * k + 3) := by decide
  have s10 : ∀ k, k < 12 → hbS.getD (27 + 6 * k + 4) (.inl 99) = .inr (0, 8) := by decide
  have p10 : ∀ k, k < 12 → (hbR.getD (27 + 6 * k) []).getD 10 none = some (27 + 6 * k + 4) := by decide
  have s11 : ∀ k, k < 12 → hbS.getD (27 + 6 * k + 5) (.inl 99) = .inr (0, 8) := by decide
  have p11 : ∀ k, k < 12 → (hbR.getD (27 + 6 * k) []).getD 11 none = some (27 + 6 * k + 5) := by decide
  exact ⟨by omega, hb.s' (by omega) (q0 k hk), hb.s' (i := 27 + 6 * k + 1) (by omega) (q1 k hk), hb.ref' (by omega) (p1 k hk), hb.s' (i := 27 + 6 * k + 2) (by omega) (s8 k hk), hb.ref' (by omega) (p8 k hk), hb.s' (i := 27 + 6 * k + 3) (by omega) (s9 k hk), hb.ref' (by omega) (p9 k hk), hb.s' (i := 27 + 6 * k + 4) (by omega) (s10 k hk), hb.ref' (by omega) (p10 k hk), hb.s' (i := 27 + 6 * k + 5) (by omega) (s11 k hk), hb.ref' (by omega) (p11 k hk)⟩
theorem Hb.de (hb : Hb b) (hk : k < 2) : deB (b + (99 + 7 * k)) := by
  have hl := hb.le
  have q0 : ∀ k, k < 2 → hbS.getD (99 + 7 * k) (.inl 99) = .inl 3 := by decide
  have s2 : ∀ k, k < 2 → hbS.getD (99 + 7 * k + 1) (.inl 99) = .inr (0, 40) := by decide
  have p2 : ∀ k, k < 2 → (hbR.getD (99 + 7 * k) []).getD 2 none = some (99 + 7 * k + 1) := by decide
  have s3 : ∀ k, k < 2 → hbS.getD (99 + 7 * k + 2) (.inl 99) = .inr (0, 40) := by decide
  have p3 : ∀ k, k < 2 → (hbR.getD (99 + 7 * k) []).getD 3 none = some (99 + 7 * k + 2) := by decide
  have s4 : ∀ k, k < 2 → hbS.getD (99 + 7 * k + 3) (.inl 99) = .inr (0, 40) := by decide
  have p4 : ∀ k, k < 2 → (hbR.getD (99 + 7 * k) []).getD 4 none = some (99 + 7 * k + 3) := by decide
  have s5 : ∀ k, k < 2 → hbS.getD (99 + 7 * k + 4) (.inl 99) = .inr (0, 48) := by decide
  have p5 : ∀ k, k < 2 → (hbR.getD (99 + 7 * k) []).getD 5 none = some (99 + 7 * k + 4) := by decide
  have s6 : ∀ k, k < 2 → hbS.getD (99 + 7 * k + 5) (.inl 99) = .inr (0, 48) := by decide
  have p6 : ∀ k, k < 2 → (hbR.getD (99 + 7 * k) []).getD 6 none = some (99 + 7 * k + 5) := by decide
  have s7 : ∀ k, k < 2 → hbS.getD (99 + 7 * k + 6) (.inl 99) = .inr (0, 48) := by decide
  have p7 : ∀ k, k < 2 → (hbR.getD (99 + 7 * k) []).getD 7 none = some (99 + 7 * k + 6) := by decide
  exact ⟨by omega, hb.s' (by omega) (q0 k hk), hb.s' (i := 99 + 7 * k + 1) (by omega) (s2 k hk), hb.ref' (by omega) (p2 k hk), hb.s' (i := 99 + 7 * k + 2) (by omega) (s3 k hk), hb.ref' (by omega) (p3 k hk), hb.s' (i := 99 + 7 * k + 3) (by omega) (s4 k hk), hb.ref' (by omega) (p4 k hk), hb.s' (i := 99 + 7 * k + 4) (by omega) (s5 k hk), hb.ref' (by omega) (p5 k hk), hb.s' (i := 99 + 7 * k + 5) (by omega) (s6 k hk), hb.ref' (by omega) (p6 k hk), hb.s' (i := 99 + 7 * k + 6) (by omega) (s7 k hk), hb.ref' (by omega) (p7 k hk)⟩
theorem zo_loop (hb : Hb b) (hc : Hb c) (hn : b ≠ c) : ∀ (r n : Nat) (v : Int) (M : xM), Wd M → 0 ≤ v → v + r = 3 → r < n → ∃ M', f_Hall_copyFrom_2 O f n b c v M = f_Hall_copyFrom_28 O f f b c 0 M' ∧ Un (fun a => a < b + (10 + 3 * v.toNat) ∨ b + 19 ≤ a) M M' ∧ ∀ k : Nat, v.toNat ≤ k → k < 3 → ∀ i j, zoF i j → iV M' (b + (10 + 3 * k) + i) j = iV M (c + (10 + 3 * k) + i) j := by
  have hl := hb.le
  have hl2 := hc.le
  have hsep := hb.sep hc hn
  intro r
  induction r with
  | zero =>
    intro n v M h h0 h1 h2
    obtain ⟨n, rfl⟩ : ∃ n', n = n' + 1 := ⟨n - 1, by omega⟩
    refine ⟨M, ?_, Un.rf, fun k q1 q2 => by omega⟩
    show (if yw 3 ≤ yw v then _ else _) = _
    rw [le_T (by omega) (by omega) (by omega)]
  | succ r ih =>
    intro n v M h h0 h1 h2
    obtain ⟨n, rfl⟩ : ∃ n', n = n' + 1 := ⟨n - 1, by omega⟩
    have bz := hb.zo (k := v.toNat) (by omega)
    have by' := hc.zo (k := v.toNat) (by omega)
    obtain ⟨M3, e3, u3, v3⟩ := e_zocopy (O := O) (f := f) h bz by' (by omega)
    have w3 := u3.wd h
    obtain ⟨M', e', u', v'⟩ := ih n (v + 1) M3 w3 (by omega) (by omega) (by omega)
    rw [show (v + 1).toNat = v.toNat + 1 by omega] at u' v'
    refine ⟨M', ?_, ?_, ?_⟩
    · rw [← e']
      show (if yw 3 ≤ yw v then _ else _) = _
      rw [le_F (by omega) (by omega) (by omega), h.is (k := b) (ci := 4) (by omega) (hb.s' (i := 0) (by decide) rfl), B_anyZone hb h (by omega) (by omega), h.is (k := c) (ci := 4) (by omega) (hc.s' (i := 0) (by decide) rfl), B_anyZone hc h (by omega) (by omega), h.is (k := b + (10 + 3 * v.toNat)) (ci := 11) (by omega) bz.2.1, e3, xcl_e]
    · exact (u3.le (fun a q => by (try dsimp only at q ⊢); omega)).tr (u'.le (fun a q => by (try dsimp only at q ⊢); omega))
    · intro k q1 q2 i j hF
      have hi : i < 3 := by
        unfold zoF at hF
        omega
      by_cases hk : k = v.toNat
      · subst hk
        rw [u'.i (by (try dsimp only); omega)]
        exact v3 i j hF
      · rw [v' k (by omega) q2 i j hF]
        exact u3.i (by (try dsimp only); omega)
theorem pe_loop (hb : Hb b) (hc : Hb c) (hn : b ≠ c) : ∀ (r n : Nat) (v : Int) (M : xM), Wd M → 0 ≤ v → v + r = 8 → r < n → ∃ M', f_Hall_copyFrom_28 O f n b c v M = f_Hall_copyFrom_55 O f f b c 0 M' ∧ Un (fun a => a < b + (19 + 1 * v.toNat) ∨ b + 27 ≤ a) M M' ∧ ∀ k : Nat, v.toNat ≤ k → k < 8 → ∀ i j, peF i j → iV M' (b + (19 + 1 * k) + i) j = iV M (c + (19 + 1 * k) + i) j := by
  have hl := hb.le
  have hl2 := hc.le
  have hsep := hb.sep hc hn
  intro r
  induction r with
  | zero =>
    intro n v M h h0 h1 h2
    obtain ⟨n, rfl⟩ : ∃ n', n = n' + 1 := ⟨n - 1, by omega⟩
    refine ⟨M, ?_, Un.rf, fun k q1 q2 => by omega⟩
    show (if yw 8 ≤ yw v then _ else _) = _
    rw [le_T (by omega) (by omega) (by omega)]
  | succ r ih =>
    intro n v M h h0 h1 h2
    obtain ⟨n, rfl⟩ : ∃ n', n = n' + 1 := ⟨n - 1, by omega⟩
    have bz := hb.pe (k := v.toNat) (by omega)
    have by' := hc.pe (k := v.toNat) (by omega)
    obtain ⟨M3, e3, u3, v3⟩ := e_pecopy (O := O) (f := f) h bz by' (by omega)
    have w3 := u3.wd h
    obtain ⟨M', e', u', v'⟩ := ih n (v + 1) M3 w3 (by omega) (by omega) (by omega)
    rw [show (v + 1).toNat = v.toNat + 1 by omega] at u' v'
    refine ⟨M', ?_, ?_, ?_⟩
    · rw [← e']
      show (if yw 8 ≤ yw v then _ else _) = _
      rw [le_F (by omega) (by omega) (by omega), h.is (k := b) (ci := 4) (by omega) (hb.s' (i := 0) (by decide) rfl), B_anyPerson hb h (by omega) (by omega), h.is (k := c) (ci := 4) (by omega) (hc.s' (i := 0) (by decide) rfl), B_anyPerson hc h (by omega) (by omega), h.is (k := b + (19 + 1 * v.toNat)) (ci := 6) (by omega) bz.2, e3, xcl_e]
    · exact (u3.le (fun a q => by (try dsimp only at q ⊢); omega)).tr (u'.le (fun a q => by (try dsimp only at q ⊢); omega))
    · intro k q1 q2 i j hF
      have hi : i < 1 := by
        unfold peF at hF
        omega
      by_cases hk : k = v.toNat
      · subst hk
        rw [u'.i (by (try dsimp only); omega)]
        exact v3 i j hF
      · rw [v' k (by omega) q2 i j hF]
        exact u3.i (by (try dsimp only); omega)
theorem se_loop (hb : Hb b) (hc : Hb c) (hn : b ≠ c) : ∀ (r n : Nat) (v : Int) (M : xM), Wd M → (∀ k : Nat, k < 12 → (iV M (c + (27 + 6 * k)) 0 = 0 ∨ iV M (c + (27 + 6 * k)) 0 = 1) ∧ (iV M (c + (27 + 6 * k)) 5 = 0 ∨ iV M (c + (27 + 6 * k)) 5 = 1)) → 0 ≤ v → v + r = 12 → r < n → ∃ M', f_Hall_copyFrom_55 O f n b c v M = f_Hall_copyFrom_82 O f f b c 0 M' ∧ Un (fun a => a < b + (27 + 6 * v.toNat) ∨ b + 99 ≤ a) M M' ∧ ∀ k : Nat, v.toNat ≤ k → k < 12 → ∀ i j, seF i j → iV M' (b + (27 + 6 * k) + i) j = iV M (c + (27 + 6 * k) + i) j := by
  have hl := hb.le
  have hl2 := hc.le
  have hsep := hb.sep hc hn
  intro r
  induction r with
  | zero =>
    intro n v M h hB h0 h1 h2
    obtain ⟨n, rfl⟩ : ∃ n', n = n' + 1 := ⟨n - 1, by omega⟩
    refine ⟨M, ?_, Un.rf, fun k q1 q2 => by omega⟩
    show (if yw 12 ≤ yw v then _ else _) = _
    rw [le_T (by omega) (by omega) (by omega)]
  | succ r ih =>
    intro n v M h hB h0 h1 h2
    obtain ⟨n, rfl⟩ : ∃ n', n = n' + 1 := ⟨n - 1, by omega⟩
    have bz := hb.se (k := v.toNat) (by omega)
    have by' := hc.se (k := v.toNat) (by omega)
    obtain ⟨M3, e3, u3, v3⟩ := e_secopy (O := O) (f := f) h bz by' (by omega) (hB v.toNat (by omega)).1 (hB v.toNat (by omega)).2
    have w3 := u3.wd h
    obtain ⟨M', e', u', v'⟩ := ih n (v + 1) M3 w3 (fun k hk => by rw [u3.i (by (try dsimp only); omega), u3.i (by (try dsimp only); omega)]; exact hB k hk) (by omega) (by omega) (by omega)
    rw [show (v + 1).toNat = v.toNat + 1 by omega] at u' v'
    refine ⟨M', ?_, ?_, ?_⟩
    · rw [← e']
      show (if yw 12 ≤ yw v then _ else _) = _
      rw [le_F (by omega) (by omega) (by omega), h.is (k := b) (ci := 4) (by omega) (hb.s' (i := 0) (by decide) rfl), B_anySeries hb h (by omega) (by omega), h.is (k := c) (ci := 4) (by omega) (hc.s' (i := 0) (by decide) rfl), B_anySeries hc h (by omega) (by omega), h.is (k := b + (27 + 6 * v.toNat)) (ci := 10) (by omega) bz.2.1, e3, xcl_e]
    · exact (u3.le (fun a q => by (try dsimp only at q ⊢); omega)).tr (u'.le (fun a q => by (try dsimp only at q ⊢); omega))
    · intro k q1 q2 i j hF
      have hi : i < 6 := by
        unfold seF at hF
        omega
      by_cases hk : k = v.toNat
      · subst hk
        rw [u'.i (by (try dsimp only); omega)]
        exact v3 i j hF
      · rw [v' k (by omega) q2 i j hF]
        exact u3.i (by (try dsimp only); omega)
end HBL
end
/-! draft 506.save -/
section
/-! ===== a whole hall is copied; saving and undoing ===== -/
section SAV
variable {O : Nat → Option va_E} {f : Nat} {M : xM} {b c i j k : Nat}
def haF (i j : Nat) : Prop := (i = 0 ∧ (j = 5 ∨ j = 9 ∨ j = 11)) ∨ (i = 3 ∧ j < 4) ∨ (i = 6 ∧ j < 10) ∨ (i = 7 ∧ j < 10)
def haL (i j : Nat) : Prop := (i = 8 ∧ j < 30) ∨ (i = 9 ∧ j < 10)
theorem ha_tail (hb : Hb b) (hc : Hb c) (hn : b ≠ c) (h : Wd M) {n : Nat} : ∃ M', f_Hall_copyFrom_82 O f (n + 1) b c 2 M = some ((), M') ∧ Un (fun a => a < b ∨ b + 10 ≤ a) M M' ∧ (∀ i j, haF i j → iV M' (b + i) j = iV M (c + i) j) ∧ ∀ i j, haL i j → lV M' (b + i) j = lV M (c + i) j := by
  have hl := hb.le
  have hl2 := hc.le
  have hsep := hb.sep hc hn
  have sb : shp b = .inl 4 := hb.s' (i := 0) (by decide) rfl
  have rb2 : rfs b 2 = some (b + 3) := hb.ref' (i := 0) (by decide) rfl
  have sb2 : shp (b + 3) = .inr (0, 4) := hb.s' (by decide) rfl
  have rb6 : rfs b 6 = some (b + 6) := hb.ref' (i := 0) (by decide) rfl
  have sb6 : shp (b + 6) = .inr (0, 10) := hb.s' (by decide) rfl
  have rb7 : rfs b 7 = some (b + 7) := hb.ref' (i := 0) (by decide) rfl
  have sb7 : shp (b + 7) = .inr (0, 10) := hb.s' (by decide) rfl
  have rb8 : rfs b 8 = some (b + 8) := hb.ref' (i := 0) (by decide) rfl
  have sb8 : shp (b + 8) = .inr (1, 30) := hb.s' (by decide) rfl
  have rb10 : rfs b 10 = some (b + 9) := hb.ref' (i := 0) (by decide) rfl
  have sb10 : shp (b + 9) = .inr (1, 10) := hb.s' (by decide) rfl
  have sc : shp c = .inl 4 := hc.s' (i := 0) (by decide) rfl
  have rc2 : rfs c 2 = some (c + 3) := hc.ref' (i := 0) (by decide) rfl
  have sc2 : shp (c + 3) = .inr (0, 4) := hc.s' (by decide) rfl
  have rc6 : rfs c 6 = some (c + 6) := hc.ref' (i := 0) (by decide) rfl
  have sc6 : shp (c + 6) = .inr (0, 10) := hc.s' (by decide) rfl
  have rc7 : rfs c 7 = some (c + 7) := hc.ref' (i := 0) (by decide) rfl
  have sc7 : shp (c + 7) = .inr (0, 10) := hc.s' (by decide) rfl
  have rc8 : rfs c 8 = some (c + 8) := hc.ref' (i := 0) (by decide) rfl
  have sc8 : shp (c + 8) = .inr (1, 30) := hc.s' (by decide) rfl
  have rc10 : rfs c 10 = some (c + 9) := hc.ref' (i := 0) (by decide) rfl
  have sc10 : shp (c + 9) = .inr (1, 10) := hc.s' (by decide) rfl
  show ∃ M', (if yw 2 ≤ yw 2 then _ else _) = some ((), M') ∧ _
  rw [le_T (by omega) (by omega) (by omega)]
  simp (disch := first | assumption | omega | (simp only [wd_iS, wd_lS, wd_cS, wd_cL]; assumption)) only [↓bind_e, ↓q_gR (k := b) (ci := 4) (j := 2) (by omega) sb (by decide) (by decide) rb2, ↓q_gR (k := c) (ci := 4) (j := 2) (by omega) sc (by decide) (by decide) rc2, ↓q_cS (a0 := c + 3) (a1 := b + 3) (n := 4) (by omega) (by omega) sc2 sb2 (by decide) (c := 4) rfl, ↓q_gR (k := b) (ci := 4) (j := 6) (by omega) sb (by decide) (by decide) rb6, ↓q_gR (k := c) (ci := 4) (j := 6) (by omega) sc (by decide) (by decide) rc6, ↓q_cS (a0 := c + 6) (a1 := b + 6) (n := 10) (by omega) (by omega) sc6 sb6 (by decide) (c := 10) rfl, ↓q_gR (k := b) (ci := 4) (j := 7) (by omega) sb (by decide) (by decide) rb7, ↓q_gR (k := c) (ci := 4) (j := 7) (by omega) sc (by decide) (by decide) rc7, ↓q_cS (a0 := c + 7) (a1 := b + 7) (n := 10) (by omega) (by omega) sc7 sb7 (by decide) (c := 10) rfl, ↓q_gR (k := b) (ci := 4) (j := 8) (by omega) sb (by decide) (by decide) rb8, ↓q_gR (k := c) (ci := 4) (j := 8) (by omega) sc (by decide) (by decide) rc8, ↓q_cL (a0 := c + 8) (a1 := b + 8) (n := 30) (by omega) (by omega) sc8 sb8 (by decide) (c := 30) rfl, ↓q_gR (k := b) (ci := 4) (j := 10) (by omega) sb (by decide) (by decide) rb10, ↓q_gR (k := c) (ci := 4) (j := 10) (by omega) sc (by decide) (by decide) rc10, ↓q_cL (a0 := c + 9) (a1 := b + 9) (n := 10) (by omega) (by omega) sc10 sb10 (by decide) (c := 10) rfl, ↓q_gJ (k := c) (ci := 4) (j := 5) (by omega) sc (by decide) (by decide), ↓q_pJ (k := b) (ci := 4) (j := 5) (by omega) sb (by decide) (by decide) (fun _ => rfl), ↓q_gJ (k := c) (ci := 4) (j := 9) (by omega) sc (by decide) (by decide), ↓q_pJ (k := b) (ci := 4) (j := 9) (by omega) sb (by decide) (by decide) (fun _ => rfl), ↓q_gJ (k := c) (ci := 4) (j := 11) (by omega) sc (by decide) (by decide), ↓q_pJ (k := b) (ci := 4) (j := 11) (by omega) sb (by decide) (by decide) (fun _ => rfl)]
  refine ⟨_, rfl, ?_, ?_, ?_⟩
  · (repeat first | exact Un.rf | refine Un.iS ?_ (fun q => by (try dsimp only at q); omega) | refine Un.cS ?_ (fun q => by (try dsimp only at q); omega) | refine Un.cL ?_ (fun q => by (try dsimp only at q); omega))
  · intro i j hF
    rcases hF with ⟨rfl, rfl | rfl | rfl⟩ | ⟨rfl, hj⟩ | ⟨rfl, hj⟩ | ⟨rfl, hj⟩ <;> simp (disch := omega) only [iV_sv, iV_s, iV_o, iV_cs, iV_co, iV_cL, lV_iS, lV_cS, lV_cs, lV_co, Nat.zero_add, Nat.sub_zero, Nat.add_zero]
  · intro i j hF
    rcases hF with ⟨rfl, hj⟩ | ⟨rfl, hj⟩ <;> simp (disch := omega) only [iV_sv, iV_s, iV_o, iV_cs, iV_co, iV_cL, lV_iS, lV_cS, lV_cs, lV_co, Nat.zero_add, Nat.sub_zero, Nat.add_zero]
theorem de_loop (hb : Hb b) (hc : Hb c) (hn : b ≠ c) : ∀ (r n : Nat) (v : Int) (M : xM), Wd M → 0 ≤ v → v + r = 2 → r < n → ∃ M', f_Hall_copyFrom_82 O f n b c v M = some ((), M') ∧ Un (fun a => a < b ∨ (b + 10 ≤ a ∧ a < b + (99 + 7 * v.toNat)) ∨ b + 113 ≤ a) M M' ∧ (∀ i j, haF i j → iV M' (b + i) j = iV M (c + i) j) ∧ (∀ i j, haL i j → lV M' (b + i) j = lV M (c + i) j) ∧ ∀ k : Nat, v.toNat ≤ k → k < 2 → ∀ i j, deF i j → iV M' (b + (99 + 7 * k) + i) j = iV M (c + (99 + 7 * k) + i) j := by
  have hl := hb.le
  have hl2 := hc.le
  have hsep := hb.sep hc hn
  intro r
  induction r with
  | zero =>
    intro n v M h h0 h1 h2
    obtain ⟨n, rfl⟩ : ∃ n', n = n' + 1 := ⟨n - 1, by omega⟩
    obtain rfl : v = 2 := by omega
    obtain ⟨M', e, u, p, q⟩ := ha_tail (O := O) (f := f) (n := n) hb hc hn h
    exact ⟨M', e, u.le (fun a q => by (try dsimp only at q ⊢); omega), p, q, fun k q1 q2 => by omega⟩
  | succ r ih =>
    intro n v M h h0 h1 h2
    obtain ⟨n, rfl⟩ : ∃ n', n = n' + 1 := ⟨n - 1, by omega⟩
    have bz := hb.de (k := v.toNat) (by omega)
    have by' := hc.de (k := v.toNat) (by omega)
    obtain ⟨M3, e3, u3, v3⟩ := e_decopy (O := O) (f := f) h bz by' (by omega)
    have w3 := u3.wd h
    obtain ⟨M', e', u', pa, pb, v'⟩ := ih n (v + 1) M3 w3 (by omega) (by omega) (by omega)
    rw [show (v + 1).toNat = v.toNat + 1 by omega] at u' v'
    refine ⟨M', ?_, ?_, ?_, ?_, ?_⟩
    · rw [← e']
      show (if yw 2 ≤ yw v then _ else _) = _
      rw [le_F (by omega) (by omega) (by omega), h.is (k := b) (ci := 4) (by omega) (hb.s' (i := 0) (by decide) rfl), B_anyDevice hb h (by omega) (by omega), h.is (k := c) (ci := 4) (by omega) (hc.s' (i := 0) (by decide) rfl), B_anyDevice hc h (by omega) (by omega), h.is (k := b + (99 + 7 * v.toNat)) (ci := 3) (by omega) bz.2.1, e3, xcl_e]
    · exact (u3.le (fun a q => by (try dsimp only at q ⊢); omega)).tr (u'.le (fun a q => by (try dsimp only at q ⊢); omega))
    · intro i j hF
      rw [pa i j hF]
      have hi : i < 8 := by
        unfold haF at hF
        omega
      exact u3.i (by (try dsimp only); omega)
    · intro i j hF
      rw [pb i j hF]
      have hi : i < 10 := by
        unfold haL at hF
        omega
      exact u3.l (by (try dsimp only); omega)
    · intro k q1 q2 i j hF
      have hi : i < 7 := by
        unfold deF at hF
        omega
      by_cases hk : k = v.toNat
      · subst hk
        rw [u'.i (by (try dsimp only); omega)]
        exact v3 i j hF
      · rw [v' k (by omega) q2 i j hF]
        exact u3.i (by (try dsimp only); omega)
/-- what a copied hall has -/
def CpH (b c : Nat) (M N : xM) : Prop := (∀ k : Nat, k < 3 → ∀ i j, zoF i j → iV N (b + (10 + 3 * k) + i) j = iV M (c + (10 + 3 * k) + i) j) ∧ (∀ k : Nat, k < 8 → ∀ i j, peF i j → iV N (b + (19 + 1 * k) + i) j = iV M (c + (19 + 1 * k) + i) j) ∧ (∀ k : Nat, k < 12 → ∀ i j, seF i j → iV N (b + (27 + 6 * k) + i) j = iV M (c + (27 + 6 * k) + i) j) ∧ (∀ k : Nat, k < 2 → ∀ i j, deF i j → iV N (b + (99 + 7 * k) + i) j = iV M (c + (99 + 7 * k) + i) j) ∧ (∀ i j, haF i j → iV N (b + i) j = iV M (c + i) j) ∧ ∀ i j, haL i j → lV N (b + i) j = lV M (c + i) j
/-- the truth values of a hall's series -/
def BoB (c : Nat) (M : xM) : Prop := ∀ k : Nat, k < 12 → (iV M (c + (27 + 6 * k)) 0 = 0 ∨ iV M (c + (27 + 6 * k)) 0 = 1) ∧ (iV M (c + (27 + 6 * k)) 5 = 0 ∨ iV M (c + (27 + 6 * k)) 5 = 1)
theorem ha_copy (hb : Hb b) (hc : Hb c) (hn : b ≠ c) (h : Wd M) (hB : BoB c M) (hf : 20 ≤ f) : ∃ M', f_Hall_copyFrom O f b c M = some ((), M') ∧ Un (fun a => a < b ∨ b + 113 ≤ a) M M' ∧ CpH b c M M' := by
  have hl := hb.le
  have hl2 := hc.le
  have hsep := hb.sep hc hn
  obtain ⟨M1, e1, u1, v1⟩ := zo_loop (O := O) (f := f) hb hc hn 3 f 0 M h (by omega) (by omega) (by omega)
  have w1 := u1.wd h
  obtain ⟨M2, e2, u2, v2⟩ := pe_loop (O := O) (f := f) hb hc hn 8 f 0 M1 w1 (by omega) (by omega) (by omega)
  have w2 := u2.wd w1
  have B2 : BoB c M2 := by
    intro k hk
    rw [u2.i (by (try dsimp only); omega), u2.i (by (try dsimp only); omega), u1.i (by (try dsimp only); omega), u1.i (by (try dsimp only); omega)]
    exact hB k hk
  obtain ⟨M3, e3, u3, v3⟩ := se_loop (O := O) (f := f) hb hc hn 12 f 0 M2 w2 B2 (by omega) (by omega) (by omega)
  have w3 := u3.wd w2
  obtain ⟨M4, e4, u4, pa, pb, v4⟩ := de_loop (O := O) (f := f) hb hc hn 2 f 0 M3 w3 (by omega) (by omega) (by omega)
  have t0 : (0 : Int).toNat = 0 := rfl
  rw [t0] at u1 v1 u2 v2 u3 v3 u4 v4
  refine ⟨M4, ?_, ?_, ?_, ?_, ?_, ?_, ?_, ?_⟩
  · show f_Hall_copyFrom_2 O f f b c 0 M = _
    rw [e1, e2, e3, e4]
  · exact (((u1.le (fun a q => by (try dsimp only at q ⊢); omega)).tr (u2.le (fun a q => by (try dsimp only at q ⊢); omega))).tr (u3.le (fun a q => by (try dsimp only at q ⊢); omega))).tr (u4.le (fun a q => by (try dsimp only at q ⊢); omega))
  · intro k hk i j hF
    have hi : i < 3 := by
      unfold zoF at hF
      omega
    rw [u4.i (by (try dsimp only); omega), u3.i (by (try dsimp only); omega), u2.i (by (try dsimp only); omega)]
    exact v1 k (by omega) hk i j hF
  · intro k hk i j hF
    have hi : i < 1 := by
      unfold peF at hF
      omega
    rw [u4.i (by (try dsimp only); omega), u3.i (by (try dsimp only); omega), v2 k (by omega) hk i j hF]
    exact u1.i (by (try dsimp only); omega)
  · intro k hk i j hF
    have hi : i < 6 := by
      unfold seF at hF
      omega
    rw [u4.i (by (try dsimp only); omega), v3 k (by omega) hk i j hF, u2.i (by (try dsimp only); omega)]
    exact u1.i (by (try dsimp only); omega)
  · intro k hk i j hF
    have hi : i < 7 := by
      unfold deF at hF
      omega
    rw [v4 k (by omega) hk i j hF, u3.i (by (try dsimp only); omega), u2.i (by (try dsimp only); omega)]
    exact u1.i (by (try dsimp only); omega)
  · intro i j hF
    have hi : i < 8 := by
      unfold haF at hF
      omega
    rw [pa i j hF, u3.i (by (try dsimp only); omega), u2.i (by (try dsimp only); omega)]
    exact u1.i (by (try dsimp only); omega)
  · intro i j hF
    have hi : i < 10 := by
      unfold haL at hF
      omega
    rw [pb i j hF, u3.l (by (try dsimp only); omega), u2.l (by (try dsimp only); omega)]
    exact u1.l (by (try dsimp only); omega)
/-- the places of the saved halls -/
def Sv (M : xM) : Prop := 0 ≤ iV M 1 2 ∧ iV M 1 2 < 8 ∧ 0 ≤ iV M 1 3 ∧ iV M 1 3 ≤ 8
def sB (t : Int) : Nat := 140 + 113 * t.toNat
theorem Hb.two : Hb 2 := Or.inl rfl
theorem Hb.sB {t : Int} (h0 : 0 ≤ t) (h1 : t < 8) : Hb (sB t) := Or.inr ⟨t.toNat, by omega, rfl⟩
theorem sv_sp (h : Wd M) (hs : Sv M) (hB : BoB 2 M) (hf : 20 ≤ f) : ∃ M', f_Calendarhall_saveForUndo O f 1 M = some ((), M') ∧ Un (fun a => a ≠ 1 ∧ (a < sB (iV M 1 2) ∨ sB (iV M 1 2) + 113 ≤ a)) M M' ∧ CpH (sB (iV M 1 2)) 2 M M' ∧ iV M' 1 2 = (if iV M 1 2 = 7 then 0 else iV M 1 2 + 1) ∧ iV M' 1 3 = (if iV M 1 3 = 8 then 8 else iV M 1 3 + 1) := by
  obtain ⟨t0, t1, c0, c1⟩ := hs
  have hb := Hb.sB t0 t1
  have hd : sB (iV M 1 2) = 140 + 113 * (iV M 1 2).toNat := rfl
  have hl := hb.le
  obtain ⟨N, eN, uN, cN⟩ := ha_copy (O := O) (f := f) hb Hb.two (by omega) h hB hf
  have wN := uN.wd h
  have n2 : iV N 1 2 = iV M 1 2 := uN.i (by (try dsimp only); omega)
  have n3 : iV N 1 3 = iV M 1 3 := uN.i (by (try dsimp only); omega)
  unfold f_Calendarhall_saveForUndo
  simp (disch := first | assumption | omega) only [↓lt_T, ↓lt_F, ↓le_T, ↓le_F, ↓eq_T, ↓eq_F, ↓eqL_F, ↓xlet_e, ↓xcl_e, ↓bind_e, ↓elim_n, ↓elim_s, ↓a_Cal_savedNext h, ↓a_Cal_saved h, ↓n_Cal_saved h, ↓r_Cal_saved h]
  unfold f_Calendarhall_saveForUndo_32
  rw [elim_s, a_Cal_hall h, h.is (k := 140 + 113 * (iV M 1 2).toNat) (ci := 4) (by omega) (hb.s' (i := 0) (by decide) rfl)]
  rw [← hd, eN, xcl_e]
  unfold f_Calendarhall_saveForUndo_45
  have key : ∀ s : Int, f_Calendarhall_saveForUndo_67 O f 1 1 s N = some ((), iS (iS N 1 2 s) 1 3 (if iV M 1 3 = 8 then 8 else iV M 1 3 + 1)) ∨ f_Calendarhall_saveForUndo_67 O f 1 1 s N = some ((), iS N 1 2 s) ∧ iV M 1 3 = 8 := by
    intro s
    unfold f_Calendarhall_saveForUndo_67
    rw [p_Cal_savedNext wN, a_Cal_savedCount (M := iS N 1 2 s) wN, iV_o (by omega), n3]
    by_cases e : iV M 1 3 = 8
    · rw [le_T (by omega) (by omega) (by omega)]
      exact Or.inr ⟨rfl, e⟩
    · rw [le_F (by omega) (by omega) (by omega), a_Cal_savedCount (M := iS N 1 2 s) wN, iV_o (by omega), n3, p_Cal_savedCount (M := iS N 1 2 s) wN, if_neg e]
      exact Or.inl rfl
  have fin : ∀ s : Int, 0 ≤ s → s < 8 → s = (if iV M 1 2 = 7 then 0 else iV M 1 2 + 1) → ∃ M', f_Calendarhall_saveForUndo_67 O f 1 1 s N = some ((), M') ∧ Un (fun a => a ≠ 1 ∧ (a < sB (iV M 1 2) ∨ sB (iV M 1 2) + 113 ≤ a)) M M' ∧ CpH (sB (iV M 1 2)) 2 M M' ∧ iV M' 1 2 = (if iV M 1 2 = 7 then 0 else iV M 1 2 + 1) ∧ iV M' 1 3 = (if iV M 1 3 = 8 then 8 else iV M 1 3 + 1) := by
    intro s s0 s1 hs
    have uu : Un (fun a => a ≠ 1 ∧ (a < sB (iV M 1 2) ∨ sB (iV M 1 2) + 113 ≤ a)) M N := uN.le (fun a q => by (try dsimp only at q ⊢); omega)
    have cc : ∀ L : xM, (∀ a j, a ≠ 1 → iV L a j = iV N a j) → (∀ a j, lV L a j = lV N a j) → CpH (sB (iV M 1 2)) 2 M L := by
      intro L hL hL2
      obtain ⟨g1, g2, g3, g4, g5, g6⟩ := cN
      exact ⟨fun k hk i j hF => (hL _ _ (by omega)).trans (g1 k hk i j hF), fun k hk i j hF => (hL _ _ (by omega)).trans (g2 k hk i j hF), fun k hk i j hF => (hL _ _ (by omega)).trans (g3 k hk i j hF), fun k hk i j hF => (hL _ _ (by omega)).trans (g4 k hk i j hF), fun i j hF => (hL _ _ (by omega)).trans (g5 i j hF), fun i j hF => (hL2 _ _).trans (g6 i j hF)⟩
    rcases key s with e | ⟨e, e8⟩
    · refine ⟨_, e, (uu.iS (fun q => q.1 rfl)).iS (fun q => q.1 rfl), cc _ (fun a j ha => by rw [iV_o (Or.inl ha), iV_o (Or.inl ha)]) (fun a j => rfl), ?_, ?_⟩
      · rw [iV_o (by omega), iV_s (by omega) (by omega)]
        exact hs
      · rw [iV_s (by split <;> omega) (by split <;> omega)]
    · refine ⟨_, e, uu.iS (fun q => q.1 rfl), cc _ (fun a j ha => by rw [iV_o (Or.inl ha)]) (fun a j => rfl), ?_, ?_⟩
      · rw [iV_s (by omega) (by omega)]
        exact hs
      · rw [iV_o (by omega), n3, if_pos e8]
        exact e8
  rw [a_Cal_savedNext wN, n2]
  by_cases e : iV M 1 2 = 7
  · rw [le_T (by omega) (by omega) (by omega)]
    exact fin 0 (by omega) (by omega) (by rw [if_pos e])
  · rw [le_F (by omega) (by omega) (by omega), a_Cal_savedNext wN, n2]
    exact fin _ (by omega) (by omega) (by rw [if_neg e])
theorem Sv.of {N : xM} (h : Sv M) (h2 : iV N 1 2 = (if iV M 1 2 = 7 then 0 else iV M 1 2 + 1)) (h3 : iV N 1 3 = (if iV M 1 3 = 8 then 8 else iV M 1 3 + 1)) : Sv N := by
  obtain ⟨t0, t1, c0, c1⟩ := h
  unfold Sv
  rw [h2, h3]
  split <;> split <;> omega
/-- saving: what the other calls need of it -/
theorem sv_un (h : Wd M) (hs : Sv M) (hB : BoB 2 M) (hf : 20 ≤ f) : ∃ M', f_Calendarhall_saveForUndo O f 1 M = some ((), M') ∧ Un (fun a => a ≠ 1 ∧ (a < 140 ∨ 1044 ≤ a)) M M' ∧ Wd M' ∧ Sv M' ∧ BoB 2 M' := by
  obtain ⟨M', e, u, -, e2, e3⟩ := sv_sp (O := O) h hs hB hf
  have hd : sB (iV M 1 2) = 140 + 113 * (iV M 1 2).toNat := rfl
  obtain ⟨t0, t1, c0, c1⟩ := hs
  have u' : Un (fun a => a ≠ 1 ∧ (a < 140 ∨ 1044 ≤ a)) M M' := u.le (fun a q => by (try dsimp only at q ⊢); omega)
  refine ⟨M', e, u', u.wd h, Sv.of ⟨t0, t1, c0, c1⟩ e2 e3, fun k hk => ?_⟩
  rw [u'.i (by (try dsimp only); omega), u'.i (by (try dsimp only); omega)]
  exact hB k hk
end SAV
end
/-! draft 510.days -/
section
/-! ===== the calendar ===== -/
def cC (d : Int) : Int := (d - 60 + 146097) % 146097
def cY (c : Int) : Int := (c - c / 1460 + c / 36524 - c / 146096) / 365
def yB (y : Int) : Int := 365 * y + y / 4 - y / 100
def cI (c : Int) : Int := c - yB (cY c)
def cMonth (d : Int) : Int := (cY (cC d) * 12 + (5 * cI (cC d) + 2) / 153 + 2) % 4800
def cF (m : Int) : Int := (m - 2 + 4800) % 4800
def cBegin (m : Int) : Int := (yB (cF m / 12) + (153 * (cF m % 12) + 2) / 5 + 60) % 146097
/-- is the February of a year from 2000 a long one -/
abbrev cLeap (y : Int) : Prop := y % 4 = 0 ∧ (y % 100 ≠ 0 ∨ y % 400 = 0)
def cLen (m : Int) : Int := if m % 12 = 1 then (if m / 12 % 4 = 0 then (if m / 12 % 100 = 0 then (if m / 12 % 400 = 0 then 29 else 28) else 29) else 28) else if m % 12 = 3 ∨ m % 12 = 5 ∨ m % 12 = 8 ∨ m % 12 = 10 then 30 else 31
theorem cY_at {a b e r : Int} (ha : 0 ≤ a) (ha2 : a ≤ 3) (hb : 0 ≤ b) (hb2 : b ≤ 24) (he : 0 ≤ e) (he2 : e ≤ 3) (hr : 0 ≤ r) (hr2 : r ≤ 365) (h3 : r = 365 → e = 3 ∧ (b = 24 → a = 3)) : cY (36524 * a + 1461 * b + 365 * e + r) = 100 * a + 4 * b + e := by
  unfold cY
  obtain ⟨c, hc⟩ : ∃ c, c = 36524 * a + 1461 * b + 365 * e + r := ⟨_, rfl⟩
  rw [← hc]
  have h1 : c / 1460 = 25 * a + b ∧ 24 * a + b + 365 * e + r < 1460 ∨ c / 1460 = 25 * a + b + 1 ∧ 1460 ≤ 24 * a + b + 365 * e + r := by
    rcases Int.lt_or_le (24 * a + b + 365 * e + r) 1460 with q | q
    · exact Or.inl ⟨by omega, q⟩
    · exact Or.inr ⟨by omega, q⟩
  have h2 : c / 36524 = a ∧ c / 146096 = 0 ∨ c / 36524 = a + 1 ∧ c / 146096 = 1 := by
    by_cases q : c = 146096
    · exact Or.inr ⟨by omega, by omega⟩
    · refine Or.inl ⟨?_, by omega⟩
      by_cases qr : r = 365
      · obtain ⟨q1, q2⟩ := h3 qr
        by_cases qb : b = 24
        · have := q2 qb
          omega
        · omega
      · omega
  have h4 : c - c / 1460 + c / 36524 - c / 146096 = 365 * (100 * a + 4 * b + e) + r ∧ r < 365 ∨ c - c / 1460 + c / 36524 - c / 146096 = 365 * (100 * a + 4 * b + e) + r - 1 ∧ 1 ≤ r := by
    rcases h1 with ⟨q, q1⟩ | ⟨q, q1⟩ <;> rcases h2 with ⟨p, p1⟩ | ⟨p, p1⟩ <;> rw [q, p, p1]
    · refine Or.inl ⟨by omega, ?_⟩
      rcases Int.lt_or_le r 365 with g | g
      · exact g
      · have := h3 (by omega)
        omega
    · refine Or.inl ⟨by omega, ?_⟩
      rcases Int.lt_or_le r 365 with g | g
      · exact g
      · have := h3 (by omega)
        omega
    · exact Or.inr ⟨by omega, by omega⟩
    · exact Or.inr ⟨by omega, by omega⟩
  rcases h4 with ⟨q, q1⟩ | ⟨q, q1⟩ <;> rw [q] <;> omega
theorem c_dec {c : Int} (h0 : 0 ≤ c) (h1 : c < 146097) : ∃ a b e r : Int, 0 ≤ a ∧ a ≤ 3 ∧ 0 ≤ b ∧ b ≤ 24 ∧ 0 ≤ e ∧ e ≤ 3 ∧ 0 ≤ r ∧ r ≤ 365 ∧ (r = 365 → e = 3 ∧ (b = 24 → a = 3)) ∧ c = 36524 * a + 1461 * b + 365 * e + r := by
  by_cases ca : c = 146096
  · exact ⟨3, 24, 3, 365, by omega, by omega, by omega, by omega, by omega, by omega, by omega, by omega, fun _ => ⟨rfl, fun _ => rfl⟩, by omega⟩
  · by_cases ce : (c % 36524) % 1461 = 1460
    · exact ⟨c / 36524, c % 36524 / 1461, 3, 365, by omega, by omega, by omega, by omega, by omega, by omega, by omega, by omega, fun _ => ⟨rfl, fun q => by omega⟩, by omega⟩
    · exact ⟨c / 36524, c % 36524 / 1461, (c % 36524) % 1461 / 365, (c % 36524) % 1461 % 365, by omega, by omega, by omega, by omega, by omega, by omega, by omega, by omega, fun _ => by omega, by omega⟩
theorem cY_spec {c : Int} (h0 : 0 ≤ c) (h1 : c < 146097) : 0 ≤ cY c ∧ cY c ≤ 399 ∧ 0 ≤ cI c ∧ cI c ≤ 365 ∧ (cI c = 365 → cLeap (cY c + 1)) ∧ (cY c = 399 → cI c = c - 145731) := by
  obtain ⟨a, b, e, r, g1, g2, g3, g4, g5, g6, g7, g8, g9, rfl⟩ := c_dec h0 h1
  have hy := cY_at g1 g2 g3 g4 g5 g6 g7 g8 g9
  unfold cI cLeap
  rw [hy]
  unfold yB
  have q1 : (100 * a + 4 * b + e) / 4 = 25 * a + b := by omega
  have q2 : (100 * a + 4 * b + e) / 100 = a := by omega
  rw [q1, q2]
  refine ⟨by omega, by omega, by omega, by omega, fun q => ?_, fun q => by omega⟩
  have q3 := g9 (by omega)
  omega
theorem c_len (y : Int) : cLen (12 * y + 1) = if cLeap y then 29 else 28 := by
  unfold cLen cLeap
  rw [show (12 * y + 1) % 12 = 1 by omega, show (12 * y + 1) / 12 = y by omega, if_pos rfl]
  by_cases h4 : y % 4 = 0
  · rw [if_pos h4]
    by_cases h1 : y % 100 = 0
    · rw [if_pos h1]
      by_cases h5 : y % 400 = 0
      · rw [if_pos h5, if_pos ⟨h4, Or.inr h5⟩]
      · rw [if_neg h5, if_neg (by omega)]
    · rw [if_neg h1, if_pos ⟨h4, Or.inl h1⟩]
  · rw [if_neg h4, if_neg (by omega)]
theorem cLen_r (m : Int) : 28 ≤ cLen m ∧ cLen m ≤ 31 := by
  unfold cLen
  repeat' split
  all_goals decide
theorem cF_of {m : Int} (h0 : 0 ≤ m) (h1 : m < 4800) : (2 ≤ m ∧ cF m = m - 2) ∨ (m < 2 ∧ cF m = m + 4798) := by
  unfold cF
  omega
/-- a day lies in its month -/
theorem c_in {d : Int} (h0 : 0 ≤ d) (h1 : d < 146097) : 0 ≤ cMonth d ∧ cMonth d < 4800 ∧ cBegin (cMonth d) ≤ d ∧ d < cBegin (cMonth d) + cLen (cMonth d) := by
  have hc0 : 0 ≤ cC d := Int.emod_nonneg _ (by decide)
  have hc1 : cC d < 146097 := Int.emod_lt_of_pos _ (by decide)
  have hd : (60 ≤ d ∧ cC d = d - 60) ∨ (d < 60 ∧ cC d = d + 146037) := by unfold cC; omega
  obtain ⟨y0, y1, i0, i1, i2, i3⟩ := cY_spec hc0 hc1
  have hI : cC d = yB (cY (cC d)) + cI (cC d) := by unfold cI; omega
  have hy3 : yB 399 = 145731 := by decide
  have hyM : ∀ y : Int, 0 ≤ y → y ≤ 398 → yB y + 365 ≤ 145731 := by
    intro y q1 q2
    unfold yB
    omega
  unfold cMonth
  generalize cY (cC d) = y at *
  generalize cI (cC d) = i at *
  generalize cC d = c at *
  have hm : ∃ m, (5 * i + 2) / 153 = m ∧ 0 ≤ m ∧ m ≤ 11 := ⟨_, rfl, by omega, by omega⟩
  obtain ⟨m, hm, m0, m1⟩ := hm
  rw [hm]
  have hM : ((m ≤ 9 ∨ y ≤ 398) ∧ (y * 12 + m + 2) % 4800 = y * 12 + m + 2) ∨ (10 ≤ m ∧ y = 399 ∧ (y * 12 + m + 2) % 4800 = m - 10) := by omega
  have hF : cF ((y * 12 + m + 2) % 4800) = y * 12 + m := by
    unfold cF
    omega
  refine ⟨by omega, by omega, ?_⟩
  have hB : cBegin ((y * 12 + m + 2) % 4800) = (yB y + (153 * m + 2) / 5 + 60) % 146097 := by
    unfold cBegin
    rw [hF, show (y * 12 + m) / 12 = y by omega, show (y * 12 + m) % 12 = m by omega]
  rw [hB]
  have hyr : 0 ≤ yB y := by unfold yB; omega
  have hL : (m = 11 → cLen ((y * 12 + m + 2) % 4800) = if cLeap (y + 1) then 29 else 28) ∧ (m ≠ 11 → cLen ((y * 12 + m + 2) % 4800) = (153 * (m + 1) + 2) / 5 - (153 * m + 2) / 5) := by
    constructor
    · rintro rfl
      rcases hM with ⟨-, e⟩ | ⟨-, rfl, e⟩
      · rw [e, show y * 12 + 11 + 2 = 12 * (y + 1) + 1 by omega, c_len]
      · rw [e]
        decide
    · intro hn
      unfold cLen
      have hz : (y * 12 + m + 2) % 4800 % 12 = (m + 2) % 12 := by omega
      rw [hz]
      have hk : m = 0 ∨ m = 1 ∨ m = 2 ∨ m = 3 ∨ m = 4 ∨ m = 5 ∨ m = 6 ∨ m = 7 ∨ m = 8 ∨ m = 9 ∨ m = 10 := by omega
      rcases hk with rfl | rfl | rfl | rfl | rfl | rfl | rfl | rfl | rfl | rfl | rfl <;> rw [if_neg (by decide)] <;> decide
  have hi : (153 * m + 2) / 5 ≤ i ∧ (m ≠ 11 → i < (153 * (m + 1) + 2) / 5) := by
    have hk : m = 0 ∨ m = 1 ∨ m = 2 ∨ m = 3 ∨ m = 4 ∨ m = 5 ∨ m = 6 ∨ m = 7 ∨ m = 8 ∨ m = 9 ∨ m = 10 ∨ m = 11 := by omega
    rcases hk with rfl | rfl | rfl | rfl | rfl | rfl | rfl | rfl | rfl | rfl | rfl | rfl <;> omega
  have hlen : i - (153 * m + 2) / 5 < cLen ((y * 12 + m + 2) % 4800) := by
    by_cases e : m = 11
    · rw [hL.1 e]
      subst e
      by_cases hl : cLeap (y + 1)
      · rw [if_pos hl]
        omega
      · rw [if_neg hl]
        have : i ≠ 365 := fun q => hl (i2 q)
        omega
    · rw [hL.2 e]
      have := hi.2 e
      omega
  have hb : (yB y + (153 * m + 2) / 5 + 60) % 146097 = d - (i - (153 * m + 2) / 5) := by
    have hy399 := hyM y y0
    by_cases e : y = 399
    · subst e
      rw [hy3] at hI hyr ⊢
      omega
    · have := hy399 (by omega)
      omega
  rw [hb]
  omega
/-- each month begins where the one ahead of it ends -/
theorem yB_r {y : Int} (h0 : 0 ≤ y) (h1 : y ≤ 399) : 0 ≤ yB y ∧ yB y ≤ 145731 ∧ (y ≤ 398 → yB y ≤ 145366) := by
  unfold yB
  omega
theorem c_next {m : Int} (h0 : 0 ≤ m) (h1 : m < 4799) : cBegin (m + 1) = cBegin m + cLen m := by
  by_cases hm0 : m = 0
  · subst hm0
    decide
  by_cases hm1 : m = 1
  · subst hm1
    decide
  have hk : ∃ y n : Int, cF m = 12 * y + n ∧ 0 ≤ n ∧ n ≤ 11 ∧ 0 ≤ y ∧ y ≤ 399 := ⟨cF m / 12, cF m % 12, by omega, by omega, by omega, by unfold cF; omega, by unfold cF; omega⟩
  obtain ⟨y, n, hF, n0, n1, y0, y1⟩ := hk
  have hm := cF_of h0 (by omega : m < 4800)
  have hm2 := cF_of (by omega : 0 ≤ m + 1) (by omega : m + 1 < 4800)
  have hy := yB_r y0 y1
  have hbd : y ≤ 398 ∨ y = 399 ∧ n ≤ 8 := by omega
  have hq : (153 * n + 2) / 5 ≤ 337 ∧ 0 ≤ (153 * n + 2) / 5 ∧ (n ≤ 8 → (153 * n + 2) / 5 ≤ 245) := by omega
  have b1 : cBegin m = yB y + (153 * n + 2) / 5 + 60 := by
    unfold cBegin
    rw [hF, show (12 * y + n) / 12 = y by omega, show (12 * y + n) % 12 = n by omega, Int.emod_eq_of_lt (by omega) (by omega)]
  rw [b1]
  by_cases e11 : n = 11
  · subst e11
    have hF2 : cF (m + 1) = 12 * (y + 1) := by omega
    have hy2 := yB_r (show 0 ≤ y + 1 by omega) (by omega)
    have b2 : cBegin (m + 1) = yB (y + 1) + 60 := by
      unfold cBegin
      rw [hF2, show 12 * (y + 1) / 12 = y + 1 by omega, show 12 * (y + 1) % 12 = 0 by omega, show ((153 * 0 + 2) / 5 : Int) = 0 by decide, Int.add_zero, Int.emod_eq_of_lt (by omega) (by omega)]
    have e : m = 12 * (y + 1) + 1 := by omega
    rw [b2, e, c_len]
    have hl : yB (y + 1) = yB y + 337 + (if cLeap (y + 1) then 29 else 28) := by
      unfold yB cLeap
      split <;> omega
    omega
  · have hF2 : cF (m + 1) = 12 * y + (n + 1) := by omega
    have b2 : cBegin (m + 1) = yB y + (153 * (n + 1) + 2) / 5 + 60 := by
      unfold cBegin
      rw [hF2, show (12 * y + (n + 1)) / 12 = y by omega, show (12 * y + (n + 1)) % 12 = n + 1 by omega, Int.emod_eq_of_lt (by omega) (by omega)]
    rw [b2]
    unfold cLen
    have hz : m % 12 = (n + 2) % 12 := by omega
    rw [hz]
    clear b1 b2 hF hF2 hm hm2 hy hbd hz hq
    have hk : n = 0 ∨ n = 1 ∨ n = 2 ∨ n = 3 ∨ n = 4 ∨ n = 5 ∨ n = 6 ∨ n = 7 ∨ n = 8 ∨ n = 9 ∨ n = 10 := by omega
    rcases hk with rfl | rfl | rfl | rfl | rfl | rfl | rfl | rfl | rfl | rfl | rfl <;> rw [if_neg (by decide)] <;> first | (rw [if_pos (by decide)]; omega) | (rw [if_neg (by decide)]; omega)
theorem c_begin0 : cBegin 0 = 0 := by decide
theorem c_begin_r {m : Int} (h0 : 0 ≤ m) (h1 : m < 4800) : 0 ≤ cBegin m ∧ cBegin m < 146097 := ⟨Int.emod_nonneg _ (by decide), Int.emod_lt_of_pos _ (by decide)⟩
theorem c_mono_aux {m : Int} (h0 : 0 ≤ m) : ∀ n : Nat, m + 1 + n < 4800 → cBegin m + cLen m ≤ cBegin (m + 1 + n)
  | 0, h => by rw [show m + 1 + ((0 : Nat) : Int) = m + 1 by omega, c_next h0 (by omega)]; omega
  | n + 1, h => by
    have a := c_mono_aux h0 n (by omega)
    have b := c_next (m := m + 1 + n) (by omega) (by omega)
    have c := cLen_r (m + 1 + n)
    rw [show m + 1 + ((n + 1 : Nat) : Int) = m + 1 + n + 1 by omega, b]
    omega
theorem c_mono {m k : Int} (h0 : 0 ≤ m) (h : m < k) (h1 : k < 4800) : cBegin m + cLen m ≤ cBegin k := by
  have a := c_mono_aux h0 (k - m - 1).toNat (by omega)
  rw [show m + 1 + ((k - m - 1).toNat : Int) = k by omega] at a
  exact a
/-- the month of a day is the one that holds it -/
theorem c_uniq {m d : Int} (h0 : 0 ≤ m) (h1 : m < 4800) (hd0 : cBegin m ≤ d) (hd1 : d < cBegin m + cLen m) (hd : d < 146097) : cMonth d = m := by
  have hb := c_begin_r h0 h1
  obtain ⟨a, b, c, e⟩ := c_in (by omega : 0 ≤ d) hd
  rcases Int.lt_trichotomy (cMonth d) m with g | g | g
  · have := c_mono a g h1
    omega
  · exact g
  · have := c_mono h0 g b
    omega
theorem c_end {m : Int} (h0 : 0 ≤ m) (h1 : m < 4800) : cBegin m + cLen m ≤ 146097 := by
  have hl : cBegin 4799 + cLen 4799 = 146097 := by decide
  by_cases e : m = 4799
  · subst e; omega
  · have := c_mono h0 (by omega : m < 4799) (by omega)
    have := cLen_r 4799
    omega
theorem c_month_mono {d e : Int} (h0 : 0 ≤ d) (h : d ≤ e) (h1 : e < 146097) : cMonth d ≤ cMonth e := by
  obtain ⟨a1, b1, c1, e1⟩ := c_in h0 (by omega : d < 146097)
  obtain ⟨a2, b2, c2, e2⟩ := c_in (by omega : 0 ≤ e) h1
  rcases Int.lt_or_le (cMonth e) (cMonth d) with g | g
  · have := c_mono a2 g b1
    omega
  · exact g
end
