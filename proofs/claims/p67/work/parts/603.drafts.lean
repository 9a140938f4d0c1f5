/-! draft 603.lawleast2 -/
section
/-! ===== the law's least is the least ===== -/
section LLT
variable {O : Nat → Option va_E} {f m n rc : Nat} {M N : xM} {A : List Int} {lo hi fd : Int}
theorem LQ.un (h : LQ M m n rc fd lo hi A) (hm : m ≤ 12) (u : Un (fun a => a ≠ rc) M N) : LQ N m n rc fd lo hi A ∧ (∀ i, i < A.length → lnA N A i = lnA M A i) ∧ (∀ i j, i < A.length → j < A.length → (shr N A i j ↔ shr M A i j)) := by
  obtain ⟨h1, h2, h3, h4, h5, h6, h7, h8⟩ := h
  have iv : ∀ b j, b < 1044 → iV N b j = iV M b j := fun b j hb => u.i (by (try dsimp only); omega)
  have hrn : ∀ y, y ∈ A → rN y < 12 ∧ (rN y).toNat < 12 := fun y hy => by
    have := h2.b h1 hm hy
    omega
  refine ⟨⟨h1.un hm u (h1.1.un u (by (try dsimp only); omega) (fun j hj => by (try dsimp only); omega)) (fun a p q => by (try dsimp only); omega), h2.of h1 hm (fun b j p q => iv b j (by omega)), h3.sm u.1, h4.kp h3 u.kp (fun a p q => by (try dsimp only); omega) (fun a p q => by (try dsimp only); omega) (fun y hy => (hrn y hy).1), h5.un u, h6, h7, h8⟩, fun i hi => ?_, fun i j hi hj => ?_⟩
  · have := (hrn _ (getD_mem hi)).2
    unfold lnA
    rw [iv _ _ (by omega)]
  · have a1 := (hrn _ (getD_mem hi)).2
    have a2 := (hrn _ (getD_mem hj)).2
    unfold shr tp
    simp (disch := omega) only [iv]
theorem least_ok (h : LQ M m n rc fd lo hi A) (hm : m ≤ 12) (l0 : 10000 ≤ lo) (l2 : hi ≤ 150000000) {a b : Int} (a0 : 0 ≤ a) (a1 : a ≤ 1000000000) (b0 : 0 ≤ b) (b1 : b ≤ 1000000000) (hf : 400 ≤ f) : ∀ (r t k : Nat) (N : xM), k + r = A.length → r < t → Un (fun a => a ≠ rc) M N → (∀ i, i < k → 0 ≤ iV N rc i ∧ iV N rc i ≤ 1000000000) → ∃ v N', f_Law_least O f t 1 n rc (k : Int) a b N = some (v, N') ∧ Un (fun a => a ≠ rc) M N' ∧ (∀ i, i < k → iV N' rc i = iV N rc i) ∧ lst (CPl (fun i => rM (A.getD i 0)) (lnA M A) (shr M A) a b r k (fun i => iV N rc i)) v ∧ -1 ≤ v ∧ v ≤ 120 * r := by
  intro r
  induction r with
  | zero =>
    intro t k N hk ht u hg
    obtain ⟨t, rfl⟩ : ∃ n', t = n' + 1 := ⟨t - 1, by omega⟩
    obtain rfl : k = A.length := by omega
    obtain ⟨hN, -, -⟩ := h.un hm u
    refine ⟨0, N, ?_, u, fun i hi => rfl, Or.inr ⟨rfl, fun c q => ?_⟩, by omega, by omega⟩
    · show (gJ O N n 13 4).bind _ = _
      rw [hN.2.2.1.gJ, hN.2.2.2.1.1, eq_T rfl]
    · have : c = 0 := q
      omega
  | succ r ih =>
    intro t k N hk ht u hg
    obtain ⟨t, rfl⟩ : ∃ n', t = n' + 1 := ⟨t - 1, by omega⟩
    have hl := h.2.2.2.2.2.1
    have kz : ((k : Int)).toNat = k := by omega
    have hkA : k < A.length := by omega
    have bk := h.2.1.b h.1 hm (getD_mem hkA)
    obtain ⟨bb, ebb⟩ : ∃ bb : Nat → Int, bb = fun i => rM (A.getD i 0) := ⟨_, rfl⟩
    have ebk : bb k = rM (A.getD k 0) := by rw [ebb]
    -- all moves from y on
    have key : ∀ (s q : Nat) (y v : Int) (P : xM), s < q → y = 30 * s - 150 → s ≤ 9 → Un (fun a => a ≠ rc) M P → (∀ i, i < k → iV P rc i = iV N rc i) → lst (seen bb (lnA M A) (shr M A) a b r k (fun i => iV N rc i) (fun z => y < z)) v → -1 ≤ v → v ≤ 120 * (r + 1 : Nat) → ∃ v' N', f_Law_least_17 O f (f_Law_least O f t) q 1 n rc (k : Int) a b v y P = some (v', N') ∧ Un (fun a => a ≠ rc) M N' ∧ (∀ i, i < k → iV N' rc i = iV N rc i) ∧ lst (seen bb (lnA M A) (shr M A) a b r k (fun i => iV N rc i) (fun _ => True)) v' ∧ -1 ≤ v' ∧ v' ≤ 120 * (r + 1 : Nat) := by
      intro s
      induction s with
      | zero =>
        intro q y v P hq hy hs uP eP hv v0 v1
        obtain ⟨q, rfl⟩ : ∃ n', q = n' + 1 := ⟨q - 1, by omega⟩
        refine ⟨v, P, ?_, uP, eP, ?_, v0, v1⟩
        · show (if yw y < yw (-120) then _ else _) = _
          rw [lt_T (by omega) (by omega) (by omega)]
        · have e : ∀ c, seen bb (lnA M A) (shr M A) a b r k (fun i => iV N rc i) (fun _ => True) c ↔ seen bb (lnA M A) (shr M A) a b r k (fun i => iV N rc i) (fun z => y < z) c := fun c => ⟨fun ⟨z, z1, _, z3⟩ => ⟨z, z1, by have := mvs_b z1; omega, z3⟩, fun ⟨z, z1, _, z3⟩ => ⟨z, z1, trivial, z3⟩⟩
          rcases hv with ⟨h1, h2⟩ | ⟨h1, h2⟩
          · exact Or.inl ⟨h1, fun c w => h2 c ((e c).mp w)⟩
          · exact Or.inr ⟨(e v).mpr h1, fun c w => h2 c ((e c).mp w)⟩
      | succ s ihs =>
        intro q y v P hq hy hs uP eP hv v0 v1
        obtain ⟨q, rfl⟩ : ∃ n', q = n' + 1 := ⟨q - 1, by omega⟩
        obtain ⟨hP, lnP, shP⟩ := h.un hm uP
        have gk := hP.2.2.2.1.2.2 k hkA
        have ym : y ∈ mvs := mvs_iff.mpr ⟨by omega, by omega, by omega⟩
        have hqq : ∀ z, z ∈ mvs → ((fun z => y + -30 < z) z ↔ (fun z => y < z) z ∨ z = y) := fun z hz => by
          have := mvs_iff.mp hz
          show y + -30 < z ↔ y < z ∨ z = y
          omega
        have u1 : Un (fun a => a ≠ rc) M (iS P rc k (rM (A.getD k 0) + y)) := uP.iS (fun w => w rfl)
        obtain ⟨h1, ln1, sh1⟩ := h.un hm u1
        have rd : iV (iS P rc k (rM (A.getD k 0) + y)) rc k = rM (A.getD k 0) + y := iV_s (by omega) (by omega)
        have eP1 : ∀ i, i < k → iV (iS P rc k (rM (A.getD k 0) + y)) rc i = iV N rc i := fun i hi => by
          rw [iV_o (Or.inr (by omega))]
          exact eP i hi
        have gup : ∀ i, i < k + 1 → iV (iS P rc k (rM (A.getD k 0) + y)) rc i = ups (fun i => iV N rc i) k (bb k + y) i := fun i hi => by
          unfold ups
          by_cases z : i = k
          · rw [if_pos z, z, rd, ebk]
          · rw [if_neg z]
            exact eP1 i (by omega)
        generalize hP1 : iS P rc k (rM (A.getD k 0) + y) = P1 at u1 h1 ln1 sh1 rd eP1 gup
        -- going on without this move
        have no : ∀ Q : xM, Un (fun a => a ≠ rc) M Q → (∀ i, i < k → iV Q rc i = iV N rc i) → ¬ (a ≤ bb k + y ∧ bb k + y < b ∧ ¬ hin (lnA M A) (shr M A) (ups (fun i => iV N rc i) k (bb k + y)) k ∧ ∃ c', CPl bb (lnA M A) (shr M A) a b r (k + 1) (ups (fun i => iV N rc i) k (bb k + y)) c') → ∃ v' N', f_Law_least_17 O f (f_Law_least O f t) q 1 n rc (k : Int) a b v (y + -30) Q = some (v', N') ∧ Un (fun a => a ≠ rc) M N' ∧ (∀ i, i < k → iV N' rc i = iV N rc i) ∧ lst (seen bb (lnA M A) (shr M A) a b r k (fun i => iV N rc i) (fun _ => True)) v' ∧ -1 ≤ v' ∧ v' ≤ 120 * (r + 1 : Nat) := fun Q uQ eQ hn => ihs q (y + -30) v Q (by omega) (by omega) (by omega) uQ eQ (lst_no hv hqq hn) v0 v1
        have st : f_Law_least_17 O f (f_Law_least O f t) (q + 1) 1 n rc (k : Int) a b v y P = if a ≤ bb k + y ∧ bb k + y < b then f_Law_least_61 O f (f_Law_least_17 O f (f_Law_least O f t) q) (f_Law_least O f t) f 1 n rc (k : Int) a b v y 1 0 P1 else f_Law_least_17 O f (f_Law_least O f t) q 1 n rc (k : Int) a b v (y + -30) P1 := by
          have st2 : f_Law_least_17 O f (f_Law_least O f t) (q + 1) 1 n rc (k : Int) a b v y P = if yw (bb k + y) < yw a then f_Law_least_17 O f (f_Law_least O f t) q 1 n rc (k : Int) a b v (y + -30) P1 else (aJ O P1 rc (k : Int)).bind fun x4 => if yw x4 < yw b then f_Law_least_61 O f (f_Law_least_17 O f (f_Law_least O f t) q) (f_Law_least O f t) f 1 n rc (k : Int) a b v y 1 0 P1 else f_Law_least_17 O f (f_Law_least O f t) q 1 n rc (k : Int) a b v (y + -30) P1 := by
            show (if yw y < yw (-120) then _ else _) = _
            rw [lt_F (by omega) (by omega) (by omega), hP.2.2.1.gR (j := 2) (by decide), hP.2.2.1.aJ (j := 2) (by decide) (by omega) (by omega), kz, show n + 1 + 2 = n + 3 by omega, gk.2.2.1, hP.2.2.2.2.1.wJ (by omega) (by omega), kz, hP1, h1.2.2.2.2.1.aJ (by omega) (by omega), kz, rd, ebk]
          rw [st2]
          by_cases g1 : bb k + y < a
          · rw [lt_T g1 (by omega) (by omega), if_neg (by omega)]
          · rw [lt_F (by omega) (by omega) (by omega), h1.2.2.2.2.1.aJ (by omega) (by omega), kz, rd, ← ebk]
            by_cases g2 : bb k + y < b
            · rw [lt_T g2 (by omega) (by omega), if_pos ⟨by omega, g2⟩]
            · rw [lt_F (by omega) (by omega) (by omega), if_neg (by omega)]
        rw [st]
        by_cases g : a ≤ bb k + y ∧ bb k + y < b
        · rw [if_pos g]
          have gb : ∀ i, i < k + 1 → 0 ≤ iV P1 rc i ∧ iV P1 rc i ≤ 1000000000 := fun i hi => by
            by_cases z : i = k
            · rw [z, rd, ← ebk]
              omega
            · rw [eP1 i (by omega)]
              exact hg i (by omega)
          obtain ⟨c', e61, c0, ci⟩ := lw_61 (O := O) (f := f) (K := f_Law_least_17 O f (f_Law_least O f t) q) (KS := f_Law_least O f t) (v4 := a) (v5 := b) (v6 := v) (v7 := y) h1 hm hkA (fun i hi => gb i (by omega)) (by omega) k f 0 1 (by omega) (by omega) (Or.inr rfl)
          rw [show ((0 : Nat) : Int) = 0 from rfl] at e61
          have hh : c' = 1 ↔ ¬ hin (lnA M A) (shr M A) (ups (fun i => iV N rc i) k (bb k + y)) k := by
            refine ci.trans ⟨fun z w => ?_, fun z => ⟨rfl, fun i _ i2 w => z ?_⟩⟩
            · obtain ⟨j, j1, j2, j3, j4⟩ := w
              rw [← gup j (by omega), ← gup k (by omega)] at j2
              rw [← gup j (by omega), ← gup k (by omega)] at j3
              rw [← ln1 k hkA] at j2
              rw [← ln1 j (by omega)] at j3
              exact z.2 j (by omega) j1 ⟨j2, j3, (sh1 j k (by omega) hkA).mpr j4⟩
            · obtain ⟨w1, w2, w3⟩ := w
              rw [ln1 k hkA, gup i (by omega), gup k (by omega)] at w1
              rw [ln1 i (by omega), gup i (by omega), gup k (by omega)] at w2
              exact ⟨i, i2, w1, w2, (sh1 i k (by omega) hkA).mp w3⟩
          rw [e61]
          unfold f_Law_least_183
          rcases c0 with rfl | rfl
          · rw [eq_T rfl]
            exact no P1 u1 eP1 (fun w => by
              have := hh.mpr w.2.2.1
              omega)
          · obtain ⟨w, N1, ew, uw, pw, lw, w0, w1⟩ := ih t (k + 1) P1 (by omega) (by omega) u1 gb
            rw [← ebb] at lw
            rw [show ((k + 1 : Nat) : Int) = (k : Int) + 1 by omega] at ew
            have eN1 : ∀ i, i < k → iV N1 rc i = iV N rc i := fun i hi => by rw [pw i (by omega), eP1 i hi]
            rw [eq_F (by omega) (by omega) (by omega) (by omega) (by omega), ew, xcl_e]
            have cx : ∀ c, CPl bb (lnA M A) (shr M A) a b r (k + 1) (fun i => iV P1 rc i) c ↔ CPl bb (lnA M A) (shr M A) a b r (k + 1) (ups (fun i => iV N rc i) k (bb k + y)) c := fun c => ⟨CPl.ext r (k + 1) _ _ c gup, CPl.ext r (k + 1) _ _ c (fun i hi => (gup i hi).symm)⟩
            rcases lw with ⟨rfl, lw⟩ | ⟨lw, lw2⟩
            · rw [eq_T rfl]
              exact no N1 uw eN1 (fun z => by
                obtain ⟨c', z4⟩ := z.2.2.2
                exact lw c' ((cx c').mpr z4))
            · have wp := (CPl.pos r (k + 1) _ w lw).1
              have ly := lst_yes hv ym hqq g.1 g.2 (hh.mp rfl) ((cx w).mp lw) (fun c q => lw2 c ((cx c).mpr q))
              have ya := mvs_b ym
              rw [eq_F (by omega) (by omega) (by omega) (by omega) (by omega)]
              have t231 : (v = -1 ∨ w + (y.natAbs : Int) < v) → ∃ v' N', f_Law_least_231 O f (f_Law_least_17 O f (f_Law_least O f t) q) 1 n rc (k : Int) a b y w N1 = some (v', N') ∧ Un (fun a => a ≠ rc) M N' ∧ (∀ i, i < k → iV N' rc i = iV N rc i) ∧ lst (seen bb (lnA M A) (shr M A) a b r k (fun i => iV N rc i) (fun _ => True)) v' ∧ -1 ≤ v' ∧ v' ≤ 120 * (r + 1 : Nat) := fun z => by
                rw [if_pos z] at ly
                unfold f_Law_least_231
                rw [e_abs (by omega) (by omega), xcl_e]
                exact ihs q (y + -30) (w + (y.natAbs : Int)) N1 (by omega) (by omega) (by omega) uw eN1 ly (by omega) (by omega)
              by_cases g3 : v = -1
              · rw [eq_T g3]
                exact t231 (Or.inl g3)
              · rw [eq_F g3 (by omega) (by omega) (by omega) (by omega), e_abs (by omega) (by omega), xcl_e]
                by_cases g4 : v ≤ w + (y.natAbs : Int)
                · rw [le_T g4 (by omega) (by omega)]
                  rw [if_neg (by omega)] at ly
                  exact ihs q (y + -30) v N1 (by omega) (by omega) (by omega) uw eN1 ly v0 v1
                · rw [le_F (by omega) (by omega) (by omega)]
                  exact t231 (Or.inr (by omega))
        · rw [if_neg g]
          exact no P1 u1 eP1 (fun z => g ⟨z.1, z.2.1⟩)
    obtain ⟨v', N', e', u', p', l', w0, w1⟩ := key 9 f 120 (-1) N (by omega) (by omega) (by omega) u (fun i hi => rfl) (Or.inl ⟨rfl, fun c ⟨z, z1, z2, _⟩ => by
      have := mvs_b z1
      dsimp only at z2
      omega⟩) (by omega) (by omega)
    obtain ⟨hN, -, -⟩ := h.un hm u
    refine ⟨v', N', ?_, u', p', ?_, w0, w1⟩
    · show (gJ O N n 13 4).bind _ = _
      rw [hN.2.2.1.gJ, hN.2.2.2.1.1, eq_F (by omega) (by omega) (by omega) (by omega) (by omega)]
      exact e'
    · rw [ebb] at l'
      rcases l' with ⟨h1, h2⟩ | ⟨h1, h2⟩
      · exact Or.inl ⟨h1, fun c w => h2 c (seen_all.mpr w)⟩
      · exact Or.inr ⟨seen_all.mp h1, fun c w => h2 c (seen_all.mpr w)⟩
end LLT
end
/-! draft 604.hindered -/
section
/-! ===== the class's hindrance ===== -/
section HND
variable {O : Nat → Option va_E} {f : Nat} {M : xM}
/-- together with one ahead, and somebody in both -/
def hnC (M : xM) (k : Nat) : Prop := ∃ j, j < k ∧ iV M 132 j < iV M 132 k + iV M 129 k ∧ iV M 132 k < iV M 132 j + iV M 129 j ∧ jand (iV M 130 j) (iV M 130 k) ≠ 0
theorem isHindered_ok (w : Wd M) {k : Nat} (hk : k < 5) (ht : ∀ i, i ≤ k → 0 ≤ iV M 132 i ∧ iV M 132 i ≤ 1000000000) (hl : ∀ i, i ≤ k → 0 ≤ iV M 129 i ∧ iV M 129 i ≤ 600) (hj : ∀ i j, -2147483648 ≤ jand (iV M 130 i) (iV M 130 j) ∧ jand (iV M 130 i) (iV M 130 j) ≤ 2147483647) (hf : 10 ≤ f) : (f_Planner_isHindered O f 127 (k : Int) M = some (1, M) ∧ hnC M k) ∨ (f_Planner_isHindered O f 127 (k : Int) M = some (0, M) ∧ ¬ hnC M k) := by
  have kz : ((k : Int)).toNat = k := by omega
  have key : ∀ (r t j : Nat), j + r = k → r < t → (∀ i, i < j → ¬ (iV M 132 i < iV M 132 k + iV M 129 k ∧ iV M 132 k < iV M 132 i + iV M 129 i ∧ jand (iV M 130 i) (iV M 130 k) ≠ 0)) → (f_Planner_isHindered_13 O f t 127 (k : Int) (j : Int) M = some (1, M) ∧ hnC M k) ∨ (f_Planner_isHindered_13 O f t 127 (k : Int) (j : Int) M = some (0, M) ∧ ¬ hnC M k) := by
    intro r
    induction r with
    | zero =>
      intro t j hjk ht' hn
      obtain ⟨t, rfl⟩ : ∃ n', t = n' + 1 := ⟨t - 1, by omega⟩
      obtain rfl : j = k := by omega
      refine Or.inr ⟨?_, fun ⟨i, i1, i2⟩ => hn i i1 i2⟩
      show (if yw (j : Int) ≤ yw (j : Int) then _ else _) = _
      rw [le_T (by omega) (by omega) (by omega)]
    | succ r ih =>
      intro t j hjk ht' hn
      obtain ⟨t, rfl⟩ : ∃ n', t = n' + 1 := ⟨t - 1, by omega⟩
      have jz : ((j : Int)).toNat = j := by omega
      have tj := ht j (by omega)
      have tk := ht k (by omega)
      have lj := hl j (by omega)
      have lk := hl k (by omega)
      have jj := hj j k
      have nxt : ¬ (iV M 132 j < iV M 132 k + iV M 129 k ∧ iV M 132 k < iV M 132 j + iV M 129 j ∧ jand (iV M 130 j) (iV M 130 k) ≠ 0) → (f_Planner_isHindered_13 O f t 127 (k : Int) ((j : Int) + 1) M = some (1, M) ∧ hnC M k) ∨ (f_Planner_isHindered_13 O f t 127 (k : Int) ((j : Int) + 1) M = some (0, M) ∧ ¬ hnC M k) := fun g => by
        have q := ih t (j + 1) (by omega) (by omega) (fun i hi => by
          by_cases z : i = j
          · rw [z]
            exact g
          · exact hn i (by omega))
        rw [show ((j + 1 : Nat) : Int) = (j : Int) + 1 by omega] at q
        exact q
      have st : f_Planner_isHindered_13 O f (t + 1) 127 (k : Int) (j : Int) M = if iV M 132 j < iV M 132 k + iV M 129 k ∧ iV M 132 k < iV M 132 j + iV M 129 j ∧ jand (iV M 130 j) (iV M 130 k) ≠ 0 then some (1, M) else f_Planner_isHindered_13 O f t 127 (k : Int) ((j : Int) + 1) M := by
        show (if yw (k : Int) ≤ yw (j : Int) then _ else _) = _
        rw [le_F (by omega) (by omega) (by omega), a_Planner_tried w, r_Planner_tried w (by omega) (by omega), a_Planner_tried w, r_Planner_tried w (by omega) (by omega), a_Planner_lengths w, r_Planner_lengths w (by omega) (by omega), jz, kz]
        unfold f_Planner_isHindered_66 f_Planner_isHindered_67
        by_cases g1 : iV M 132 k + iV M 129 k ≤ iV M 132 j
        · rw [le_T g1 (by omega) (by omega), eq_T rfl, if_neg (by omega)]
        · rw [le_F (by omega) (by omega) (by omega), a_Planner_tried w, r_Planner_tried w (by omega) (by omega), a_Planner_tried w, r_Planner_tried w (by omega) (by omega), a_Planner_lengths w, r_Planner_lengths w (by omega) (by omega), jz, kz]
          by_cases g2 : iV M 132 j + iV M 129 j ≤ iV M 132 k
          · rw [le_T g2 (by omega) (by omega), eq_T rfl, if_neg (by omega)]
          · rw [le_F (by omega) (by omega) (by omega), eq_F (by omega) (by omega) (by omega) (by omega) (by omega), a_Planner_takers w, r_Planner_takers w (by omega) (by omega), a_Planner_takers w, r_Planner_takers w (by omega) (by omega), jz, kz]
            by_cases g3 : jand (iV M 130 j) (iV M 130 k) = 0
            · rw [eq_T g3, if_neg (fun z => z.2.2 g3)]
            · rw [eq_F g3 (by omega) (by omega) (by omega) (by omega), if_pos ⟨by omega, by omega, g3⟩]
      rw [st]
      by_cases g : iV M 132 j < iV M 132 k + iV M 129 k ∧ iV M 132 k < iV M 132 j + iV M 129 j ∧ jand (iV M 130 j) (iV M 130 k) ≠ 0
      · rw [if_pos g]
        exact Or.inl ⟨rfl, j, by omega, g⟩
      · rw [if_neg g]
        exact nxt g
  have e : f_Planner_isHindered O f 127 (k : Int) M = f_Planner_isHindered_13 O f f 127 (k : Int) 0 M := by
    unfold f_Planner_isHindered
    rw [lt_F (by omega) (by omega) (by omega), lt_T (by omega) (by omega) (by omega)]
  rw [e]
  exact key k f 0 (by omega) (by omega) (fun i hi => absurd hi (Nat.not_lt_zero _))
end HND
end
/-! draft 605.keeptried -/
section
/-! ===== the best plan kept ===== -/
section KPT
variable {O : Nat → Option va_E} {f : Nat} {M : xM}
theorem isEarlier_ok (w : Wd M) {n : Nat} (hn : iV M 127 1 = n) (hn5 : n ≤ 5) (hf : 10 ≤ f) : ∃ x, f_Planner_isEarlier O f 127 M = some (x, M) ∧ (x = 0 ∨ x = 1) := by
  have key : ∀ (r t j : Nat), j + r = n → r < t → ∃ x, f_Planner_isEarlier_2 O f t 127 (j : Int) M = some (x, M) ∧ (x = 0 ∨ x = 1) := by
    intro r
    induction r with
    | zero =>
      intro t j hj ht
      obtain ⟨t, rfl⟩ : ∃ n', t = n' + 1 := ⟨t - 1, by omega⟩
      obtain rfl : j = n := by omega
      refine ⟨0, ?_, Or.inl rfl⟩
      show (gJ O M 127 7 1).bind _ = _
      rw [a_Planner_count w, hn, le_T (by omega) (by omega) (by omega)]
    | succ r ih =>
      intro t j hj ht
      obtain ⟨t, rfl⟩ : ∃ n', t = n' + 1 := ⟨t - 1, by omega⟩
      have jz : ((j : Int)).toNat = j := by omega
      have r1 := iV_r M 132 j
      have r2 := iV_r M 131 j
      have q := ih t (j + 1) (by omega) (by omega)
      rw [show ((j + 1 : Nat) : Int) = (j : Int) + 1 by omega] at q
      show ∃ x, (gJ O M 127 7 1).bind _ = some (x, M) ∧ _
      rw [a_Planner_count w, hn, le_F (by omega) (by omega) (by omega), le_F (by omega) (by omega) (by omega), a_Planner_tried w, r_Planner_tried w (by omega) (by omega), a_Planner_begins w, r_Planner_begins w (by omega) (by omega), jz]
      by_cases g : iV M 132 j = iV M 131 j
      · rw [eq_T g]
        exact q
      · rw [eq_F g (by omega) (by omega) (by omega) (by omega), a_Planner_tried w, r_Planner_tried w (by omega) (by omega), a_Planner_begins w, r_Planner_begins w (by omega) (by omega), jz]
        by_cases g2 : iV M 131 j ≤ iV M 132 j
        · rw [le_T g2 (by omega) (by omega)]
          exact ⟨0, rfl, Or.inl rfl⟩
        · rw [le_F (by omega) (by omega) (by omega)]
          exact ⟨1, rfl, Or.inr rfl⟩
  exact key n f 0 (by omega) (by omega)
/-- a valid plan of this cost is kept, or one of the same cost stays -/
theorem keepTried_ok (w : Wd M) {n : Nat} {c : Int} (hn : iV M 127 1 = n) (hn5 : n ≤ 5) (c0 : 0 ≤ c) (c1 : c ≤ 1000000) (hf : 10 ≤ f) : ∃ M', f_Planner_keepTried O f 127 c M = some ((), M') ∧ Un (fun a => a ≠ 127 ∧ a ≠ 131) M M' ∧ (∀ j, j ≠ 8 → iV M' 127 j = iV M 127 j) ∧ iV M' 127 8 = c ∧ ((∀ i, i < 5 → iV M' 131 i = iV M 132 i) ∨ (iV M 127 8 = c ∧ ∀ i, iV M' 131 i = iV M 131 i)) := by
  have r8 := iV_r M 127 8
  have u1 : Un (fun a => a ≠ 127 ∧ a ≠ 131) M (iS M 127 8 c) := Un.rf.iS (by (try dsimp only); omega)
  have w1 := u1.wd w
  have s2 : shp 132 = .inr (0, 5) := by decide
  have s1 : shp 131 = .inr (0, 5) := by decide
  have put : ∃ M', f_Planner_keepTried_24 O f 127 c M = some ((), M') ∧ Un (fun a => a ≠ 127 ∧ a ≠ 131) M M' ∧ (∀ j, j ≠ 8 → iV M' 127 j = iV M 127 j) ∧ iV M' 127 8 = c ∧ ((∀ i, i < 5 → iV M' 131 i = iV M 132 i) ∨ (iV M 127 8 = c ∧ ∀ i, iV M' 131 i = iV M 131 i)) := by
    refine ⟨cS (iS M 127 8 c) 132 0 131 0 5, ?_, u1.cS (by (try dsimp only); omega), fun j hj => ?_, ?_, Or.inl (fun i hi => ?_)⟩
    · unfold f_Planner_keepTried_24
      rw [p_Planner_bestCost w, a_Planner_tried w1, a_Planner_begins w1, z_cS (n0 := 5) (n1 := 5) (w1.b (by decide)) (w1.b (by decide)) ((w1.s (by decide)).trans s2) ((w1.s (by decide)).trans s1) (by omega) (by omega) (by omega) (by omega) (by omega) (by decide) (by decide)]
      rfl
    · rw [iV_co (Or.inl (by omega)), iV_o (Or.inr hj)]
    · rw [iV_co (Or.inl (by omega)), iV_s (by omega) (by omega)]
    · rw [iV_cs (by omega) (by omega), iV_o (Or.inl (by omega)), show 0 + (i - 0) = i by omega]
  unfold f_Planner_keepTried
  rw [a_Planner_bestCost w]
  by_cases g : iV M 127 8 = -1
  · rw [eq_T g]
    exact put
  · rw [eq_F g (by omega) (by omega) (by omega) (by omega), a_Planner_bestCost w]
    by_cases g2 : c = iV M 127 8
    · obtain ⟨x, ex, hx⟩ := isEarlier_ok (O := O) (f := f) w hn hn5 hf
      rw [eq_T g2, a_Planner_is w, ex, xcl_e]
      rcases hx with rfl | rfl
      · rw [eq_T rfl]
        exact ⟨M, rfl, Un.rf, fun j _ => rfl, g2.symm, Or.inr ⟨g2.symm, fun i => rfl⟩⟩
      · rw [eq_F (by omega) (by omega) (by omega) (by omega) (by omega)]
        exact put
    · rw [eq_F g2 (by omega) (by omega) (by omega) (by omega)]
      exact put
end KPT
end
/-! draft 606.moves -/
section
/-! ===== the moves' row, an old object ===== -/
/-- what the machine's old heap holds at the moves' place (to be shown when all is put together) -/
def MV (O : Nat → Option va_E) : Prop := ∀ M : xM, M.1 ≤ 500000000 → aJN O M 1000000001 = some 9 ∧ ∀ i : Nat, i < 9 → aJ O M 1000000001 (i : Int) = some (mvs.getD i 0)
section MVS
variable {O : Nat → Option va_E} {M : xM} {γ : Type}
theorem MV.n (h : MV O) (w : Wd M) {A : Int → Option γ} : (aJN O M 1000000001).bind A = A 9 := by
  rw [(h M w.2.1).1]
  rfl
theorem MV.at (h : MV O) (w : Wd M) {i : Nat} (hi : i < 9) {A : Int → Option γ} : (aJ O M 1000000001 (i : Int)).bind A = A (mvs.getD i 0) := by
  rw [(h M w.2.1).2 i hi]
  rfl
theorem mvs_mem {i : Nat} (h : i < 9) : mvs.getD i 0 ∈ mvs := getD_mem h
theorem mvs_up : ∀ j : Nat, j < 9 → ∀ i : Nat, i < j → (mvs.getD i 0).natAbs ≤ (mvs.getD j 0).natAbs := by decide
theorem mvs_ix {y : Int} (h : y ∈ mvs) : ∃ i, i < 9 ∧ mvs.getD i 0 = y := mem_getD h
theorem mvs_one : ∀ j : Nat, j < 9 → ∀ i : Nat, i < 9 → mvs.getD i 0 = mvs.getD j 0 → i = j := by decide
end MVS
end
/-! draft 607.fill -/
section
/-! ===== the planner filled ===== -/
def PP (a : Nat) : Prop := a < 127 ∨ 130 < a
section PFL
variable {O : Nat → Option va_E} {f m : Nat} {M N : xM} {A : List Int} {lo hi fd : Int}
/-- a filled place -/
def PF1 (M N : xM) (A : List Int) (i : Nat) : Prop := lV N 128 i = A.getD i 0 ∧ iV N 129 i = lnA M A i ∧ ∃ y : Nat, iV N 130 i = (y : Int) ∧ y < 256 ∧ ∀ q : Nat, q < 8 → (y / 2 ^ q % 2 = 1 ↔ tp M (rN (A.getD i 0)).toNat q)
theorem fill_14 (h : SR M m fd) (hm : m ≤ 12) (a : AL M m lo hi A) (d : DL M A) (h5 : A.length ≤ 5) (hlen : ∀ x, x ∈ A → iV M 118 (rN x).toNat = iV M (29 + 6 * (rN x).toNat) 3) (hf : 30 ≤ f) : ∀ (r t k : Nat) (N : xM), k + r = A.length → r < t → Un PP M N → iV N 127 1 = A.length → (∀ j, j ≠ 1 → iV N 127 j = iV M 127 j) → (∀ i, i < k → PF1 M N A i) → ∃ N', f_Planner_fill_14 O f t 127 116 2 (k : Int) N = some ((), N') ∧ Un PP M N' ∧ iV N' 127 1 = A.length ∧ (∀ j, j ≠ 1 → iV N' 127 j = iV M 127 j) ∧ ∀ i, i < A.length → PF1 M N' A i := by
  intro r
  induction r with
  | zero =>
    intro t k N hk ht u hn ho hp
    obtain ⟨t, rfl⟩ : ∃ n', t = n' + 1 := ⟨t - 1, by omega⟩
    obtain rfl : k = A.length := by omega
    refine ⟨N, ?_, u, hn, ho, hp⟩
    show (gJ O N 127 7 1).bind _ = _
    rw [a_Planner_count (u.wd h.1.1), hn, le_T (by omega) (by omega) (by omega)]
  | succ r ih =>
    intro t k N hk ht u hn ho hp
    obtain ⟨t, rfl⟩ : ∃ n', t = n' + 1 := ⟨t - 1, by omega⟩
    have kz : ((k : Int)).toNat = k := by omega
    have wN := u.wd h.1.1
    have dN : DL N A := d.un u (by unfold PP; omega)
    have hma := getD_mem (L := A) (i := k) (by omega)
    have b := a.b h hm hma
    have hx := d.2.2.2.2 _ hma
    have s := h.2.2.1 _ b.2.1
    have u1 : Un PP M (lS N 128 k (A.getD k 0)) := u.lS (by unfold PP; omega)
    have w1 := u1.wd h.1.1
    have d1 : DL _ A := d.un u1 (by unfold PP; omega)
    have l1 : lV (lS N 128 k (A.getD k 0)) 128 k = A.getD k 0 := lV_s (by omega) (by omega)
    have o1 : ∀ i, i ≠ k → lV (lS N 128 k (A.getD k 0)) 128 i = lV N 128 i := fun i hi => lV_o (Or.inr hi)
    have v1 : ∀ a j, iV (lS N 128 k (A.getD k 0)) a j = iV N a j := fun _ _ => rfl
    generalize hN1 : lS N 128 k (A.getD k 0) = N1 at u1 w1 d1 l1 o1 v1
    have len1 : iV N1 118 (rN (A.getD k 0)).toNat = lnA M A k := by
      rw [u1.i (show PP 118 by unfold PP; omega), hlen _ hma]
      rfl
    have lb : 1 ≤ lnA M A k ∧ lnA M A k ≤ 600 := ⟨b.2.2.2.2.1, b.2.2.2.2.2.1⟩
    have u2 : Un PP M (iS N1 129 k (lnA M A k)) := u1.iS (by unfold PP; omega)
    have w2 := u2.wd h.1.1
    have l2 : ∀ i, lV (iS N1 129 k (lnA M A k)) 128 i = lV N1 128 i := fun _ => rfl
    have g2 : iV (iS N1 129 k (lnA M A k)) 129 k = lnA M A k := iV_s (by omega) (by omega)
    have o2 : ∀ a j, a ≠ 129 ∨ j ≠ k → iV (iS N1 129 k (lnA M A k)) a j = iV N1 a j := fun a j q => iV_o q
    generalize hN2 : iS N1 129 k (lnA M A k) = N2 at u2 w2 l2 g2 o2
    have c4 : ∀ j, iV N2 (29 + 6 * (rN (A.getD k 0)).toNat) j = iV M (29 + 6 * (rN (A.getD k 0)).toNat) j := fun j => u2.i (show PP (29 + 6 * (rN (A.getD k 0)).toNat) by unfold PP; omega)
    have c33 : ∀ j, iV N2 (33 + 6 * (rN (A.getD k 0)).toNat) j = iV M (33 + 6 * (rN (A.getD k 0)).toNat) j := fun j => u2.i (show PP (33 + 6 * (rN (A.getD k 0)).toNat) by unfold PP; omega)
    obtain ⟨p0, p1⟩ := s.1.2.2.2.2.1
    obtain ⟨y, ey, y0, y1⟩ := takers_ok (O := O) (f := f) (M := N2) (k := (rN (A.getD k 0)).toNat) w2 (by omega) (by rw [c4]; exact p0) (by rw [c4]; exact p1) (by omega)
    have y2 : ∀ q : Nat, q < 8 → (y / 2 ^ q % 2 = 1 ↔ tp M (rN (A.getD k 0)).toNat q) := fun q hq => by
      rw [y1 q hq]
      unfold tp
      rw [c4, c33]
    have u3 : Un PP M (iS N2 130 k (y : Int)) := u2.iS (by unfold PP; omega)
    obtain ⟨N', e', z⟩ := ih t (k + 1) (iS N2 130 k (y : Int)) (by omega) (by omega) u3 (by
      rw [iV_o (Or.inl (by omega)), o2 _ _ (Or.inl (by omega)), v1]
      exact hn) (fun j hj => by
      rw [iV_o (Or.inl (by omega)), o2 _ _ (Or.inl (by omega)), v1]
      exact ho j hj) (fun i hi => by
      by_cases q : i = k
      · rw [q]
        refine ⟨?_, ?_, y, iV_s (by omega) (by omega), y0, y2⟩
        · exact (l2 k).trans l1
        · rw [iV_o (Or.inl (by omega))]
          exact g2
      · obtain ⟨r1, r2, yy, r3, r4, r5⟩ := hp i (by omega)
        refine ⟨?_, ?_, yy, ?_, r4, r5⟩
        · exact ((l2 i).trans (o1 i q)).trans r1
        · rw [iV_o (Or.inl (by omega)), o2 _ _ (Or.inr q), v1]
          exact r2
        · rw [iV_o (Or.inr q), o2 _ _ (Or.inl (by omega)), v1]
          exact r3)
    rw [show ((k + 1 : Nat) : Int) = (k : Int) + 1 by omega] at e'
    refine ⟨N', ?_, z⟩
    show (gJ O N 127 7 1).bind _ = _
    rw [a_Planner_count wN, hn, le_F (by omega) (by omega) (by omega), le_F (by omega) (by omega) (by omega), a_Planner_rows wN, a_Dates_is wN, dN.at wN (by omega) (by omega), xcl_e, kz, w_Planner_rows wN (by omega) (by omega), kz, hN1, a_Planner_lengths w1, a_Dates_is w1, d1.len w1 (by omega) (by omega), xcl_e, kz, len1, w_Planner_lengths w1 (by omega) (by omega), kz, hN2, a_Planner_takers w2, a_Planner_rows w2, r_Planner_rows w2 (by omega) (by omega), kz, l2, l1, xc_of (e_numberOf hx.1 hx.2), a_Hall_is w2, e_anySeries w2 (by omega) (by omega), xcl_e, a_Series_is w2 (by omega), ey, xcl_e, w_Planner_takers w2 (by omega) (by omega), kz]
    exact e'
theorem fill_ok (h : SR M m fd) (hm : m ≤ 12) (a : AL M m lo hi A) (d : DL M A) (h5 : A.length ≤ 5) (hlen : ∀ x, x ∈ A → iV M 118 (rN x).toNat = iV M (29 + 6 * (rN x).toNat) 3) (hf : 30 ≤ f) : ∃ N', f_Planner_fill O f 127 116 2 M = some ((), N') ∧ Un PP M N' ∧ iV N' 127 1 = A.length ∧ (∀ j, j ≠ 1 → iV N' 127 j = iV M 127 j) ∧ ∀ i, i < A.length → PF1 M N' A i := by
  have w := h.1.1
  obtain ⟨N', e', z⟩ := fill_14 (O := O) (f := f) h hm a d h5 hlen hf A.length f 0 (iS M 127 1 (A.length : Int)) (by omega) (by omega) (Un.rf.iS (by unfold PP; omega)) (iV_s (by omega) (by omega)) (fun j hj => iV_o (Or.inr hj)) (fun i hi => absurd hi (Nat.not_lt_zero _))
  refine ⟨N', ?_, z⟩
  unfold f_Planner_fill
  rw [a_Dates_count w, d.1, e_min (by omega) (by omega) (by omega) (by omega), xcl_e, show min (A.length : Int) 5 = A.length by omega, p_Planner_count w]
  exact e'
end PFL
end
/-! draft 608.search -/
section
/-! ===== the search for the least plan ===== -/
section SRC
variable {b ln : Nat → Int} {tk : Nat → Nat → Prop} {lo hi : Int}
/-- the cost of a prefix -/
def smc (b g : Nat → Int) : Nat → Int
  | 0 => 0
  | n + 1 => smc b g n + ((g n - b n).natAbs : Int)
/-- a valid prefix -/
def VP (b ln : Nat → Int) (tk : Nat → Nat → Prop) (lo hi : Int) (k : Nat) (g : Nat → Int) : Prop := ∀ i, i < k → g i - b i ∈ mvs ∧ lo ≤ g i ∧ g i < hi ∧ ¬ hin ln tk g i
theorem smc_ext {g g' : Nat → Int} : ∀ {n : Nat}, (∀ i, i < n → g i = g' i) → smc b g n = smc b g' n
  | 0, _ => rfl
  | n + 1, h => by
    show smc b g n + _ = smc b g' n + _
    rw [smc_ext (n := n) (fun i hi => h i (by omega)), h n (by omega)]
theorem smc_0 {g : Nat → Int} : ∀ {n : Nat}, VP b ln tk lo hi n g → 0 ≤ smc b g n ∧ smc b g n ≤ 120 * n
  | 0, _ => ⟨Int.le_refl _, Int.le_refl _⟩
  | n + 1, h => by
    have q := smc_0 (n := n) (fun i hi => h i (by omega))
    have m := mvs_b (h n (by omega)).1
    show 0 ≤ smc b g n + _ ∧ smc b g n + _ ≤ _
    omega
theorem hin_ext {g g' : Nat → Int} {k : Nat} (h : ∀ i, i < k + 1 → g i = g' i) (q : hin ln tk g k) : hin ln tk g' k := by
  obtain ⟨j, j1, j2, j3, j4⟩ := q
  rw [h j (by omega), h k (by omega)] at j2 j3
  exact ⟨j, j1, j2, j3, j4⟩
theorem VP.ext {g g' : Nat → Int} {k : Nat} (h : ∀ i, i < k → g i = g' i) (v : VP b ln tk lo hi k g) : VP b ln tk lo hi k g' := fun i hi => by
  obtain ⟨v1, v2, v3, v4⟩ := v i hi
  rw [← h i hi]
  exact ⟨v1, v2, v3, fun q => v4 (hin_ext (fun j hj => (h j (by omega)).symm) q)⟩
theorem ups_k {g : Nat → Int} {k : Nat} {x : Int} : ups g k x k = x := if_pos rfl
theorem ups_o {g : Nat → Int} {k i : Nat} {x : Int} (h : i ≠ k) : ups g k x i = g i := if_neg h
theorem ups_same {g : Nat → Int} {k : Nat} : ups g k (g k) = g := by
  funext i
  unfold ups
  by_cases h : i = k
  · rw [if_pos h, h]
  · rw [if_neg h]
theorem VP.step {g : Nat → Int} {k : Nat} {y : Int} (v : VP b ln tk lo hi k g) (hy : y ∈ mvs) (h1 : lo ≤ b k + y) (h2 : b k + y < hi) (h3 : ¬ hin ln tk (ups g k (b k + y)) k) : VP b ln tk lo hi (k + 1) (ups g k (b k + y)) := fun i hi' => by
  by_cases e : i = k
  · subst e
    rw [ups_k]
    exact ⟨by rw [show b i + y - b i = y by omega]; exact hy, h1, h2, h3⟩
  · exact (VP.ext (fun j hj => (ups_o (by omega)).symm) v : VP b ln tk lo hi k (ups g k (b k + y))) i (by omega)
theorem smc_step {g : Nat → Int} {k : Nat} {y : Int} : smc b (ups g k (b k + y)) (k + 1) = smc b g k + (y.natAbs : Int) := by
  show smc b (ups g k (b k + y)) k + _ = _
  rw [ups_k, show b k + y - b k = y by omega, smc_ext (g' := g) (fun i hi => ups_o (by omega))]
/-- a valid plan is a completion -/
theorem VP.cpl {g : Nat → Int} {n : Nat} (v : VP b ln tk lo hi n g) : ∀ r k, k + r = n → CPl b ln tk lo hi r k g (smc b g n - smc b g k)
  | 0, k, h => by
    obtain rfl : k = n := by omega
    show smc b g k - smc b g k = 0
    omega
  | r + 1, k, h => by
    obtain ⟨v1, v2, v3, v4⟩ := v k (by omega)
    have e : b k + (g k - b k) = g k := by omega
    have q := VP.cpl v r (k + 1) (by omega)
    refine ⟨g k - b k, v1, by omega, by omega, ?_, smc b g n - smc b g (k + 1), ?_, ?_⟩
    · rw [e, ups_same]
      exact v4
    · rw [e, ups_same]
      exact q
    · show _ = smc b g n - (smc b g k + _) + _
      omega
end SRC
/-- so many turns are enough -/
def fu : Nat → Nat
  | 0 => 0
  | r + 1 => 9 * (1 + fu r) + 1
/-- the moves from a place of the row on -/
def mfr (c : Nat) (y : Int) : Prop := ∃ i, c ≤ i ∧ i < 9 ∧ mvs.getD i 0 = y
def PS (a : Nat) : Prop := a ≠ 127 ∧ a ≠ 131 ∧ a ≠ 132 ∧ a ≠ 133
/-- what stays while a plan is sought -/
def SF (M N : xM) : Prop := Un PS M N ∧ ∀ j, j ≠ 8 → iV N 127 j = iV M 127 j
/-- the planner's rows -/
def SC (b ln : Nat → Int) (tk : Nat → Nat → Prop) (n : Nat) (M : xM) : Prop := Wd M ∧ iV M 127 1 = n ∧ n ≤ 5 ∧ (∀ i, i < n → 0 ≤ lV M 128 i ∧ lV M 128 i < 9000000000000000 ∧ rM (lV M 128 i) = b i ∧ iV M 129 i = ln i ∧ 1000 ≤ b i ∧ b i ≤ 900000000 ∧ 0 ≤ ln i ∧ ln i ≤ 600) ∧ ∀ i j, i < n → j < n → (jand (iV M 130 i) (iV M 130 j) ≠ 0 ↔ tk i j)
/-- the best so far -/
def BK (b ln : Nat → Int) (tk : Nat → Nat → Prop) (lo hi : Int) (n : Nat) (N : xM) (v : Int) : Prop := iV N 127 8 = v ∧ (v = -1 ∨ (VP b ln tk lo hi n (iV N 131) ∧ smc b (iV N 131) n = v))
section SRC2
variable {O : Nat → Option va_E} {f n : Nat} {M N : xM} {b ln : Nat → Int} {tk : Nat → Nat → Prop} {lo hi : Int}
theorem jand_r (x y : Int) : -2147483648 ≤ jand x y ∧ jand x y ≤ 2147483647 := yr_of _
theorem plCount_ok (w : Wd N) (h : iV N 127 1 = n) (h5 : n ≤ 5) : f_Planner_count O f 127 N = some ((n : Int), N) := by
  unfold f_Planner_count
  rw [a_Planner_count w, h, e_min (by omega) (by omega) (by omega) (by omega), xcl_e, e_max (by omega) (by omega) (by omega) (by omega), xcl_e, show max 0 (min (n : Int) 5) = (n : Int) by omega]
theorem SF.cn (h : SF M N) (s : SC b ln tk n M) : iV N 127 1 = n := by rw [h.2 1 (by decide), s.2.1]
theorem SF.w (h : SF M N) (s : SC b ln tk n M) : Wd N := h.1.wd s.1
theorem SF.row (h : SF M N) (s : SC b ln tk n M) {i : Nat} (hi : i < n) : 0 ≤ lV N 128 i ∧ lV N 128 i < 9000000000000000 ∧ rM (lV N 128 i) = b i ∧ iV N 129 i = ln i := by
  have q := s.2.2.2.1 i hi
  rw [h.1.l (show PS 128 by unfold PS; omega), h.1.i (show PS 129 by unfold PS; omega)]
  exact ⟨q.1, q.2.1, q.2.2.1, q.2.2.2.1⟩
theorem SF.tkk (h : SF M N) (s : SC b ln tk n M) {i j : Nat} (hi : i < n) (hj : j < n) : jand (iV N 130 i) (iV N 130 j) ≠ 0 ↔ tk i j := by
  rw [h.1.i (show PS 130 by unfold PS; omega), h.1.i (show PS 130 by unfold PS; omega)]
  exact s.2.2.2.2 i j hi hj
theorem SF.hin (h : SF M N) (s : SC b ln tk n M) {k : Nat} (hk : k < n) {g : Nat → Int} (hg : ∀ i, i < k + 1 → iV N 132 i = g i) : hnC N k ↔ hin ln tk g k := by
  constructor
  · rintro ⟨j, j1, j2, j3, j4⟩
    rw [hg j (by omega), hg k (by omega), (h.row s hk).2.2.2] at j2
    rw [hg j (by omega), hg k (by omega), (h.row s (i := j) (by omega)).2.2.2] at j3
    exact ⟨j, j1, j2, j3, (h.tkk s (by omega) hk).mp j4⟩
  · rintro ⟨j, j1, j2, j3, j4⟩
    refine ⟨j, j1, ?_, ?_, (h.tkk s (by omega) hk).mpr j4⟩
    · rw [hg j (by omega), hg k (by omega), (h.row s hk).2.2.2]
      exact j2
    · rw [hg j (by omega), hg k (by omega), (h.row s (i := j) (by omega)).2.2.2]
      exact j3
theorem SF.iS {a j : Nat} {x : Int} (h : SF M N) (ha : a = 131 ∨ a = 132 ∨ a = 133) : SF M (iS N a j x) := by
  refine ⟨h.1.iS (by unfold PS; omega), fun i hi => ?_⟩
  rw [iV_o (Or.inl (by omega))]
  exact h.2 i hi
end SRC2
end
/-! draft 609.search2 -/
section
/-! ===== one turn of the search ===== -/
section SRT
variable {O : Nat → Option va_E} {f n k c : Nat} {M N : xM} {b ln : Nat → Int} {tk : Nat → Nat → Prop} {lo hi T C y : Int} {g : Nat → Int} {K : Nat → Int → Int → Int → Int → Int → xM → Option (Int × xM)}
theorem up_ok (s : SC b ln tk n M) (u : SF M N) (hk : k < n) (hg : ∀ i, i < k → iV N 132 i = g i) (hv : VP b ln tk lo hi k g) : f_Planner_search_124 O f K 127 lo hi (k : Int) (smc b g k) T N = K 127 lo hi ((k : Int) + -1) (smc b g (k - 1)) (T + 1) N := by
  have w := u.w s
  have n5 := s.2.2.1
  unfold f_Planner_search_124
  cases k with
  | zero =>
    rw [lt_T (by omega) (by omega) (by omega)]
  | succ k =>
    have r := u.row s (i := k) (by omega)
    have q := s.2.2.2.1 k (by omega)
    have m := mvs_b (hv k (by omega)).1
    have kz : (((k + 1 : Nat) : Int) + -1).toNat = k := by omega
    rw [lt_F (by omega) (by omega) (by omega), a_Planner_tried w, r_Planner_tried w (by omega) (by omega), a_Planner_rows w, r_Planner_rows w (by omega) (by omega), kz, xc_of (e_minuteOf r.1 r.2.1), r.2.2.1, hg k (by omega), xc_of (e_abs (by omega) (by omega))]
    show K 127 lo hi _ (smc b g k + _ - _) _ N = _
    rw [show smc b g k + ((g k - b k).natAbs : Int) - ((g k - b k).natAbs : Int) = smc b g k by omega]
    rfl
theorem s92_ok (s : SC b ln tk n M) (u : SF M N) (hy : y ∈ mvs) (c0 : 0 ≤ C) (c1 : C ≤ 1000000) {v6 : Int} : f_Planner_search_92 O f K 127 lo hi (k : Int) C T v6 y N = if iV N 127 8 ≠ -1 ∧ iV N 127 8 < C + (y.natAbs : Int) then f_Planner_search_124 O f K 127 lo hi (k : Int) C T N else f_Planner_search_158 O f K 127 lo hi (k : Int) C T v6 y N := by
  have w := u.w s
  have m := mvs_b hy
  have r8 := iV_r N 127 8
  unfold f_Planner_search_92
  rw [eq_F (by omega) (by omega) (by omega) (by omega) (by omega), a_Planner_bestCost w]
  by_cases h1 : iV N 127 8 = -1
  · rw [eq_T h1, if_neg (fun q => q.1 h1)]
  · rw [eq_F h1 (by omega) (by omega) (by omega) (by omega), xc_of (e_abs (by omega) (by omega)), a_Planner_bestCost w]
    by_cases h2 : C + (y.natAbs : Int) ≤ iV N 127 8
    · rw [le_T h2 (by omega) (by omega), if_neg (fun q => by omega)]
    · rw [le_F (by omega) (by omega) (by omega), if_pos ⟨h1, by omega⟩]
/-- what is written as a move is tried -/
def tN (N : xM) (k c : Nat) (x : Int) : xM := iS (iS N 133 k ((c : Int) + 1)) 132 k x
theorem tN_u {x : Int} (u : SF M N) : SF M (tN N k c x) := (u.iS (Or.inr (Or.inr rfl))).iS (Or.inr (Or.inl rfl))
theorem tN_k {x : Int} (h0 : -2147483648 ≤ x) (h1 : x ≤ 2147483647) : iV (tN N k c x) 132 k = x := iV_s h0 h1
theorem tN_o {x : Int} {i : Nat} (h : i ≠ k) : iV (tN N k c x) 132 i = iV N 132 i := by
  unfold tN
  rw [iV_o (Or.inr h), iV_o (Or.inl (by omega))]
theorem tN_c {x : Int} (hc : c < 100) : iV (tN N k c x) 133 k = (c : Int) + 1 := by
  unfold tN
  rw [iV_o (Or.inl (by omega)), iV_s (by omega) (by omega)]
theorem tN_co {x : Int} {i : Nat} (h : i ≠ k) : iV (tN N k c x) 133 i = iV N 133 i := by
  unfold tN
  rw [iV_o (Or.inl (by omega)), iV_o (Or.inr h)]
theorem tN_x {x : Int} {a i : Nat} (h : a ≠ 132 ∧ a ≠ 133) : iV (tN N k c x) a i = iV N a i := by
  unfold tN
  rw [iV_o (Or.inl h.1), iV_o (Or.inl h.2)]
theorem tN_g {x : Int} (h0 : -2147483648 ≤ x) (h1 : x ≤ 2147483647) (hg : ∀ i, i < k → iV N 132 i = g i) : ∀ i, i < k + 1 → iV (tN N k c x) 132 i = ups g k x i := fun i hi => by
  by_cases e : i = k
  · rw [e, tN_k h0 h1, ups_k]
  · rw [tN_o e, ups_o e, hg i (by omega)]
/-- the begin of 158 -/
theorem s158_in {dp : Decidable (lo ≤ b k + y ∧ b k + y < hi ∧ ¬ hin ln tk (ups g k (b k + y)) k)} (s : SC b ln tk n M) (u : SF M N) (hk : k < n) (hy : y ∈ mvs) (hc : c < 9) (hg : ∀ i, i < k → iV N 132 i = g i) (hv : VP b ln tk lo hi k g) (l0 : -1000000000 ≤ lo) (l1 : lo ≤ 1000000000) (i0 : -1000000000 ≤ hi) (i1 : hi ≤ 1000000000) (hf : 10 ≤ f) : f_Planner_search_158 O f K 127 lo hi (k : Int) C T (c : Int) y N = if lo ≤ b k + y ∧ b k + y < hi ∧ ¬ hin ln tk (ups g k (b k + y)) k then (if yw (k : Int) = yw ((n : Int) - 1) then (xcl (f_Math_abs O f y (tN N k c (b k + y))) fun x12 M6 => (isO O M6 127 7).bind fun _ => xcl (f_Planner_keepTried O f 127 (C + x12) M6) fun _ M7 => K 127 lo hi (k : Int) C (T + 1) M7) else if yw 5 ≤ yw ((k : Int) + 1) then K 127 lo hi (k : Int) C (T + 1) (tN N k c (b k + y)) else xcl (f_Math_abs O f y (tN N k c (b k + y))) fun x14 M8 => (gR O M8 127 7 7).bind fun x15 => (wJ M8 x15 ((k : Int) + 1) 0).bind fun M9 => K 127 lo hi ((k : Int) + 1) (C + x14) (T + 1) M9) else K 127 lo hi (k : Int) C (T + 1) (tN N k c (b k + y)) := by
  have w := u.w s
  have n5 := s.2.2.1
  have q := s.2.2.2.1 k hk
  have r := u.row s hk
  have m := mvs_b hy
  have kz : ((k : Int)).toNat = k := by omega
  have u1 : SF M (iS N 133 k ((c : Int) + 1)) := u.iS (Or.inr (Or.inr rfl))
  have w1 := u1.w s
  have r1 := u1.row s hk
  have u2 : SF M (tN N k c (b k + y)) := tN_u u
  have w2 := u2.w s
  have tk' : iV (tN N k c (b k + y)) 132 k = b k + y := tN_k (by omega) (by omega)
  have tg := tN_g (c := c) (N := N) (x := b k + y) (by omega) (by omega) hg
  unfold f_Planner_search_158
  rw [a_Planner_choices w, w_Planner_choices w (by omega) (by omega), kz, a_Planner_tried w1, a_Planner_rows w1, r_Planner_rows w1 (by omega) (by omega), kz, xc_of (e_minuteOf r1.1 r1.2.1), r1.2.2.1, w_Planner_tried w1 (by omega) (by omega), kz]
  rw [show iS (iS N 133 k ((c : Int) + 1)) 132 k (b k + y) = tN N k c (b k + y) from rfl, a_Planner_tried w2, r_Planner_tried w2 (by omega) (by omega), kz, tk']
  by_cases h1 : b k + y < lo
  · rw [lt_T h1 (by omega) (by omega), if_neg (fun z => by omega)]
  · rw [lt_F (by omega) (by omega) (by omega), a_Planner_tried w2, r_Planner_tried w2 (by omega) (by omega), kz, tk']
    by_cases h2 : hi ≤ b k + y
    · rw [le_T h2 (by omega) (by omega), if_neg (fun z => by omega)]
    · have hb : ∀ i, i ≤ k → 0 ≤ iV (tN N k c (b k + y)) 132 i ∧ iV (tN N k c (b k + y)) 132 i ≤ 1000000000 := fun i hi' => by
        rw [tg i (by omega)]
        by_cases e : i = k
        · rw [e, ups_k]
          omega
        · rw [ups_o e]
          have v1 := mvs_b (hv i (by omega)).1
          have q1 := s.2.2.2.1 i (by omega)
          omega
      have hl : ∀ i, i ≤ k → 0 ≤ iV (tN N k c (b k + y)) 129 i ∧ iV (tN N k c (b k + y)) 129 i ≤ 600 := fun i hi' => by
        rw [(u2.row s (i := i) (by omega)).2.2.2]
        have q1 := s.2.2.2.1 i (by omega)
        omega
      rw [le_F (by omega) (by omega) (by omega), a_Planner_is w2]
      rcases isHindered_ok (O := O) (f := f) w2 (k := k) (by omega) hb hl (fun i j => jand_r _ _) hf with ⟨e, z⟩ | ⟨e, z⟩
      · rw [e, xcl_e, eq_F (by omega) (by omega) (by omega) (by omega) (by omega), if_neg (fun z2 => z2.2.2 ((u2.hin s hk tg).mp z))]
      · have yes : lo ≤ b k + y ∧ b k + y < hi ∧ ¬ hin ln tk (ups g k (b k + y)) k := ⟨by omega, by omega, fun z2 => z ((u2.hin s hk tg).mpr z2)⟩
        rw [e, xcl_e, eq_T rfl, a_Planner_is w2, plCount_ok w2 (u2.cn s) n5, xcl_e, if_pos yes]
theorem s158_no (s : SC b ln tk n M) (u : SF M N) (hk : k < n) (hy : y ∈ mvs) (hc : c < 9) (hg : ∀ i, i < k → iV N 132 i = g i) (hv : VP b ln tk lo hi k g) (l0 : -1000000000 ≤ lo) (l1 : lo ≤ 1000000000) (i0 : -1000000000 ≤ hi) (i1 : hi ≤ 1000000000) (hf : 10 ≤ f) (h : ¬ (lo ≤ b k + y ∧ b k + y < hi ∧ ¬ hin ln tk (ups g k (b k + y)) k)) : f_Planner_search_158 O f K 127 lo hi (k : Int) C T (c : Int) y N = K 127 lo hi (k : Int) C (T + 1) (tN N k c (b k + y)) := by
  rw [s158_in (dp := Classical.propDecidable _) s u hk hy hc hg hv l0 l1 i0 i1 hf, if_neg h]
theorem s158_on (s : SC b ln tk n M) (u : SF M N) (hk : k + 1 < n) (hy : y ∈ mvs) (hc : c < 9) (hg : ∀ i, i < k → iV N 132 i = g i) (hv : VP b ln tk lo hi k g) (l0 : -1000000000 ≤ lo) (l1 : lo ≤ 1000000000) (i0 : -1000000000 ≤ hi) (i1 : hi ≤ 1000000000) (hf : 10 ≤ f) (h : lo ≤ b k + y ∧ b k + y < hi ∧ ¬ hin ln tk (ups g k (b k + y)) k) : f_Planner_search_158 O f K 127 lo hi (k : Int) C T (c : Int) y N = K 127 lo hi ((k : Int) + 1) (C + (y.natAbs : Int)) (T + 1) (iS (tN N k c (b k + y)) 133 (k + 1) 0) := by
  have u2 : SF M (tN N k c (b k + y)) := tN_u u
  have w2 := u2.w s
  have n5 := s.2.2.1
  have m := mvs_b hy
  rw [s158_in (dp := Classical.propDecidable _) s u (by omega) hy hc hg hv l0 l1 i0 i1 hf, if_pos h, eq_F (by omega) (by omega) (by omega) (by omega) (by omega), le_F (by omega) (by omega) (by omega), xc_of (e_abs (by omega) (by omega)), a_Planner_choices w2, w_Planner_choices w2 (by omega) (by omega), show ((k : Int) + 1).toNat = k + 1 by omega]
theorem s158_leaf (s : SC b ln tk n M) (u : SF M N) (hk : k + 1 = n) (hy : y ∈ mvs) (hc : c < 9) (hg : ∀ i, i < k → iV N 132 i = g i) (hv : VP b ln tk lo hi k g) (l0 : -1000000000 ≤ lo) (l1 : lo ≤ 1000000000) (i0 : -1000000000 ≤ hi) (i1 : hi ≤ 1000000000) (hf : 10 ≤ f) (h : lo ≤ b k + y ∧ b k + y < hi ∧ ¬ hin ln tk (ups g k (b k + y)) k) {v : Int} (hb : BK b ln tk lo hi n N v) : ∃ N3, f_Planner_search_158 O f K 127 lo hi (k : Int) (smc b g k) T (c : Int) y N = K 127 lo hi (k : Int) (smc b g k) (T + 1) N3 ∧ SF M N3 ∧ (∀ i, iV N3 132 i = iV (tN N k c (b k + y)) 132 i) ∧ (∀ i, iV N3 133 i = iV (tN N k c (b k + y)) 133 i) ∧ BK b ln tk lo hi n N3 (smc b g k + (y.natAbs : Int)) := by
  have u2 : SF M (tN N k c (b k + y)) := tN_u u
  have w2 := u2.w s
  have n5 := s.2.2.1
  have m := mvs_b hy
  have q := s.2.2.2.1 k (by omega)
  have cb := smc_0 hv
  have tg := tN_g (c := c) (N := N) (x := b k + y) (by omega) (by omega) hg
  obtain ⟨N3, e, z1, z2, z3, z4⟩ := keepTried_ok (O := O) (f := f) w2 (c := smc b g k + (y.natAbs : Int)) (u2.cn s) n5 (by omega) (by omega) hf
  refine ⟨N3, ?_, ⟨u2.1.tr (z1.le (fun a q => by unfold PS at q; omega)), fun j hj => (z2 j hj).trans (u2.2 j hj)⟩, fun i => z1.i (by (try dsimp only); omega), fun i => z1.i (by (try dsimp only); omega), z3, Or.inr ?_⟩
  · rw [s158_in (dp := Classical.propDecidable _) s u (by omega) hy hc hg hv l0 l1 i0 i1 hf, if_pos h, eq_T (by omega), xc_of (e_abs (by omega) (by omega)), a_Planner_is w2, e, xcl_e]
  · rcases z4 with z4 | ⟨z4, z5⟩
    · have e1 : ∀ i, i < k + 1 → ups g k (b k + y) i = iV N3 131 i := fun i hi' => by rw [z4 i (by omega), tg i hi']
      constructor
      · rw [← hk]
        exact VP.ext e1 (hv.step hy h.1 h.2.1 h.2.2)
      · rw [← hk, ← smc_ext e1, smc_step]
    · rcases hb.2 with g2 | g2
      · exfalso
        have a1 := hb.1
        rw [tN_x (by omega)] at z4
        omega
      · have e1 : ∀ i, i < n → iV N 131 i = iV N3 131 i := fun i hi' => by rw [z5 i, tN_x (by omega)]
        have a1 := hb.1
        rw [tN_x (by omega)] at z4
        exact ⟨VP.ext e1 g2.1, by rw [← smc_ext e1, g2.2]; omega⟩
end SRT
end
/-! draft 610.search3 -/
section
/-! ===== the search as a whole ===== -/
def GO (O : Nat → Option va_E) (f : Nat) (M : xM) (n : Nat) (b ln : Nat → Int) (tk : Nat → Nat → Prop) (lo hi : Int) (r k : Nat) : Prop := ∀ (d c t : Nat) (T v : Int) (g : Nat → Int) (N : xM), c + d = 9 → SF M N → iV N 133 k = c → (∀ i, i < k → iV N 132 i = g i) → VP b ln tk lo hi k g → BK b ln tk lo hi n N v → 0 ≤ T → T + ((d * (1 + fu r) + 1 : Nat) : Int) ≤ 200000 → d * (1 + fu r) + 1 < t → ∃ (e : Nat) (N' : xM) (v' : Int), f_Planner_search_43 O f t 127 lo hi (k : Int) (smc b g k) T N = f_Planner_search_43 O f (t - e) 127 lo hi ((k : Int) + -1) (smc b g (k - 1)) (T + (e : Int)) N' ∧ e ≤ d * (1 + fu r) + 1 ∧ SF M N' ∧ (∀ i, i < k → iV N' 132 i = g i) ∧ (∀ i, i < k → iV N' 133 i = iV N 133 i) ∧ BK b ln tk lo hi n N' v' ∧ (v ≠ -1 → v' ≠ -1 ∧ v' ≤ v) ∧ ∀ c0, seen b ln tk lo hi r k g (mfr c) c0 → v' ≠ -1 ∧ v' ≤ smc b g k + c0
section SRM
variable {O : Nat → Option va_E} {f n k r : Nat} {M N : xM} {b ln : Nat → Int} {tk : Nat → Nat → Prop} {lo hi T C : Int} {g : Nat → Int}
theorem o43 (s : SC b ln tk n M) (mv : MV O) (u : SF M N) (hk : k < n) {t c : Nat} (hT0 : 0 ≤ T) (hT : T < 200000) (hc : iV N 133 k = c) (h9 : c < 9) : f_Planner_search_43 O f (t + 1) 127 lo hi (k : Int) C T N = f_Planner_search_92 O f (f_Planner_search_43 O f t) 127 lo hi (k : Int) C T (c : Int) (mvs.getD c 0) N := by
  have w := u.w s
  have n5 := s.2.2.1
  have kz : ((k : Int)).toNat = k := by omega
  show (if yw 200000 ≤ yw T then _ else _) = _
  rw [le_F (by omega) (by omega) (by omega), lt_F (by omega) (by omega) (by omega), le_F (by omega) (by omega) (by omega), a_Planner_choices w, r_Planner_choices w (by omega) (by omega), kz, hc, lt_F (by omega) (by omega) (by omega), mv.n w, le_F (by omega) (by omega) (by omega), mv.at w h9]
theorem o43_9 (s : SC b ln tk n M) (mv : MV O) (u : SF M N) (hk : k < n) {t : Nat} (hT0 : 0 ≤ T) (hT : T < 200000) (hc : iV N 133 k = 9) : f_Planner_search_43 O f (t + 1) 127 lo hi (k : Int) C T N = f_Planner_search_124 O f (f_Planner_search_43 O f t) 127 lo hi (k : Int) C T N := by
  have w := u.w s
  have n5 := s.2.2.1
  have kz : ((k : Int)).toNat = k := by omega
  show (if yw 200000 ≤ yw T then _ else _) = _
  rw [le_F (by omega) (by omega) (by omega), lt_F (by omega) (by omega) (by omega), le_F (by omega) (by omega) (by omega), a_Planner_choices w, r_Planner_choices w (by omega) (by omega), kz, hc, lt_F (by omega) (by omega) (by omega), mv.n w, le_T (by omega) (by omega) (by omega)]
  unfold f_Planner_search_90 f_Planner_search_92
  rw [eq_T rfl]
/-- a move that can be made, and all behind it -/
theorem yes_ok (s : SC b ln tk n M) (hk : k + r + 1 = n) (ih : ∀ r', r = r' + 1 → GO O f M n b ln tk lo hi r' (k + 1)) (u : SF M N) {t c : Nat} {y v : Int} (hy : y ∈ mvs) (hc : c < 9) (hg : ∀ i, i < k → iV N 132 i = g i) (hv : VP b ln tk lo hi k g) (l0 : -1000000000 ≤ lo) (l1 : lo ≤ 1000000000) (i0 : -1000000000 ≤ hi) (i1 : hi ≤ 1000000000) (hf : 10 ≤ f) (h : lo ≤ b k + y ∧ b k + y < hi ∧ ¬ hin ln tk (ups g k (b k + y)) k) (hb : BK b ln tk lo hi n N v) (hp : v = -1 ∨ smc b g k + (y.natAbs : Int) ≤ v) (hT0 : 0 ≤ T) (hT : T + 1 + (fu r : Int) ≤ 200000) (ht : fu r < t) : ∃ (e : Nat) (N3 : xM) (v3 : Int), f_Planner_search_158 O f (f_Planner_search_43 O f t) 127 lo hi (k : Int) (smc b g k) T (c : Int) y N = f_Planner_search_43 O f (t - e) 127 lo hi (k : Int) (smc b g k) (T + 1 + (e : Int)) N3 ∧ e ≤ fu r ∧ SF M N3 ∧ (∀ i, i < k → iV N3 132 i = g i) ∧ iV N3 133 k = (c : Int) + 1 ∧ (∀ i, i < k → iV N3 133 i = iV N 133 i) ∧ BK b ln tk lo hi n N3 v3 ∧ (v ≠ -1 → v3 ≠ -1 ∧ v3 ≤ v) ∧ ∀ c', CPl b ln tk lo hi r (k + 1) (ups g k (b k + y)) c' → v3 ≠ -1 ∧ v3 ≤ smc b g k + (y.natAbs : Int) + c' := by
  have q := s.2.2.2.1 k (by omega)
  have m := mvs_b hy
  have sb := smc_0 hv
  have tg := tN_g (c := c) (N := N) (x := b k + y) (by omega) (by omega) hg
  cases r with
  | zero =>
    obtain ⟨N3, e, z1, z2, z3, z4⟩ := s158_leaf (O := O) (f := f) (K := f_Planner_search_43 O f t) (T := T) s u (by omega) hy hc hg hv l0 l1 i0 i1 hf h hb
    refine ⟨0, N3, _, ?_, Nat.le_refl _, z1, fun i hi' => ?_, ?_, fun i hi' => ?_, z4, fun g1 => ?_, fun c' h' => ?_⟩
    · rw [e, show T + 1 + ((0 : Nat) : Int) = T + 1 by omega]
      rfl
    · rw [z2, tN_o (by omega), hg i hi']
    · rw [z3, tN_c (by omega)]
    · rw [z3, tN_co (by omega)]
    · omega
    · have : c' = 0 := h'
      omega
  | succ r =>
    have u2 : SF M (tN N k c (b k + y)) := tN_u u
    have u3 : SF M (iS (tN N k c (b k + y)) 133 (k + 1) 0) := u2.iS (Or.inr (Or.inr rfl))
    have g1 : ∀ i, i < k + 1 → iV (iS (tN N k c (b k + y)) 133 (k + 1) 0) 132 i = ups g k (b k + y) i := fun i hi' => by
      rw [iV_o (Or.inl (by omega)), tg i hi']
    have v1 := hv.step hy h.1 h.2.1 h.2.2
    have b1 : BK b ln tk lo hi n (iS (tN N k c (b k + y)) 133 (k + 1) 0) v := by
      refine ⟨?_, ?_⟩
      · rw [iV_o (Or.inl (by omega)), tN_x (by omega)]
        exact hb.1
      · have e1 : ∀ i, i < n → iV N 131 i = iV (iS (tN N k c (b k + y)) 133 (k + 1) 0) 131 i := fun i _ => by
          rw [iV_o (Or.inl (by omega)), tN_x (by omega)]
        rcases hb.2 with g2 | g2
        · exact Or.inl g2
        · exact Or.inr ⟨VP.ext e1 g2.1, by rw [← smc_ext e1]; exact g2.2⟩
    have fe : fu (r + 1) = 9 * (1 + fu r) + 1 := rfl
    obtain ⟨e, N', v', z0, z1, z2, z3, z4, z5, z6, z7⟩ := ih r rfl 9 0 t (T + 1) v (ups g k (b k + y)) (iS (tN N k c (b k + y)) 133 (k + 1) 0) rfl u3 (by rw [iV_s (by omega) (by omega)]; rfl) g1 v1 b1 (by omega) (by rw [← fe]; exact hT) (by rw [← fe]; exact ht)
    rw [smc_step, show ((k + 1 : Nat) : Int) + -1 = (k : Int) by omega, show k + 1 - 1 = k from rfl, smc_ext (g' := g) (n := k) (fun i hi' => ups_o (by omega)), show ((k + 1 : Nat) : Int) = (k : Int) + 1 by omega] at z0
    refine ⟨e, N', v', ?_, by rw [fe]; exact z1, z2, fun i hi' => ?_, ?_, fun i hi' => ?_, z5, z6, fun c' h' => ?_⟩
    · rw [s158_on s u (by omega) hy hc hg hv l0 l1 i0 i1 hf h]
      exact z0
    · rw [z3 i (by omega), ups_o (by omega)]
    · rw [z4 k (by omega), iV_o (Or.inr (by omega)), tN_c (by omega)]
    · rw [z4 i (by omega), iV_o (Or.inr (by omega)), tN_co (by omega)]
    · obtain ⟨y', y1, y2⟩ := h'
      obtain ⟨i, j1, j2⟩ := mvs_ix y1
      have := z7 c' ⟨y', y1, ⟨i, by omega, j1, j2⟩, y2⟩
      rw [smc_step] at this
      omega
theorem go_step (s : SC b ln tk n M) (mv : MV O) (l0 : -1000000000 ≤ lo) (l1 : lo ≤ 1000000000) (i0 : -1000000000 ≤ hi) (i1 : hi ≤ 1000000000) (hf : 10 ≤ f) (hk : k + r + 1 = n) (ihr : ∀ r', r = r' + 1 → GO O f M n b ln tk lo hi r' (k + 1)) : GO O f M n b ln tk lo hi r k := by
  have n5 := s.2.2.1
  intro d
  induction d with
  | zero =>
    intro c t T v g N hc u hc2 hg hv hb hT0 hT ht
    obtain ⟨t, rfl⟩ : ∃ n', t = n' + 1 := ⟨t - 1, by omega⟩
    refine ⟨1, N, v, ?_, by omega, u, hg, fun i _ => rfl, hb, fun z => ⟨z, Int.le_refl _⟩, fun c0 h0 => ?_⟩
    · rw [o43_9 s mv u (by omega) hT0 (by omega) (by rw [hc2]; omega), up_ok s u (by omega) hg hv]
      rfl
    · obtain ⟨y, _, ⟨i, i1, i2, _⟩, _⟩ := h0
      omega
  | succ d ihd =>
    intro c t T v g N hc u hc2 hg hv hb hT0 hT ht
    obtain ⟨t, rfl⟩ : ∃ n', t = n' + 1 := ⟨t - 1, by omega⟩
    rw [Nat.succ_mul] at hT ht
    rw [Nat.succ_mul]
    have hy : mvs.getD c 0 ∈ mvs := mvs_mem (by omega)
    have sb := smc_0 hv
    have h43 := o43 (O := O) (f := f) (lo := lo) (hi := hi) (C := smc b g k) s mv u (by omega : k < n) (t := t) hT0 (by omega) hc2 (by omega)
    have h92 := s92_ok (O := O) (f := f) (K := f_Planner_search_43 O f t) (lo := lo) (hi := hi) (T := T) (k := k) (v6 := (c : Int)) s u hy sb.1 (by omega)
    have up := up_ok (O := O) (f := f) (K := f_Planner_search_43 O f t) (T := T) s u (by omega : k < n) hg hv
    have v8 := hb.1
    have spl : ∀ y, mfr c y → y = mvs.getD c 0 ∨ mfr (c + 1) y := by
      rintro y ⟨i, j1, j2, j3⟩
      by_cases z : i = c
      · rw [z] at j3
        exact Or.inl j3.symm
      · exact Or.inr ⟨i, by omega, j2, j3⟩
    generalize hyy : mvs.getD c 0 = y at hy h43 h92 spl
    by_cases hp : v ≠ -1 ∧ v < smc b g k + (y.natAbs : Int)
    · rw [v8, if_pos hp] at h92
      refine ⟨1, N, v, ?_, by omega, u, hg, fun i _ => rfl, hb, fun z => ⟨z, Int.le_refl _⟩, fun c0 h0 => ⟨hp.1, ?_⟩⟩
      · rw [h43, h92, up]
        rfl
      · obtain ⟨y', y1, ⟨i, j1, j2, j3⟩, y2, y3, y4, c', q1, q2⟩ := h0
        have p1 := (CPl.pos _ _ _ _ q1).1
        have : y.natAbs ≤ y'.natAbs := by
          by_cases z : i = c
          · rw [z, hyy] at j3
            rw [j3]
            exact Nat.le_refl _
          · rw [← hyy, ← j3]
            exact mvs_up i j2 c (by omega)
        omega
    · rw [v8, if_neg hp] at h92
      by_cases hh : lo ≤ b k + y ∧ b k + y < hi ∧ ¬ hin ln tk (ups g k (b k + y)) k
      · obtain ⟨e, N3, v3, z0, z1, z2, z3, z4, z5, z6, z7, z8⟩ := yes_ok (O := O) (f := f) (T := T) (t := t) s hk ihr u hy (by omega : c < 9) hg hv l0 l1 i0 i1 hf hh hb (by omega) hT0 (by omega) (by omega)
        obtain ⟨e', N', v', x0, x1, x2, x3, x4, x5, x6, x7⟩ := ihd (c + 1) (t - e) (T + 1 + (e : Int)) v3 g N3 (by omega) z2 (by rw [z4]; omega) z3 hv z6 (by omega) (by omega) (by omega)
        refine ⟨1 + e + e', N', v', ?_, by omega, x2, x3, fun i hi' => by rw [x4 i hi', z5 i hi'], x5, fun z => ?_, fun c0 h0 => ?_⟩
        · rw [h43, h92, z0, x0, show t + 1 - (1 + e + e') = t - e - e' by omega, show T + ((1 + e + e' : Nat) : Int) = T + 1 + (e : Int) + (e' : Int) by omega]
        · have := z7 z
          have := x6 this.1
          omega
        · obtain ⟨y', y1, y2, y3, y4, y5, c', q1, q2⟩ := h0
          rcases spl y' y2 with z | z
          · subst z
            have := z8 c' q1
            have := x6 this.1
            omega
          · exact x7 c0 ⟨y', y1, z, y3, y4, y5, c', q1, q2⟩
      · have q := s.2.2.2.1 k (by omega)
        have m := mvs_b hy
        have s158 := s158_no (O := O) (f := f) (K := f_Planner_search_43 O f t) (C := smc b g k) (T := T) s u (by omega) hy (by omega : c < 9) hg hv l0 l1 i0 i1 hf hh
        have u2 : SF M (tN N k c (b k + y)) := tN_u u
        have b2 : BK b ln tk lo hi n (tN N k c (b k + y)) v := by
          refine ⟨?_, ?_⟩
          · rw [tN_x (by omega)]
            exact hb.1
          · have e1 : ∀ i, i < n → iV N 131 i = iV (tN N k c (b k + y)) 131 i := fun i _ => by rw [tN_x (by omega)]
            rcases hb.2 with g2 | g2
            · exact Or.inl g2
            · exact Or.inr ⟨VP.ext e1 g2.1, by rw [← smc_ext e1]; exact g2.2⟩
        obtain ⟨e', N', v', x0, x1, x2, x3, x4, x5, x6, x7⟩ := ihd (c + 1) t (T + 1) v g (tN N k c (b k + y)) (by omega) u2 (by rw [tN_c (by omega)]; omega) (fun i hi' => by rw [tN_o (by omega), hg i hi']) hv b2 (by omega) (by omega) (by omega)
        refine ⟨1 + e', N', v', ?_, by omega, x2, x3, fun i hi' => by rw [x4 i hi', tN_co (by omega)], x5, x6, fun c0 h0 => ?_⟩
        · rw [h43, h92, s158, x0, show t + 1 - (1 + e') = t - e' by omega, show T + ((1 + e' : Nat) : Int) = T + 1 + (e' : Int) by omega]
        · obtain ⟨y', y1, y2, y3, y4, y5, c', q1, q2⟩ := h0
          rcases spl y' y2 with z | z
          · subst z
            exact (hh ⟨y3, y4, y5⟩).elim
          · exact x7 c0 ⟨y', y1, z, y3, y4, y5, c', q1, q2⟩
theorem go_all (s : SC b ln tk n M) (mv : MV O) (l0 : -1000000000 ≤ lo) (l1 : lo ≤ 1000000000) (i0 : -1000000000 ≤ hi) (i1 : hi ≤ 1000000000) (hf : 10 ≤ f) : ∀ (r k : Nat), k + r + 1 = n → GO O f M n b ln tk lo hi r k
  | 0, k, hk => go_step s mv l0 l1 i0 i1 hf hk (fun r' e => by omega)
  | r + 1, k, hk => go_step s mv l0 l1 i0 i1 hf hk (fun r' e => by
    obtain rfl : r' = r := by omega
    exact go_all s mv l0 l1 i0 i1 hf r' (k + 1) (by omega))
end SRM
end
/-! draft 611.search4 -/
section
/-! ===== the search, called ===== -/
section SRE
variable {O : Nat → Option va_E} {f n : Nat} {M N : xM} {b ln : Nat → Int} {tk : Nat → Nat → Prop} {lo hi T C v : Int}
theorem s43_end (w : Wd N) (hv : iV N 127 8 = v) {t : Nat} (hT0 : 0 ≤ T) (hT : T ≤ 200000) : f_Planner_search_43 O f (t + 1) 127 lo hi (-1) C T N = some (v, iS N 127 0 (if v = -1 then 0 else 1)) := by
  have r8 := iV_r N 127 8
  have e : f_Planner_search_275 O f 127 N = some (v, iS N 127 0 (if v = -1 then 0 else 1)) := by
    unfold f_Planner_search_275
    rw [a_Planner_bestCost w, hv]
    by_cases h : v = -1
    · rw [eq_T h, if_pos h]
      unfold f_Planner_search_289
      rw [p_Planner_isKept w (Or.inl rfl), a_Planner_bestCost (M := iS N 127 0 0) w, iV_o (Or.inr (by omega)), hv]
    · rw [eq_F h (by omega) (by omega) (by omega) (by omega), if_neg h]
      unfold f_Planner_search_289
      rw [p_Planner_isKept w (Or.inr rfl), a_Planner_bestCost (M := iS N 127 0 1) w, iV_o (Or.inr (by omega)), hv]
  show (if yw 200000 ≤ yw T then _ else _) = _
  by_cases h : T = 200000
  · rw [le_T (by omega) (by omega) (by omega), e]
  · rw [le_F (by omega) (by omega) (by omega), lt_T (by omega) (by omega) (by omega), e]
/-- the whole search -/
theorem search_ok (s : SC b ln tk n M) (n4 : n ≤ 4) (mv : MV O) (l0 : -1000000000 ≤ lo) (l1 : lo ≤ 1000000000) (i0 : -1000000000 ≤ hi) (i1 : hi ≤ 1000000000) (hf : 10000 ≤ f) : ∃ (v : Int) (N : xM), f_Planner_search O f 127 lo hi M = some (v, N) ∧ Un PS M N ∧ (∀ j, j ≠ 8 → j ≠ 0 → iV N 127 j = iV M 127 j) ∧ iV N 127 0 = (if v = -1 then 0 else 1) ∧ lst (CPl b ln tk lo hi n 0 (fun _ => 0)) v ∧ (v ≠ -1 → VP b ln tk lo hi n (iV N 131) ∧ smc b (iV N 131) n = v) := by
  have w := s.1
  have n5 := s.2.2.1
  have u1 : SF M (iS M 127 8 (-1)) := ⟨Un.rf.iS (by unfold PS; omega), fun j hj => iV_o (Or.inr hj)⟩
  have w1 := u1.w s
  have fin : ∀ (N' : xM) (v' : Int), SF M N' → BK b ln tk lo hi n N' v' → lst (CPl b ln tk lo hi n 0 (fun _ => 0)) v' → ∃ (v : Int) (N : xM), (some (v', iS N' 127 0 (if v' = -1 then 0 else 1)) : Option (Int × xM)) = some (v, N) ∧ Un PS M N ∧ (∀ j, j ≠ 8 → j ≠ 0 → iV N 127 j = iV M 127 j) ∧ iV N 127 0 = (if v = -1 then 0 else 1) ∧ lst (CPl b ln tk lo hi n 0 (fun _ => 0)) v ∧ (v ≠ -1 → VP b ln tk lo hi n (iV N 131) ∧ smc b (iV N 131) n = v) := fun N' v' u' b' l' => by
    refine ⟨v', _, rfl, u'.1.iS (by unfold PS; omega), fun j j8 j0 => ?_, ?_, l', fun z => ?_⟩
    · rw [iV_o (Or.inr j0), u'.2 j j8]
    · by_cases h : v' = -1
      · rw [if_pos h, iV_s (by omega) (by omega)]
      · rw [if_neg h, iV_s (by omega) (by omega)]
    · rcases b'.2 with q | q
      · exact (z q).elim
      · have e1 : ∀ i, i < n → iV N' 131 i = iV (iS N' 127 0 (if v' = -1 then 0 else 1)) 131 i := fun i _ => (iV_o (Or.inl (by omega))).symm
        exact ⟨VP.ext e1 q.1, by rw [← smc_ext e1]; exact q.2⟩
  unfold f_Planner_search
  rw [p_Planner_bestCost w, a_Planner_is w1, plCount_ok w1 (u1.cn s) n5, xcl_e]
  by_cases h0 : n = 0
  · have u2 : SF M (iS (iS M 127 8 (-1)) 127 8 0) := ⟨u1.1.iS (by unfold PS; omega), fun j hj => by rw [iV_o (Or.inr hj), u1.2 j hj]⟩
    have w2 := u2.w s
    have b2 : BK b ln tk lo hi n (iS (iS M 127 8 (-1)) 127 8 0) 0 := ⟨iV_s (by omega) (by omega), Or.inr ⟨fun i hi' => by omega, by rw [h0]; rfl⟩⟩
    have l2 : lst (CPl b ln tk lo hi n 0 (fun _ => 0)) 0 := by
      rw [h0]
      exact Or.inr ⟨rfl, fun c h => (show c = 0 from h) ▸ Int.le_refl _⟩
    rw [eq_T (by omega), p_Planner_bestCost w1]
    unfold f_Planner_search_17
    rw [a_Planner_is w2, plCount_ok w2 (u2.cn s) n5, xcl_e, eq_T (by omega)]
    unfold f_Planner_search_29
    rw [a_Planner_choices w2, w_Planner_choices w2 (by omega) (by omega)]
    have u3 : SF M (iS (iS (iS M 127 8 (-1)) 127 8 0) 133 0 0) := u2.iS (Or.inr (Or.inr rfl))
    obtain ⟨t, rfl⟩ : ∃ n', f = n' + 1 := ⟨f - 1, by omega⟩
    have b3 : BK b ln tk lo hi n (iS (iS (iS M 127 8 (-1)) 127 8 0) 133 0 0) 0 := ⟨by rw [iV_o (Or.inl (by omega))]; exact b2.1, Or.inr ⟨fun i hi' => by omega, by rw [h0]; rfl⟩⟩
    show ∃ (v : Int) (N : xM), f_Planner_search_43 O (t + 1) (t + 1) 127 lo hi (-1) 0 0 (iS (iS (iS M 127 8 (-1)) 127 8 0) 133 0 0) = some (v, N) ∧ _
    rw [s43_end (u3.w s) b3.1 (by omega) (by omega)]
    exact fin _ 0 u3 b3 l2
  · rw [eq_F (by omega) (by omega) (by omega) (by omega) (by omega)]
    unfold f_Planner_search_17
    rw [a_Planner_is w1, plCount_ok w1 (u1.cn s) n5, xcl_e, eq_F (by omega) (by omega) (by omega) (by omega) (by omega)]
    unfold f_Planner_search_29
    rw [a_Planner_choices w1, w_Planner_choices w1 (by omega) (by omega)]
    have u3 : SF M (iS (iS M 127 8 (-1)) 133 0 0) := u1.iS (Or.inr (Or.inr rfl))
    have b3 : BK b ln tk lo hi n (iS (iS M 127 8 (-1)) 133 0 0) (-1) := ⟨by rw [iV_o (Or.inl (by omega)), iV_s (by omega) (by omega)], Or.inl rfl⟩
    obtain ⟨r, rfl⟩ : ∃ r, n = r + 1 := ⟨n - 1, by omega⟩
    have fb : 9 * (1 + fu r) + 1 ≤ 8200 := by
      have : r = 0 ∨ r = 1 ∨ r = 2 ∨ r = 3 := by omega
      rcases this with rfl | rfl | rfl | rfl <;> decide
    obtain ⟨e, N', v', z0, z1, z2, z3, z4, z5, z6, z7⟩ := go_all (O := O) (f := f) s mv l0 l1 i0 i1 (by omega) r 0 (by omega) 9 0 f 0 (-1) (fun _ => 0) (iS (iS M 127 8 (-1)) 133 0 0) rfl u3 (iV_s (by omega) (by omega)) (fun i hi' => by omega) (fun i hi' => by omega) b3 (by omega) (by omega) (by omega)
    have z0' : f_Planner_search_43 O f f 127 lo hi 0 0 0 (iS (iS M 127 8 (-1)) 133 0 0) = f_Planner_search_43 O f (f - e) 127 lo hi (-1) 0 (0 + (e : Int)) N' := z0
    obtain ⟨t, ht⟩ : ∃ n', f - e = n' + 1 := ⟨f - e - 1, by omega⟩
    show ∃ (v : Int) (N : xM), f_Planner_search_43 O f f 127 lo hi 0 0 0 (iS (iS M 127 8 (-1)) 133 0 0) = some (v, N) ∧ _
    rw [z0', ht, s43_end (z2.w s) z5.1 (by omega) (by omega)]
    refine fin _ v' z2 z5 ?_
    have all : ∀ c, CPl b ln tk lo hi (r + 1) 0 (fun _ => 0) c → v' ≠ -1 ∧ v' ≤ c := fun c h => by
      obtain ⟨y', y1, y2⟩ := h
      obtain ⟨i, j1, j2⟩ := mvs_ix y1
      have := z7 c ⟨y', y1, ⟨i, by omega, j1, j2⟩, y2⟩
      have s0 : smc b (fun _ => 0) 0 = 0 := rfl
      omega
    rcases z5.2 with q | q
    · exact Or.inl ⟨q, fun c h => (all c h).1 q⟩
    · refine Or.inr ⟨?_, fun c h => (all c h).2⟩
      have p := q.1.cpl (r + 1) 0 (by omega)
      have s0 : smc b (iV N' 131) 0 = 0 := rfl
      rw [q.2, s0, show v' - 0 = v' by omega] at p
      exact CPl.ext _ _ _ _ _ (fun i hi' => by omega) p
end SRE
end
