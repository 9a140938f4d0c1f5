/-! ===== the constructor's heap as a list of cells, reckoned ===== -/
/-- a cell: its shape, its references, its numbers -/
abbrev zC : Type := (Nat ⊕ Nat × Nat) × List (Option Nat) × List Int
/-- the newest cell first; how many; their places -/
abbrev zH : Type := List zC × Nat × Nat
def zd : zC := (.inl 99, [], [])
/-- a place of a list put, the list made longer -/
def zset {α : Type} (d : α) : List α → Nat → α → List α
  | [], 0, x => [x]
  | [], i + 1, x => d :: zset d [] i x
  | _ :: l, 0, x => x :: l
  | y :: l, i + 1, x => y :: zset d l i x
theorem zset_get {α : Type} (d x : α) : ∀ (i : Nat) (l : List α) (j : Nat), (zset d l i x).getD j d = if j = i then x else l.getD j d := by
  intro i
  induction i with
  | zero =>
    intro l j
    cases l <;> cases j <;> simp [zset]
  | succ i ih =>
    intro l j
    cases l with
    | nil =>
      cases j with
      | zero =>
        rw [if_neg (by omega)]
        rfl
      | succ n =>
        have q := ih [] n
        show (zset d [] i x).getD n d = _
        rw [q]
        by_cases z : n = i
        · rw [if_pos z, if_pos (by omega)]
        · rw [if_neg z, if_neg (by omega)]
          rfl
    | cons y l =>
      cases j with
      | zero =>
        rw [if_neg (by omega)]
        rfl
      | succ n =>
        have q := ih l n
        show (zset d l i x).getD n d = _
        rw [q]
        by_cases z : n = i
        · rw [if_pos z, if_pos (by omega)]
        · rw [if_neg z, if_neg (by omega)]
          rfl
theorem zst_get {α : Type} (d x : α) {l : List α} {k i : Nat} (h : k < l.length) : (l.set k x).getD i d = if i = k then x else l.getD i d := by
  rw [List.getD_eq_getElem?_getD, List.getD_eq_getElem?_getD, List.getElem?_set]
  by_cases c : i = k
  · rw [if_pos c, if_pos c.symm, if_pos h]
    rfl
  · rw [if_neg c, if_neg (fun z => c z.symm)]
def zcl (H : zH) (k : Nat) : zC := H.1.getD (H.2.1 - 1 - k) zd
def zup (H : zH) (k : Nat) (c : zC) : zH := (H.1.set (H.2.1 - 1 - k) c, H.2)
def zN (H : zH) (s : Nat ⊕ Nat × Nat) (w : Nat) : zH := ((s, [], []) :: H.1, H.2.1 + 1, H.2.2 + w)
def zO (H : zH) (ci : Nat) : Option (Nat × zH) := if H.2.1 < 10000 then some (H.2.1, zN H (.inl ci) (xNf ci)) else none
def zA (H : zH) (t n : Nat) : Option (Nat × zH) := if H.2.1 < 10000 ∧ n ≤ 60000 then some (H.2.1, zN H (.inr (t, n)) n) else none
def zpR (H : zH) (k ci j r : Nat) : Option zH := if k < H.2.1 ∧ k < 10001 ∧ (zcl H k).1 = .inl ci ∧ j < xNf ci ∧ xkR (xTy ci j) = true then some (zup H k ((zcl H k).1, zset none (zcl H k).2.1 j (some r), (zcl H k).2.2)) else none
def zpJ (H : zH) (k ci j : Nat) (x : Int) : Option zH := if k < H.2.1 ∧ k < 10001 ∧ (zcl H k).1 = .inl ci ∧ j < xNf ci ∧ xkI (xTy ci j) = true ∧ xfit (xTy ci j) (.int (yw x)) = true ∧ -2147483648 ≤ x ∧ x ≤ 2147483647 then some (zup H k ((zcl H k).1, (zcl H k).2.1, zset 0 (zcl H k).2.2 j x)) else none
def zwJ (H : zH) (k j : Nat) (x : Int) : Option zH := match (zcl H k).1 with
  | .inr (t, n) => if k < H.2.1 ∧ k < 10001 ∧ t = 0 ∧ j < n ∧ n ≤ 60000 ∧ -2147483648 ≤ x ∧ x ≤ 2147483647 then some (zup H k ((zcl H k).1, (zcl H k).2.1, zset 0 (zcl H k).2.2 j x)) else none
  | _ => none
def zwR (H : zH) (k j r : Nat) : Option zH := match (zcl H k).1 with
  | .inr (t, n) => if k < H.2.1 ∧ k < 10001 ∧ 5 < t ∧ t < 12 ∧ j < n ∧ n ≤ 60000 ∧ r < H.2.1 ∧ r < 10001 ∧ (zcl H r).1 = .inl (xot t) then some (zup H k ((zcl H k).1, zset none (zcl H k).2.1 j (some r), (zcl H k).2.2)) else none
  | _ => none
def zgR (H : zH) (k ci j : Nat) : Option Nat := if k < H.2.1 ∧ k < 10001 ∧ (zcl H k).1 = .inl ci ∧ j < xNf ci ∧ xkR (xTy ci j) = true then (zcl H k).2.1.getD j none else none
def zaN (H : zH) (k : Nat) : Option Nat := match (zcl H k).1 with
  | .inr (t, n) => if k < H.2.1 ∧ k < 10001 ∧ t < 12 ∧ n ≤ 60000 then some n else none
  | _ => none
def zx (o : Option (Nat × zH)) (A : Nat → zH → Option zH) : Option zH := o.bind (fun p => A p.1 p.2)
/-- the list is the heap -/
def zB (H : zH) (N : xM) : Prop := (N.1 = H.2.1 ∧ H.1.length = H.2.1) ∧ N.2.1 = H.2.2 ∧ ∀ i, i < H.2.1 → mS N i = (zcl H i).1 ∧ (∀ j r, (zcl H i).2.1.getD j none = some r → mR N i j = some r) ∧ ∀ j, iV N i j = (zcl H i).2.2.getD j 0
section ZBS
variable {O : Nat → Option va_E} {f k ci j r t n : Nat} {H H' : zH} {N N' : xM} {x i : Int} {c : zC}
theorem zx_some {o : Option (Nat × zH)} {A : Nat → zH → Option zH} (e : zx o A = some H') : ∃ q, o = some q ∧ A q.1 q.2 = some H' := by
  cases o with
  | none => cases (show none = some H' from e)
  | some q => exact ⟨q, rfl, e⟩
theorem ob {α β : Type} {o : Option α} {A : α → Option β} {b : β} (e : o.bind A = some b) : ∃ a, o = some a ∧ A a = some b := by
  cases o with
  | none => cases (show none = some b from e)
  | some a => exact ⟨a, rfl, e⟩
theorem zB.up (h : zB H N) (hk : k < H.2.1) (s1 : N'.1 = N.1) (s2 : N'.2.1 = N.2.1) (o : ∀ a, a ≠ k → mS N' a = mS N a ∧ mR N' a = mR N a ∧ ∀ j, iV N' a j = iV N a j) (c1 : mS N' k = c.1) (c2 : ∀ j r, c.2.1.getD j none = some r → mR N' k j = some r) (c3 : ∀ j, iV N' k j = c.2.2.getD j 0) : zB (zup H k c) N' := by
  obtain ⟨⟨h1, h0⟩, h2, h3⟩ := h
  have l : (zup H k c).1.length = H.1.length := List.length_set
  have at' : ∀ a, a < H.2.1 → zcl (zup H k c) a = if a = k then c else zcl H a := fun a ha => by
    have q := zst_get (l := H.1) (k := H.2.1 - 1 - k) (i := H.2.1 - 1 - a) zd c (by omega)
    by_cases z : a = k
    · rw [if_pos (by omega)] at q
      rw [if_pos z]
      exact q
    · rw [if_neg (by omega)] at q
      rw [if_neg z]
      exact q
  refine ⟨⟨by rw [s1, h1]; rfl, by rw [l, h0]; rfl⟩, by rw [s2, h2]; rfl, fun a ha => ?_⟩
  have ha : a < H.2.1 := ha
  rw [at' a ha]
  by_cases q : a = k
  · rw [if_pos q, q]
    exact ⟨c1, c2, c3⟩
  · rw [if_neg q]
    obtain ⟨o1, o2, o3⟩ := o a q
    obtain ⟨g1, g2, g3⟩ := h3 a ha
    exact ⟨o1.trans g1, fun j r hj => by rw [o2]; exact g2 j r hj, fun j => (o3 j).trans (g3 j)⟩
theorem zB.nw (h : zB H N) {s : Nat ⊕ Nat × Nat} {w : Nat} : zB (zN H s w) (mnew N s w) := by
  obtain ⟨⟨h1, h0⟩, h2, h3⟩ := h
  refine ⟨⟨by show N.1 + 1 = H.2.1 + 1; rw [h1], by show H.1.length + 1 = H.2.1 + 1; rw [h0]⟩, by show N.2.1 + w = H.2.2 + w; rw [h2], fun a ha => ?_⟩
  have ha : a < H.2.1 + 1 := ha
  by_cases q : a = H.2.1
  · have e : zcl (zN H s w) a = (s, [], []) := by
      show ((s, [], []) :: H.1).getD (H.2.1 + 1 - 1 - a) zd = _
      rw [show H.2.1 + 1 - 1 - a = 0 by omega]
      rfl
    have qa : a = N.1 := by rw [q, h1]
    rw [e]
    refine ⟨if_pos qa, fun j r hj => ?_, fun j => ?_⟩
    · cases hj
    · unfold iV
      show ((if a = N.1 then fun _ => 0 else mI N a) j).toInt = _
      rw [if_pos qa]
      rfl
  · have e : zcl (zN H s w) a = zcl H a := by
      show ((s, [], []) :: H.1).getD (H.2.1 + 1 - 1 - a) zd = H.1.getD (H.2.1 - 1 - a) zd
      rw [show H.2.1 + 1 - 1 - a = (H.2.1 - 1 - a) + 1 by omega]
      rfl
    have qa : ¬ a = N.1 := by rw [h1]; exact q
    obtain ⟨g1, g2, g3⟩ := h3 a (by omega)
    rw [e]
    refine ⟨(if_neg qa).trans g1, fun j r hj => ?_, fun j => ?_⟩
    · show (if a = N.1 then fun _ => none else mR N a) j = _
      rw [if_neg qa]
      exact g2 j r hj
    · rw [← g3 j]
      unfold iV
      show ((if a = N.1 then fun _ => 0 else mI N a) j).toInt = _
      rw [if_neg qa]
theorem b_O {q : Nat × zH} (h : zB H N) (e : zO H ci = some q) : ∃ N', nO N ci = some (q.1, N') ∧ zB q.2 N' := by
  unfold zO at e
  split at e
  · next g =>
    cases e
    refine ⟨_, ?_, h.nw⟩
    unfold nO
    rw [if_pos (by have := h.1.1; omega), h.1.1]
  · cases e
theorem b_A {q : Nat × zH} (h : zB H N) (e : zA H t n = some q) (hx : x = (n : Int)) : ∃ N', nAJ N t x = some (q.1, N') ∧ zB q.2 N' := by
  unfold zA at e
  split at e
  · next g =>
    cases e
    have h1 := h.1.1
    refine ⟨_, ?_, h.nw⟩
    rw [x_nAJ (by omega) (by omega) (by omega), h1, hx, Int.toNat_natCast]
  · cases e
theorem zin (h : zB H N) (hk : k < H.2.1) (hk2 : k < 10001) : inM N k := ⟨by omega, by rw [h.1.1]; exact hk⟩
theorem b_pR (h : zB H N) (e : zpR H k ci j r = some H') : ∃ N', pR N k ci j (some r) = some N' ∧ zB H' N' := by
  unfold zpR at e
  split at e
  · next g =>
    obtain ⟨g0, g1, g2, g3, g4⟩ := g
    cases e
    obtain ⟨q1, q2, q3⟩ := h.2.2 k g0
    have b := zin h g0 g1
    refine ⟨_, c_pR b.1 b.2 (q1.trans g2) g3 g4, h.up g0 rfl rfl (fun a ha => ⟨rfl, if_neg ha, fun j => rfl⟩) q1 (fun j2 r2 hj => ?_) q3⟩
    show (if k = k then mup (mR N k) j (some r) else mR N k) j2 = _
    rw [if_pos rfl]
    show (if j2 = j then some r else mR N k j2) = _
    have hj' : (zset none (zcl H k).2.1 j (some r)).getD j2 none = some r2 := hj
    rw [zset_get] at hj'
    by_cases z : j2 = j
    · rw [if_pos z] at hj' ⊢
      exact hj'
    · rw [if_neg z] at hj' ⊢
      exact q2 j2 r2 hj'
  · cases e
theorem zi_put {y : Int} (b : inM N k) (h : zB H N) (g0 : k < H.2.1) (y0 : -2147483648 ≤ y) (y1 : y ≤ 2147483647) : zB (zup H k ((zcl H k).1, (zcl H k).2.1, zset 0 (zcl H k).2.2 j y)) (iS N k j y) := by
  obtain ⟨q1, q2, q3⟩ := h.2.2 k g0
  refine h.up g0 rfl rfl (fun a ha => ⟨rfl, rfl, fun j2 => iV_o (Or.inl ha)⟩) q1 q2 (fun j2 => ?_)
  show iV (iS N k j y) k j2 = (zset 0 (zcl H k).2.2 j y).getD j2 0
  rw [zset_get]
  by_cases z : j2 = j
  · rw [if_pos z, z, iV_s y0 y1]
  · rw [if_neg z, iV_o (Or.inr z)]
    exact q3 j2
theorem b_pJ (h : zB H N) (e : zpJ H k ci j x = some H') : ∃ N', pJ N k ci j x = some N' ∧ zB H' N' := by
  unfold zpJ at e
  split at e
  · next g =>
    obtain ⟨g0, g1, g2, g3, g4, g5, g6, g7⟩ := g
    cases e
    have b := zin h g0 g1
    refine ⟨_, ?_, zi_put b h g0 g6 g7⟩
    exact c_pI b.1 b.2 ((h.2.2 k g0).1.trans g2) g3 g4 g5
  · cases e
theorem b_wJ (h : zB H N) (e : zwJ H k j x = some H') (hi : i = (j : Int)) : ∃ N', wJ N k i x = some N' ∧ zB H' N' := by
  unfold zwJ at e
  split at e
  · next t n es =>
    split at e
    · next g =>
      obtain ⟨g0, g1, g2, g3, g4, g5, g6⟩ := g
      cases e
      subst g2
      have b := zin h g0 g1
      refine ⟨_, ?_, zi_put b h g0 g5 g6⟩
      have q := c_wI (x := yw x) b.1 b.2 ((h.2.2 k g0).1.trans es) (i := i) (by omega) (by omega) ⟨by omega, by omega⟩
      have e1 : i.toNat = j := by omega
      rw [e1] at q
      exact q
    · cases e
  · cases e
theorem b_wR (h : zB H N) (e : zwR H k j r = some H') (hi : i = (j : Int)) : ∃ N', wJR O N k i r = some N' ∧ zB H' N' := by
  unfold zwR at e
  split at e
  · next t n es =>
    split at e
    · next g =>
      obtain ⟨g0, g1, g2, g3, g4, g5, g6, g7, g8⟩ := g
      cases e
      have b := zin h g0 g1
      have br := zin h g6 g7
      obtain ⟨q1, q2, q3⟩ := h.2.2 k g0
      have sk : mS N k = .inr (t, n) := q1.trans es
      have ok : wRok O N t r = true := by
        have br2 : r < (hp N).1 := br.2
        unfold wRok xrd
        rw [if_pos br.1, if_pos br2, hp_cell, (h.2.2 r g6).1, g8]
        show (decide (xot t = xot t) && decide (5 < t) && decide (t < 12)) = true
        rw [decide_eq_true rfl, decide_eq_true g2, decide_eq_true g3]
        rfl
      have yn : (yw i).toNatClampNeg = j := by rw [yw_nat ⟨by omega, by omega⟩]; omega
      refine ⟨msR N k (mup (mR N k) j (some r)), ?_, h.up g0 rfl rfl (fun a ha => ⟨rfl, if_neg ha, fun j => rfl⟩) q1 (fun j2 r2 hj => ?_) q3⟩
      · unfold wJR wR
        rw [sk]
        dsimp only
        rw [if_pos ⟨by omega, c_wX b.1 b.2 sk (by omega) (by omega) ⟨by omega, by omega⟩, ok⟩, yn]
      · show (if k = k then mup (mR N k) j (some r) else mR N k) j2 = _
        rw [if_pos rfl]
        show (if j2 = j then some r else mR N k j2) = _
        have hj' : (zset none (zcl H k).2.1 j (some r)).getD j2 none = some r2 := hj
        rw [zset_get] at hj'
        by_cases z : j2 = j
        · rw [if_pos z] at hj' ⊢
          exact hj'
        · rw [if_neg z] at hj' ⊢
          exact q2 j2 r2 hj'
    · cases e
  · cases e
theorem b_gR (h : zB H N) (e : zgR H k ci j = some r) : gR O N k ci j = some r := by
  unfold zgR at e
  split at e
  · next g =>
    obtain ⟨g0, g1, g2, g3, g4⟩ := g
    obtain ⟨q1, q2, q3⟩ := h.2.2 k g0
    have b := zin h g0 g1
    exact c_gR b.1 b.2 (q1.trans g2) g3 g4 (q2 j r e)
  · cases e
theorem zaN_r (e : zaN H k = some n) : n ≤ 60000 := by
  unfold zaN at e
  split at e
  · split at e
    · next g =>
      cases e
      exact g.2.2.2
    · cases e
  · cases e
theorem b_aN (h : zB H N) (e : zaN H k = some n) : aJN O N k = some (n : Int) := by
  have nr := zaN_r e
  unfold zaN at e
  split at e
  · next t n' es =>
    split at e
    · next g =>
      obtain ⟨g0, g1, g2, g3⟩ := g
      cases e
      have b := zin h g0 g1
      unfold aJN
      rw [c_aN b.1 b.2 ((h.2.2 k g0).1.trans es) g2]
      show some (Int32.ofNat n).toInt = _
      rw [show (Int32.ofNat n).toInt = (n : Int) from Int32.toInt_ofNat_of_lt (by omega)]
    · cases e
  · cases e
end ZBS
section ZMS
variable {O : Nat → Option va_E} {f : Nat}
def m_Zone_ctor (v0 : Nat) (M : zH) : Option zH :=
  zx (zA M 0 4) fun x1 M1 =>
  (zwJ M1 x1 0 3).bind fun M2 =>
  (zwJ M2 x1 1 5).bind fun M3 =>
  (zwJ M3 x1 2 6).bind fun M4 =>
  (zwJ M4 x1 3 120).bind fun M5 =>
  (zpR M5 v0 11 2 x1).bind fun M6 =>
  zx (zA M6 0 4) fun x2 M7 =>
  (zwJ M7 x2 0 10).bind fun M8 =>
  (zwJ M8 x2 1 5).bind fun M9 =>
  (zwJ M9 x2 2 6).bind fun M10 =>
  (zwJ M10 x2 3 120).bind fun M11 =>
  (zpR M11 v0 11 3 x2).bind fun M12 =>
  some M12
theorem s_Zone_ctor (hf : 1000 ≤ f) {v0 : Nat} {M M9 : zH} {N : xM} (h : zB M N) (e : m_Zone_ctor v0 M = some M9) : ∃ N9, f_Zone_ctor O f v0 N = some ((), N9) ∧ zB M9 N9 := by
  unfold m_Zone_ctor at e
  unfold f_Zone_ctor
  obtain ⟨q1, e1, e⟩ := zx_some e
  obtain ⟨N1, a1, h1⟩ := b_A (x := 4) h e1 rfl
  rw [a1, xcl_e]
  obtain ⟨H2, e2, e⟩ := ob e
  obtain ⟨N2, a2, h2⟩ := b_wJ (i := 0) h1 e2 rfl
  rw [a2, bind_e]
  obtain ⟨H3, e3, e⟩ := ob e
  obtain ⟨N3, a3, h3⟩ := b_wJ (i := 1) h2 e3 rfl
  rw [a3, bind_e]
  obtain ⟨H4, e4, e⟩ := ob e
  obtain ⟨N4, a4, h4⟩ := b_wJ (i := 2) h3 e4 rfl
  rw [a4, bind_e]
  obtain ⟨H5, e5, e⟩ := ob e
  obtain ⟨N5, a5, h5⟩ := b_wJ (i := 3) h4 e5 rfl
  rw [a5, bind_e]
  obtain ⟨H6, e6, e⟩ := ob e
  obtain ⟨N6, a6, h6⟩ := b_pR h5 e6
  rw [a6, bind_e]
  obtain ⟨q7, e7, e⟩ := zx_some e
  obtain ⟨N7, a7, h7⟩ := b_A (x := 4) h6 e7 rfl
  rw [a7, xcl_e]
  obtain ⟨H8, e8, e⟩ := ob e
  obtain ⟨N8, a8, h8⟩ := b_wJ (i := 0) h7 e8 rfl
  rw [a8, bind_e]
  obtain ⟨H9, e9, e⟩ := ob e
  obtain ⟨N9, a9, h9⟩ := b_wJ (i := 1) h8 e9 rfl
  rw [a9, bind_e]
  obtain ⟨H10, e10, e⟩ := ob e
  obtain ⟨N10, a10, h10⟩ := b_wJ (i := 2) h9 e10 rfl
  rw [a10, bind_e]
  obtain ⟨H11, e11, e⟩ := ob e
  obtain ⟨N11, a11, h11⟩ := b_wJ (i := 3) h10 e11 rfl
  rw [a11, bind_e]
  obtain ⟨H12, e12, e⟩ := ob e
  obtain ⟨N12, a12, h12⟩ := b_pR h11 e12
  rw [a12, bind_e]
  cases e
  exact ⟨_, rfl, h12⟩
def m_Person_ctor (v0 : Nat) (M : zH) : Option zH :=
  (zpJ M v0 6 1 31).bind fun M1 =>
  (zpJ M1 v0 6 2 540).bind fun M2 =>
  (zpJ M2 v0 6 3 1020).bind fun M3 =>
  some M3
theorem s_Person_ctor (hf : 1000 ≤ f) {v0 : Nat} {M M9 : zH} {N : xM} (h : zB M N) (e : m_Person_ctor v0 M = some M9) : ∃ N9, f_Person_ctor O f v0 N = some ((), N9) ∧ zB M9 N9 := by
  unfold m_Person_ctor at e
  unfold f_Person_ctor
  obtain ⟨H14, e14, e⟩ := ob e
  obtain ⟨N14, a14, h14⟩ := b_pJ h e14
  rw [a14, bind_e]
  obtain ⟨H15, e15, e⟩ := ob e
  obtain ⟨N15, a15, h15⟩ := b_pJ h14 e15
  rw [a15, bind_e]
  obtain ⟨H16, e16, e⟩ := ob e
  obtain ⟨N16, a16, h16⟩ := b_pJ h15 e16
  rw [a16, bind_e]
  cases e
  exact ⟨_, rfl, h16⟩
def m_Rule_ctor (v0 : Nat) (M : zH) : Option zH :=
  (zpJ M v0 9 0 10).bind fun M1 =>
  (zpJ M1 v0 9 7 146000).bind fun M2 =>
  some M2
theorem s_Rule_ctor (hf : 1000 ≤ f) {v0 : Nat} {M M9 : zH} {N : xM} (h : zB M N) (e : m_Rule_ctor v0 M = some M9) : ∃ N9, f_Rule_ctor O f v0 N = some ((), N9) ∧ zB M9 N9 := by
  unfold m_Rule_ctor at e
  unfold f_Rule_ctor
  obtain ⟨H18, e18, e⟩ := ob e
  obtain ⟨N18, a18, h18⟩ := b_pJ h e18
  rw [a18, bind_e]
  obtain ⟨H19, e19, e⟩ := ob e
  obtain ⟨N19, a19, h19⟩ := b_pJ h18 e19
  rw [a19, bind_e]
  cases e
  exact ⟨_, rfl, h19⟩
def m_Series_ctor (v0 : Nat) (M : zH) : Option zH :=
  zx (zO M 9) fun x1 M1 =>
  (m_Rule_ctor x1 M1).bind fun M2 =>
  (zpR M2 v0 10 6 x1).bind fun M3 =>
  zx (zA M3 0 10) fun x3 M4 =>
  (zpR M4 v0 10 8 x3).bind fun M5 =>
  zx (zA M5 0 10) fun x4 M6 =>
  (zpR M6 v0 10 9 x4).bind fun M7 =>
  zx (zA M7 0 8) fun x5 M8 =>
  (zpR M8 v0 10 10 x5).bind fun M9 =>
  zx (zA M9 0 8) fun x6 M10 =>
  (zpR M10 v0 10 11 x6).bind fun M11 =>
  some M11
theorem s_Series_ctor (hf : 1000 ≤ f) {v0 : Nat} {M M9 : zH} {N : xM} (h : zB M N) (e : m_Series_ctor v0 M = some M9) : ∃ N9, f_Series_ctor O f v0 N = some ((), N9) ∧ zB M9 N9 := by
  unfold m_Series_ctor at e
  unfold f_Series_ctor
  obtain ⟨q21, e21, e⟩ := zx_some e
  obtain ⟨N21, a21, h21⟩ := b_O h e21
  rw [a21, xcl_e]
  obtain ⟨H22, e22, e⟩ := ob e
  obtain ⟨N22, a22, h22⟩ := s_Rule_ctor (O := O) (f := f) hf h21 e22
  rw [a22, xcl_e]
  obtain ⟨H23, e23, e⟩ := ob e
  obtain ⟨N23, a23, h23⟩ := b_pR h22 e23
  rw [a23, bind_e]
  obtain ⟨q24, e24, e⟩ := zx_some e
  obtain ⟨N24, a24, h24⟩ := b_A (x := 10) h23 e24 rfl
  rw [a24, xcl_e]
  obtain ⟨H25, e25, e⟩ := ob e
  obtain ⟨N25, a25, h25⟩ := b_pR h24 e25
  rw [a25, bind_e]
  obtain ⟨q26, e26, e⟩ := zx_some e
  obtain ⟨N26, a26, h26⟩ := b_A (x := 10) h25 e26 rfl
  rw [a26, xcl_e]
  obtain ⟨H27, e27, e⟩ := ob e
  obtain ⟨N27, a27, h27⟩ := b_pR h26 e27
  rw [a27, bind_e]
  obtain ⟨q28, e28, e⟩ := zx_some e
  obtain ⟨N28, a28, h28⟩ := b_A (x := 8) h27 e28 rfl
  rw [a28, xcl_e]
  obtain ⟨H29, e29, e⟩ := ob e
  obtain ⟨N29, a29, h29⟩ := b_pR h28 e29
  rw [a29, bind_e]
  obtain ⟨q30, e30, e⟩ := zx_some e
  obtain ⟨N30, a30, h30⟩ := b_A (x := 8) h29 e30 rfl
  rw [a30, xcl_e]
  obtain ⟨H31, e31, e⟩ := ob e
  obtain ⟨N31, a31, h31⟩ := b_pR h30 e31
  rw [a31, bind_e]
  cases e
  exact ⟨_, rfl, h31⟩
def m_Device_ctor_54 : Nat → Nat → Nat → zH → Option zH
  | 0, _, _, _ => none
  | n + 1, v0, v1, M =>
    (zgR M v0 3 5).bind fun x1 =>
    (zaN M x1).bind fun x2 =>
    if x2 ≤ v1 then (
      some M
    ) else
    (zgR M v0 3 5).bind fun x3 =>
    (zwJ M x3 v1 (-1)).bind fun M1 =>
    m_Device_ctor_54 n v0 (v1 + 1) M1
theorem s_Device_ctor_54 (hf : 1000 ≤ f) : ∀ (n t v0 v1 : Nat) (M M9 : zH) (N : xM), zB M N → m_Device_ctor_54 n v0 v1 M = some M9 → n ≤ t → v1 + n ≤ 1000000 → ∃ N9, f_Device_ctor_54 O f t v0 (v1 : Int) N = some ((), N9) ∧ zB M9 N9 := by
  intro n
  induction n with
  | zero =>
    intro t v0 v1 M M9 N h e
    cases (show none = some M9 from e)
  | succ n ih =>
    intro t v0 v1 M M9 N h e ht hv
    obtain ⟨t, rfl⟩ : ∃ n', t = n' + 1 := ⟨t - 1, by omega⟩
    change Option.bind (zgR M v0 3 5) _ = some M9 at e
    show ∃ N9, Option.bind (gR O N v0 3 5) _ = _ ∧ _
    obtain ⟨y33, e33, e⟩ := ob e
    rw [b_gR (O := O) h e33, bind_e]
    obtain ⟨y34, e34, e⟩ := ob e
    have r34 := zaN_r e34
    rw [b_aN (O := O) h e34, bind_e]
    by_cases c35 : y34 ≤ v1
    · rw [if_pos c35] at e
      rw [le_T (by omega) (by omega) (by omega)]
      cases e
      exact ⟨_, rfl, h⟩
    · rw [if_neg c35] at e
      rw [le_F (by omega) (by omega) (by omega)]
      obtain ⟨y37, e37, e⟩ := ob e
      have z37 := Option.some.inj (e33.symm.trans e37)
      rw [← z37] at e
      rw [bind_e]
      obtain ⟨H38, e38, e⟩ := ob e
      obtain ⟨N38, a38, h38⟩ := b_wJ (i := (v1 : Int)) h e38 rfl
      rw [a38, bind_e]
      obtain ⟨N39, a39, h39⟩ := ih t v0 (v1 + 1) _ _ _ h38 e (by omega) (by omega)
      rw [show ((v1 + 1 : Nat) : Int) = (v1 : Int) + 1 by omega] at a39
      exact ⟨N39, a39, h39⟩
def m_Device_ctor (v0 : Nat) (M : zH) : Option zH :=
  zx (zA M 0 40) fun x1 M1 =>
  (zpR M1 v0 3 2 x1).bind fun M2 =>
  zx (zA M2 0 40) fun x2 M3 =>
  (zpR M3 v0 3 3 x2).bind fun M4 =>
  zx (zA M4 0 40) fun x3 M5 =>
  (zpR M5 v0 3 4 x3).bind fun M6 =>
  zx (zA M6 0 48) fun x4 M7 =>
  (zpR M7 v0 3 5 x4).bind fun M8 =>
  zx (zA M8 0 48) fun x5 M9 =>
  (zpR M9 v0 3 6 x5).bind fun M10 =>
  zx (zA M10 0 48) fun x6 M11 =>
  (zpR M11 v0 3 7 x6).bind fun M12 =>
  m_Device_ctor_54 60 v0 0 M12
theorem s_Device_ctor (hf : 1000 ≤ f) {v0 : Nat} {M M9 : zH} {N : xM} (h : zB M N) (e : m_Device_ctor v0 M = some M9) : ∃ N9, f_Device_ctor O f v0 N = some ((), N9) ∧ zB M9 N9 := by
  unfold m_Device_ctor at e
  unfold f_Device_ctor
  obtain ⟨q40, e40, e⟩ := zx_some e
  obtain ⟨N40, a40, h40⟩ := b_A (x := 40) h e40 rfl
  rw [a40, xcl_e]
  obtain ⟨H41, e41, e⟩ := ob e
  obtain ⟨N41, a41, h41⟩ := b_pR h40 e41
  rw [a41, bind_e]
  obtain ⟨q42, e42, e⟩ := zx_some e
  obtain ⟨N42, a42, h42⟩ := b_A (x := 40) h41 e42 rfl
  rw [a42, xcl_e]
  obtain ⟨H43, e43, e⟩ := ob e
  obtain ⟨N43, a43, h43⟩ := b_pR h42 e43
  rw [a43, bind_e]
  obtain ⟨q44, e44, e⟩ := zx_some e
  obtain ⟨N44, a44, h44⟩ := b_A (x := 40) h43 e44 rfl
  rw [a44, xcl_e]
  obtain ⟨H45, e45, e⟩ := ob e
  obtain ⟨N45, a45, h45⟩ := b_pR h44 e45
  rw [a45, bind_e]
  obtain ⟨q46, e46, e⟩ := zx_some e
  obtain ⟨N46, a46, h46⟩ := b_A (x := 48) h45 e46 rfl
  rw [a46, xcl_e]
  obtain ⟨H47, e47, e⟩ := ob e
  obtain ⟨N47, a47, h47⟩ := b_pR h46 e47
  rw [a47, bind_e]
  obtain ⟨q48, e48, e⟩ := zx_some e
  obtain ⟨N48, a48, h48⟩ := b_A (x := 48) h47 e48 rfl
  rw [a48, xcl_e]
  obtain ⟨H49, e49, e⟩ := ob e
  obtain ⟨N49, a49, h49⟩ := b_pR h48 e49
  rw [a49, bind_e]
  obtain ⟨q50, e50, e⟩ := zx_some e
  obtain ⟨N50, a50, h50⟩ := b_A (x := 48) h49 e50 rfl
  rw [a50, xcl_e]
  obtain ⟨H51, e51, e⟩ := ob e
  obtain ⟨N51, a51, h51⟩ := b_pR h50 e51
  rw [a51, bind_e]
  obtain ⟨N52, a52, h52⟩ := s_Device_ctor_54 (O := O) (f := f) hf 60 f v0 0 _ _ _ h51 e (by omega) (by omega)
  exact ⟨N52, a52, h52⟩
def m_Hall_ctor_222 : Nat → Nat → Nat → zH → Option zH
  | 0, _, _, _ => none
  | n + 1, v0, v1, M =>
    (zgR M v0 4 6).bind fun x1 =>
    (zaN M x1).bind fun x2 =>
    if x2 ≤ v1 then (
      some M
    ) else
    (zgR M v0 4 6).bind fun x3 =>
    (zwJ M x3 v1 (-1)).bind fun M1 =>
    m_Hall_ctor_222 n v0 (v1 + 1) M1
theorem s_Hall_ctor_222 (hf : 1000 ≤ f) : ∀ (n t v0 v1 : Nat) (M M9 : zH) (N : xM), zB M N → m_Hall_ctor_222 n v0 v1 M = some M9 → n ≤ t → v1 + n ≤ 1000000 → ∃ N9, f_Hall_ctor_222 O f t v0 (v1 : Int) N = some ((), N9) ∧ zB M9 N9 := by
  intro n
  induction n with
  | zero =>
    intro t v0 v1 M M9 N h e
    cases (show none = some M9 from e)
  | succ n ih =>
    intro t v0 v1 M M9 N h e ht hv
    obtain ⟨t, rfl⟩ : ∃ n', t = n' + 1 := ⟨t - 1, by omega⟩
    change Option.bind (zgR M v0 4 6) _ = some M9 at e
    show ∃ N9, Option.bind (gR O N v0 4 6) _ = _ ∧ _
    obtain ⟨y53, e53, e⟩ := ob e
    rw [b_gR (O := O) h e53, bind_e]
    obtain ⟨y54, e54, e⟩ := ob e
    have r54 := zaN_r e54
    rw [b_aN (O := O) h e54, bind_e]
    by_cases c55 : y54 ≤ v1
    · rw [if_pos c55] at e
      rw [le_T (by omega) (by omega) (by omega)]
      cases e
      exact ⟨_, rfl, h⟩
    · rw [if_neg c55] at e
      rw [le_F (by omega) (by omega) (by omega)]
      obtain ⟨y57, e57, e⟩ := ob e
      have z57 := Option.some.inj (e53.symm.trans e57)
      rw [← z57] at e
      rw [bind_e]
      obtain ⟨H58, e58, e⟩ := ob e
      obtain ⟨N58, a58, h58⟩ := b_wJ (i := (v1 : Int)) h e58 rfl
      rw [a58, bind_e]
      obtain ⟨N59, a59, h59⟩ := ih t v0 (v1 + 1) _ _ _ h58 e (by omega) (by omega)
      rw [show ((v1 + 1 : Nat) : Int) = (v1 : Int) + 1 by omega] at a59
      exact ⟨N59, a59, h59⟩
def m_Hall_ctor_192 : Nat → Nat → Nat → zH → Option zH
  | 0, _, _, _ => none
  | n + 1, v0, v1, M =>
    (zgR M v0 4 4).bind fun x1 =>
    (zaN M x1).bind fun x2 =>
    if x2 ≤ v1 then (
      m_Hall_ctor_222 60 v0 0 M
    ) else
    (zgR M v0 4 4).bind fun x3 =>
    zx (zO M 3) fun x4 M1 =>
    (m_Device_ctor x4 M1).bind fun M2 =>
    (zwR M2 x3 v1 x4).bind fun M3 =>
    m_Hall_ctor_192 n v0 (v1 + 1) M3
theorem s_Hall_ctor_192 (hf : 1000 ≤ f) : ∀ (n t v0 v1 : Nat) (M M9 : zH) (N : xM), zB M N → m_Hall_ctor_192 n v0 v1 M = some M9 → n ≤ t → v1 + n ≤ 1000000 → ∃ N9, f_Hall_ctor_192 O f t v0 (v1 : Int) N = some ((), N9) ∧ zB M9 N9 := by
  intro n
  induction n with
  | zero =>
    intro t v0 v1 M M9 N h e
    cases (show none = some M9 from e)
  | succ n ih =>
    intro t v0 v1 M M9 N h e ht hv
    obtain ⟨t, rfl⟩ : ∃ n', t = n' + 1 := ⟨t - 1, by omega⟩
    change Option.bind (zgR M v0 4 4) _ = some M9 at e
    show ∃ N9, Option.bind (gR O N v0 4 4) _ = _ ∧ _
    obtain ⟨y60, e60, e⟩ := ob e
    rw [b_gR (O := O) h e60, bind_e]
    obtain ⟨y61, e61, e⟩ := ob e
    have r61 := zaN_r e61
    rw [b_aN (O := O) h e61, bind_e]
    by_cases c62 : y61 ≤ v1
    · rw [if_pos c62] at e
      rw [le_T (by omega) (by omega) (by omega)]
      obtain ⟨N63, a63, h63⟩ := s_Hall_ctor_222 (O := O) (f := f) hf 60 f v0 0 _ _ _ h e (by omega) (by omega)
      exact ⟨N63, a63, h63⟩
    · rw [if_neg c62] at e
      rw [le_F (by omega) (by omega) (by omega)]
      obtain ⟨y64, e64, e⟩ := ob e
      have z64 := Option.some.inj (e60.symm.trans e64)
      rw [← z64] at e
      rw [bind_e]
      obtain ⟨q65, e65, e⟩ := zx_some e
      obtain ⟨N65, a65, h65⟩ := b_O h e65
      rw [a65, xcl_e]
      obtain ⟨H66, e66, e⟩ := ob e
      obtain ⟨N66, a66, h66⟩ := s_Device_ctor (O := O) (f := f) hf h65 e66
      rw [a66, xcl_e]
      obtain ⟨H67, e67, e⟩ := ob e
      obtain ⟨N67, a67, h67⟩ := b_wR (O := O) (i := (v1 : Int)) h66 e67 rfl
      rw [a67, bind_e]
      obtain ⟨N68, a68, h68⟩ := ih t v0 (v1 + 1) _ _ _ h67 e (by omega) (by omega)
      rw [show ((v1 + 1 : Nat) : Int) = (v1 : Int) + 1 by omega] at a68
      exact ⟨N68, a68, h68⟩
def m_Hall_ctor_162 : Nat → Nat → Nat → zH → Option zH
  | 0, _, _, _ => none
  | n + 1, v0, v1, M =>
    (zgR M v0 4 3).bind fun x1 =>
    (zaN M x1).bind fun x2 =>
    if x2 ≤ v1 then (
      m_Hall_ctor_192 60 v0 0 M
    ) else
    (zgR M v0 4 3).bind fun x3 =>
    zx (zO M 10) fun x4 M1 =>
    (m_Series_ctor x4 M1).bind fun M2 =>
    (zwR M2 x3 v1 x4).bind fun M3 =>
    m_Hall_ctor_162 n v0 (v1 + 1) M3
theorem s_Hall_ctor_162 (hf : 1000 ≤ f) : ∀ (n t v0 v1 : Nat) (M M9 : zH) (N : xM), zB M N → m_Hall_ctor_162 n v0 v1 M = some M9 → n ≤ t → v1 + n ≤ 1000000 → ∃ N9, f_Hall_ctor_162 O f t v0 (v1 : Int) N = some ((), N9) ∧ zB M9 N9 := by
  intro n
  induction n with
  | zero =>
    intro t v0 v1 M M9 N h e
    cases (show none = some M9 from e)
  | succ n ih =>
    intro t v0 v1 M M9 N h e ht hv
    obtain ⟨t, rfl⟩ : ∃ n', t = n' + 1 := ⟨t - 1, by omega⟩
    change Option.bind (zgR M v0 4 3) _ = some M9 at e
    show ∃ N9, Option.bind (gR O N v0 4 3) _ = _ ∧ _
    obtain ⟨y69, e69, e⟩ := ob e
    rw [b_gR (O := O) h e69, bind_e]
    obtain ⟨y70, e70, e⟩ := ob e
    have r70 := zaN_r e70
    rw [b_aN (O := O) h e70, bind_e]
    by_cases c71 : y70 ≤ v1
    · rw [if_pos c71] at e
      rw [le_T (by omega) (by omega) (by omega)]
      obtain ⟨N72, a72, h72⟩ := s_Hall_ctor_192 (O := O) (f := f) hf 60 f v0 0 _ _ _ h e (by omega) (by omega)
      exact ⟨N72, a72, h72⟩
    · rw [if_neg c71] at e
      rw [le_F (by omega) (by omega) (by omega)]
      obtain ⟨y73, e73, e⟩ := ob e
      have z73 := Option.some.inj (e69.symm.trans e73)
      rw [← z73] at e
      rw [bind_e]
      obtain ⟨q74, e74, e⟩ := zx_some e
      obtain ⟨N74, a74, h74⟩ := b_O h e74
      rw [a74, xcl_e]
      obtain ⟨H75, e75, e⟩ := ob e
      obtain ⟨N75, a75, h75⟩ := s_Series_ctor (O := O) (f := f) hf h74 e75
      rw [a75, xcl_e]
      obtain ⟨H76, e76, e⟩ := ob e
      obtain ⟨N76, a76, h76⟩ := b_wR (O := O) (i := (v1 : Int)) h75 e76 rfl
      rw [a76, bind_e]
      obtain ⟨N77, a77, h77⟩ := ih t v0 (v1 + 1) _ _ _ h76 e (by omega) (by omega)
      rw [show ((v1 + 1 : Nat) : Int) = (v1 : Int) + 1 by omega] at a77
      exact ⟨N77, a77, h77⟩
def m_Hall_ctor_132 : Nat → Nat → Nat → zH → Option zH
  | 0, _, _, _ => none
  | n + 1, v0, v1, M =>
    (zgR M v0 4 1).bind fun x1 =>
    (zaN M x1).bind fun x2 =>
    if x2 ≤ v1 then (
      m_Hall_ctor_162 60 v0 0 M
    ) else
    (zgR M v0 4 1).bind fun x3 =>
    zx (zO M 6) fun x4 M1 =>
    (m_Person_ctor x4 M1).bind fun M2 =>
    (zwR M2 x3 v1 x4).bind fun M3 =>
    m_Hall_ctor_132 n v0 (v1 + 1) M3
theorem s_Hall_ctor_132 (hf : 1000 ≤ f) : ∀ (n t v0 v1 : Nat) (M M9 : zH) (N : xM), zB M N → m_Hall_ctor_132 n v0 v1 M = some M9 → n ≤ t → v1 + n ≤ 1000000 → ∃ N9, f_Hall_ctor_132 O f t v0 (v1 : Int) N = some ((), N9) ∧ zB M9 N9 := by
  intro n
  induction n with
  | zero =>
    intro t v0 v1 M M9 N h e
    cases (show none = some M9 from e)
  | succ n ih =>
    intro t v0 v1 M M9 N h e ht hv
    obtain ⟨t, rfl⟩ : ∃ n', t = n' + 1 := ⟨t - 1, by omega⟩
    change Option.bind (zgR M v0 4 1) _ = some M9 at e
    show ∃ N9, Option.bind (gR O N v0 4 1) _ = _ ∧ _
    obtain ⟨y78, e78, e⟩ := ob e
    rw [b_gR (O := O) h e78, bind_e]
    obtain ⟨y79, e79, e⟩ := ob e
    have r79 := zaN_r e79
    rw [b_aN (O := O) h e79, bind_e]
    by_cases c80 : y79 ≤ v1
    · rw [if_pos c80] at e
      rw [le_T (by omega) (by omega) (by omega)]
      obtain ⟨N81, a81, h81⟩ := s_Hall_ctor_162 (O := O) (f := f) hf 60 f v0 0 _ _ _ h e (by omega) (by omega)
      exact ⟨N81, a81, h81⟩
    · rw [if_neg c80] at e
      rw [le_F (by omega) (by omega) (by omega)]
      obtain ⟨y82, e82, e⟩ := ob e
      have z82 := Option.some.inj (e78.symm.trans e82)
      rw [← z82] at e
      rw [bind_e]
      obtain ⟨q83, e83, e⟩ := zx_some e
      obtain ⟨N83, a83, h83⟩ := b_O h e83
      rw [a83, xcl_e]
      obtain ⟨H84, e84, e⟩ := ob e
      obtain ⟨N84, a84, h84⟩ := s_Person_ctor (O := O) (f := f) hf h83 e84
      rw [a84, xcl_e]
      obtain ⟨H85, e85, e⟩ := ob e
      obtain ⟨N85, a85, h85⟩ := b_wR (O := O) (i := (v1 : Int)) h84 e85 rfl
      rw [a85, bind_e]
      obtain ⟨N86, a86, h86⟩ := ih t v0 (v1 + 1) _ _ _ h85 e (by omega) (by omega)
      rw [show ((v1 + 1 : Nat) : Int) = (v1 : Int) + 1 by omega] at a86
      exact ⟨N86, a86, h86⟩
def m_Hall_ctor_102 : Nat → Nat → Nat → zH → Option zH
  | 0, _, _, _ => none
  | n + 1, v0, v1, M =>
    (zgR M v0 4 0).bind fun x1 =>
    (zaN M x1).bind fun x2 =>
    if x2 ≤ v1 then (
      m_Hall_ctor_132 60 v0 0 M
    ) else
    (zgR M v0 4 0).bind fun x3 =>
    zx (zO M 11) fun x4 M1 =>
    (m_Zone_ctor x4 M1).bind fun M2 =>
    (zwR M2 x3 v1 x4).bind fun M3 =>
    m_Hall_ctor_102 n v0 (v1 + 1) M3
theorem s_Hall_ctor_102 (hf : 1000 ≤ f) : ∀ (n t v0 v1 : Nat) (M M9 : zH) (N : xM), zB M N → m_Hall_ctor_102 n v0 v1 M = some M9 → n ≤ t → v1 + n ≤ 1000000 → ∃ N9, f_Hall_ctor_102 O f t v0 (v1 : Int) N = some ((), N9) ∧ zB M9 N9 := by
  intro n
  induction n with
  | zero =>
    intro t v0 v1 M M9 N h e
    cases (show none = some M9 from e)
  | succ n ih =>
    intro t v0 v1 M M9 N h e ht hv
    obtain ⟨t, rfl⟩ : ∃ n', t = n' + 1 := ⟨t - 1, by omega⟩
    change Option.bind (zgR M v0 4 0) _ = some M9 at e
    show ∃ N9, Option.bind (gR O N v0 4 0) _ = _ ∧ _
    obtain ⟨y87, e87, e⟩ := ob e
    rw [b_gR (O := O) h e87, bind_e]
    obtain ⟨y88, e88, e⟩ := ob e
    have r88 := zaN_r e88
    rw [b_aN (O := O) h e88, bind_e]
    by_cases c89 : y88 ≤ v1
    · rw [if_pos c89] at e
      rw [le_T (by omega) (by omega) (by omega)]
      obtain ⟨N90, a90, h90⟩ := s_Hall_ctor_132 (O := O) (f := f) hf 60 f v0 0 _ _ _ h e (by omega) (by omega)
      exact ⟨N90, a90, h90⟩
    · rw [if_neg c89] at e
      rw [le_F (by omega) (by omega) (by omega)]
      obtain ⟨y91, e91, e⟩ := ob e
      have z91 := Option.some.inj (e87.symm.trans e91)
      rw [← z91] at e
      rw [bind_e]
      obtain ⟨q92, e92, e⟩ := zx_some e
      obtain ⟨N92, a92, h92⟩ := b_O h e92
      rw [a92, xcl_e]
      obtain ⟨H93, e93, e⟩ := ob e
      obtain ⟨N93, a93, h93⟩ := s_Zone_ctor (O := O) (f := f) hf h92 e93
      rw [a93, xcl_e]
      obtain ⟨H94, e94, e⟩ := ob e
      obtain ⟨N94, a94, h94⟩ := b_wR (O := O) (i := (v1 : Int)) h93 e94 rfl
      rw [a94, bind_e]
      obtain ⟨N95, a95, h95⟩ := ih t v0 (v1 + 1) _ _ _ h94 e (by omega) (by omega)
      rw [show ((v1 + 1 : Nat) : Int) = (v1 : Int) + 1 by omega] at a95
      exact ⟨N95, a95, h95⟩
def m_Hall_ctor (v0 : Nat) (M : zH) : Option zH :=
  zx (zA M 7 3) fun x1 M1 =>
  (zpR M1 v0 4 0 x1).bind fun M2 =>
  zx (zA M2 8 8) fun x2 M3 =>
  (zpR M3 v0 4 1 x2).bind fun M4 =>
  zx (zA M4 0 4) fun x3 M5 =>
  (zwJ M5 x3 0 0).bind fun M6 =>
  (zwJ M6 x3 1 1).bind fun M7 =>
  (zwJ M7 x3 2 2).bind fun M8 =>
  (zwJ M8 x3 3 3).bind fun M9 =>
  (zpR M9 v0 4 2 x3).bind fun M10 =>
  zx (zA M10 9 12) fun x4 M11 =>
  (zpR M11 v0 4 3 x4).bind fun M12 =>
  zx (zA M12 10 2) fun x5 M13 =>
  (zpR M13 v0 4 4 x5).bind fun M14 =>
  (zpJ M14 v0 4 5 14400).bind fun M15 =>
  zx (zA M15 0 10) fun x6 M16 =>
  (zpR M16 v0 4 6 x6).bind fun M17 =>
  zx (zA M17 0 10) fun x7 M18 =>
  (zpR M18 v0 4 7 x7).bind fun M19 =>
  zx (zA M19 1 30) fun x8 M20 =>
  (zpR M20 v0 4 8 x8).bind fun M21 =>
  zx (zA M21 1 10) fun x9 M22 =>
  (zpR M22 v0 4 10 x9).bind fun M23 =>
  m_Hall_ctor_102 60 v0 0 M23
theorem s_Hall_ctor (hf : 1000 ≤ f) {v0 : Nat} {M M9 : zH} {N : xM} (h : zB M N) (e : m_Hall_ctor v0 M = some M9) : ∃ N9, f_Hall_ctor O f v0 N = some ((), N9) ∧ zB M9 N9 := by
  unfold m_Hall_ctor at e
  unfold f_Hall_ctor
  obtain ⟨q96, e96, e⟩ := zx_some e
  obtain ⟨N96, a96, h96⟩ := b_A (x := 3) h e96 rfl
  rw [a96, xcl_e]
  obtain ⟨H97, e97, e⟩ := ob e
  obtain ⟨N97, a97, h97⟩ := b_pR h96 e97
  rw [a97, bind_e]
  obtain ⟨q98, e98, e⟩ := zx_some e
  obtain ⟨N98, a98, h98⟩ := b_A (x := 8) h97 e98 rfl
  rw [a98, xcl_e]
  obtain ⟨H99, e99, e⟩ := ob e
  obtain ⟨N99, a99, h99⟩ := b_pR h98 e99
  rw [a99, bind_e]
  obtain ⟨q100, e100, e⟩ := zx_some e
  obtain ⟨N100, a100, h100⟩ := b_A (x := 4) h99 e100 rfl
  rw [a100, xcl_e]
  obtain ⟨H101, e101, e⟩ := ob e
  obtain ⟨N101, a101, h101⟩ := b_wJ (i := 0) h100 e101 rfl
  rw [a101, bind_e]
  obtain ⟨H102, e102, e⟩ := ob e
  obtain ⟨N102, a102, h102⟩ := b_wJ (i := 1) h101 e102 rfl
  rw [a102, bind_e]
  obtain ⟨H103, e103, e⟩ := ob e
  obtain ⟨N103, a103, h103⟩ := b_wJ (i := 2) h102 e103 rfl
  rw [a103, bind_e]
  obtain ⟨H104, e104, e⟩ := ob e
  obtain ⟨N104, a104, h104⟩ := b_wJ (i := 3) h103 e104 rfl
  rw [a104, bind_e]
  obtain ⟨H105, e105, e⟩ := ob e
  obtain ⟨N105, a105, h105⟩ := b_pR h104 e105
  rw [a105, bind_e]
  obtain ⟨q106, e106, e⟩ := zx_some e
  obtain ⟨N106, a106, h106⟩ := b_A (x := 12) h105 e106 rfl
  rw [a106, xcl_e]
  obtain ⟨H107, e107, e⟩ := ob e
  obtain ⟨N107, a107, h107⟩ := b_pR h106 e107
  rw [a107, bind_e]
  obtain ⟨q108, e108, e⟩ := zx_some e
  obtain ⟨N108, a108, h108⟩ := b_A (x := 2) h107 e108 rfl
  rw [a108, xcl_e]
  obtain ⟨H109, e109, e⟩ := ob e
  obtain ⟨N109, a109, h109⟩ := b_pR h108 e109
  rw [a109, bind_e]
  obtain ⟨H110, e110, e⟩ := ob e
  obtain ⟨N110, a110, h110⟩ := b_pJ h109 e110
  rw [a110, bind_e]
  obtain ⟨q111, e111, e⟩ := zx_some e
  obtain ⟨N111, a111, h111⟩ := b_A (x := 10) h110 e111 rfl
  rw [a111, xcl_e]
  obtain ⟨H112, e112, e⟩ := ob e
  obtain ⟨N112, a112, h112⟩ := b_pR h111 e112
  rw [a112, bind_e]
  obtain ⟨q113, e113, e⟩ := zx_some e
  obtain ⟨N113, a113, h113⟩ := b_A (x := 10) h112 e113 rfl
  rw [a113, xcl_e]
  obtain ⟨H114, e114, e⟩ := ob e
  obtain ⟨N114, a114, h114⟩ := b_pR h113 e114
  rw [a114, bind_e]
  obtain ⟨q115, e115, e⟩ := zx_some e
  obtain ⟨N115, a115, h115⟩ := b_A (x := 30) h114 e115 rfl
  rw [a115, xcl_e]
  obtain ⟨H116, e116, e⟩ := ob e
  obtain ⟨N116, a116, h116⟩ := b_pR h115 e116
  rw [a116, bind_e]
  obtain ⟨q117, e117, e⟩ := zx_some e
  obtain ⟨N117, a117, h117⟩ := b_A (x := 10) h116 e117 rfl
  rw [a117, xcl_e]
  obtain ⟨H118, e118, e⟩ := ob e
  obtain ⟨N118, a118, h118⟩ := b_pR h117 e118
  rw [a118, bind_e]
  obtain ⟨N119, a119, h119⟩ := s_Hall_ctor_102 (O := O) (f := f) hf 60 f v0 0 _ _ _ h118 e (by omega) (by omega)
  exact ⟨N119, a119, h119⟩
def m_Dates_ctor (v0 : Nat) (M : zH) : Option zH :=
  zx (zA M 1 320) fun x1 M1 =>
  (zpR M1 v0 2 1 x1).bind fun M2 =>
  zx (zA M2 0 16) fun x2 M3 =>
  (zpR M3 v0 2 2 x2).bind fun M4 =>
  some M4
theorem s_Dates_ctor (hf : 1000 ≤ f) {v0 : Nat} {M M9 : zH} {N : xM} (h : zB M N) (e : m_Dates_ctor v0 M = some M9) : ∃ N9, f_Dates_ctor O f v0 N = some ((), N9) ∧ zB M9 N9 := by
  unfold m_Dates_ctor at e
  unfold f_Dates_ctor
  obtain ⟨q120, e120, e⟩ := zx_some e
  obtain ⟨N120, a120, h120⟩ := b_A (x := 320) h e120 rfl
  rw [a120, xcl_e]
  obtain ⟨H121, e121, e⟩ := ob e
  obtain ⟨N121, a121, h121⟩ := b_pR h120 e121
  rw [a121, bind_e]
  obtain ⟨q122, e122, e⟩ := zx_some e
  obtain ⟨N122, a122, h122⟩ := b_A (x := 16) h121 e122 rfl
  rw [a122, xcl_e]
  obtain ⟨H123, e123, e⟩ := ob e
  obtain ⟨N123, a123, h123⟩ := b_pR h122 e123
  rw [a123, bind_e]
  cases e
  exact ⟨_, rfl, h123⟩
def m_Meetings_ctor (v0 : Nat) (M : zH) : Option zH :=
  zx (zA M 0 256) fun x1 M1 =>
  (zpR M1 v0 5 1 x1).bind fun M2 =>
  zx (zA M2 0 256) fun x2 M3 =>
  (zpR M3 v0 5 2 x2).bind fun M4 =>
  zx (zA M4 0 256) fun x3 M5 =>
  (zpR M5 v0 5 3 x3).bind fun M6 =>
  zx (zA M6 0 4) fun x4 M7 =>
  (zpR M7 v0 5 4 x4).bind fun M8 =>
  zx (zA M8 1 256) fun x5 M9 =>
  (zpR M9 v0 5 6 x5).bind fun M10 =>
  zx (zA M10 0 256) fun x6 M11 =>
  (zpR M11 v0 5 7 x6).bind fun M12 =>
  zx (zA M12 0 9216) fun x7 M13 =>
  (zpR M13 v0 5 8 x7).bind fun M14 =>
  some M14
theorem s_Meetings_ctor (hf : 1000 ≤ f) {v0 : Nat} {M M9 : zH} {N : xM} (h : zB M N) (e : m_Meetings_ctor v0 M = some M9) : ∃ N9, f_Meetings_ctor O f v0 N = some ((), N9) ∧ zB M9 N9 := by
  unfold m_Meetings_ctor at e
  unfold f_Meetings_ctor
  obtain ⟨q125, e125, e⟩ := zx_some e
  obtain ⟨N125, a125, h125⟩ := b_A (x := 256) h e125 rfl
  rw [a125, xcl_e]
  obtain ⟨H126, e126, e⟩ := ob e
  obtain ⟨N126, a126, h126⟩ := b_pR h125 e126
  rw [a126, bind_e]
  obtain ⟨q127, e127, e⟩ := zx_some e
  obtain ⟨N127, a127, h127⟩ := b_A (x := 256) h126 e127 rfl
  rw [a127, xcl_e]
  obtain ⟨H128, e128, e⟩ := ob e
  obtain ⟨N128, a128, h128⟩ := b_pR h127 e128
  rw [a128, bind_e]
  obtain ⟨q129, e129, e⟩ := zx_some e
  obtain ⟨N129, a129, h129⟩ := b_A (x := 256) h128 e129 rfl
  rw [a129, xcl_e]
  obtain ⟨H130, e130, e⟩ := ob e
  obtain ⟨N130, a130, h130⟩ := b_pR h129 e130
  rw [a130, bind_e]
  obtain ⟨q131, e131, e⟩ := zx_some e
  obtain ⟨N131, a131, h131⟩ := b_A (x := 4) h130 e131 rfl
  rw [a131, xcl_e]
  obtain ⟨H132, e132, e⟩ := ob e
  obtain ⟨N132, a132, h132⟩ := b_pR h131 e132
  rw [a132, bind_e]
  obtain ⟨q133, e133, e⟩ := zx_some e
  obtain ⟨N133, a133, h133⟩ := b_A (x := 256) h132 e133 rfl
  rw [a133, xcl_e]
  obtain ⟨H134, e134, e⟩ := ob e
  obtain ⟨N134, a134, h134⟩ := b_pR h133 e134
  rw [a134, bind_e]
  obtain ⟨q135, e135, e⟩ := zx_some e
  obtain ⟨N135, a135, h135⟩ := b_A (x := 256) h134 e135 rfl
  rw [a135, xcl_e]
  obtain ⟨H136, e136, e⟩ := ob e
  obtain ⟨N136, a136, h136⟩ := b_pR h135 e136
  rw [a136, bind_e]
  obtain ⟨q137, e137, e⟩ := zx_some e
  obtain ⟨N137, a137, h137⟩ := b_A (x := 9216) h136 e137 rfl
  rw [a137, xcl_e]
  obtain ⟨H138, e138, e⟩ := ob e
  obtain ⟨N138, a138, h138⟩ := b_pR h137 e138
  rw [a138, bind_e]
  cases e
  exact ⟨_, rfl, h138⟩
def m_Planner_ctor (v0 : Nat) (M : zH) : Option zH :=
  zx (zA M 1 5) fun x1 M1 =>
  (zpR M1 v0 7 2 x1).bind fun M2 =>
  zx (zA M2 0 5) fun x2 M3 =>
  (zpR M3 v0 7 3 x2).bind fun M4 =>
  zx (zA M4 0 5) fun x3 M5 =>
  (zpR M5 v0 7 4 x3).bind fun M6 =>
  zx (zA M6 0 5) fun x4 M7 =>
  (zpR M7 v0 7 5 x4).bind fun M8 =>
  zx (zA M8 0 5) fun x5 M9 =>
  (zpR M9 v0 7 6 x5).bind fun M10 =>
  zx (zA M10 0 5) fun x6 M11 =>
  (zpR M11 v0 7 7 x6).bind fun M12 =>
  some M12
theorem s_Planner_ctor (hf : 1000 ≤ f) {v0 : Nat} {M M9 : zH} {N : xM} (h : zB M N) (e : m_Planner_ctor v0 M = some M9) : ∃ N9, f_Planner_ctor O f v0 N = some ((), N9) ∧ zB M9 N9 := by
  unfold m_Planner_ctor at e
  unfold f_Planner_ctor
  obtain ⟨q140, e140, e⟩ := zx_some e
  obtain ⟨N140, a140, h140⟩ := b_A (x := 5) h e140 rfl
  rw [a140, xcl_e]
  obtain ⟨H141, e141, e⟩ := ob e
  obtain ⟨N141, a141, h141⟩ := b_pR h140 e141
  rw [a141, bind_e]
  obtain ⟨q142, e142, e⟩ := zx_some e
  obtain ⟨N142, a142, h142⟩ := b_A (x := 5) h141 e142 rfl
  rw [a142, xcl_e]
  obtain ⟨H143, e143, e⟩ := ob e
  obtain ⟨N143, a143, h143⟩ := b_pR h142 e143
  rw [a143, bind_e]
  obtain ⟨q144, e144, e⟩ := zx_some e
  obtain ⟨N144, a144, h144⟩ := b_A (x := 5) h143 e144 rfl
  rw [a144, xcl_e]
  obtain ⟨H145, e145, e⟩ := ob e
  obtain ⟨N145, a145, h145⟩ := b_pR h144 e145
  rw [a145, bind_e]
  obtain ⟨q146, e146, e⟩ := zx_some e
  obtain ⟨N146, a146, h146⟩ := b_A (x := 5) h145 e146 rfl
  rw [a146, xcl_e]
  obtain ⟨H147, e147, e⟩ := ob e
  obtain ⟨N147, a147, h147⟩ := b_pR h146 e147
  rw [a147, bind_e]
  obtain ⟨q148, e148, e⟩ := zx_some e
  obtain ⟨N148, a148, h148⟩ := b_A (x := 5) h147 e148 rfl
  rw [a148, xcl_e]
  obtain ⟨H149, e149, e⟩ := ob e
  obtain ⟨N149, a149, h149⟩ := b_pR h148 e149
  rw [a149, bind_e]
  obtain ⟨q150, e150, e⟩ := zx_some e
  obtain ⟨N150, a150, h150⟩ := b_A (x := 5) h149 e150 rfl
  rw [a150, xcl_e]
  obtain ⟨H151, e151, e⟩ := ob e
  obtain ⟨N151, a151, h151⟩ := b_pR h150 e151
  rw [a151, bind_e]
  cases e
  exact ⟨_, rfl, h151⟩
def m_Reader_ctor (v0 : Nat) (M : zH) : Option zH :=
  zx (zO M 9) fun x1 M1 =>
  (m_Rule_ctor x1 M1).bind fun M2 =>
  (zpR M2 v0 8 1 x1).bind fun M3 =>
  zx (zA M3 4 120) fun x3 M4 =>
  (zpR M4 v0 8 2 x3).bind fun M5 =>
  some M5
theorem s_Reader_ctor (hf : 1000 ≤ f) {v0 : Nat} {M M9 : zH} {N : xM} (h : zB M N) (e : m_Reader_ctor v0 M = some M9) : ∃ N9, f_Reader_ctor O f v0 N = some ((), N9) ∧ zB M9 N9 := by
  unfold m_Reader_ctor at e
  unfold f_Reader_ctor
  obtain ⟨q153, e153, e⟩ := zx_some e
  obtain ⟨N153, a153, h153⟩ := b_O h e153
  rw [a153, xcl_e]
  obtain ⟨H154, e154, e⟩ := ob e
  obtain ⟨N154, a154, h154⟩ := s_Rule_ctor (O := O) (f := f) hf h153 e154
  rw [a154, xcl_e]
  obtain ⟨H155, e155, e⟩ := ob e
  obtain ⟨N155, a155, h155⟩ := b_pR h154 e155
  rw [a155, bind_e]
  obtain ⟨q156, e156, e⟩ := zx_some e
  obtain ⟨N156, a156, h156⟩ := b_A (x := 120) h155 e156 rfl
  rw [a156, xcl_e]
  obtain ⟨H157, e157, e⟩ := ob e
  obtain ⟨N157, a157, h157⟩ := b_pR h156 e157
  rw [a157, bind_e]
  cases e
  exact ⟨_, rfl, h157⟩
def m_AbstractStringBuilder_ctor (v0 : Nat) (v1 : Nat) (M : zH) : Option zH :=
  zx (zA M 3 v1) fun x1 M1 =>
  (zpR M1 v0 1 0 x1).bind fun M2 =>
  (zpJ M2 v0 1 1 0).bind fun M3 =>
  some M3
theorem s_AbstractStringBuilder_ctor (hf : 1000 ≤ f) {v0 v1 : Nat} {M M9 : zH} {N : xM} (h : zB M N) (e : m_AbstractStringBuilder_ctor v0 v1 M = some M9) : ∃ N9, f_AbstractStringBuilder_ctor O f v0 (v1 : Int) N = some ((), N9) ∧ zB M9 N9 := by
  unfold m_AbstractStringBuilder_ctor at e
  unfold f_AbstractStringBuilder_ctor
  rw [eq_F (a := 1) (b := 0) (by omega) (by omega) (by omega) (by omega) (by omega)]
  obtain ⟨q160, e160, e⟩ := zx_some e
  obtain ⟨N160, a160, h160⟩ := b_A (x := (v1 : Int)) h e160 rfl
  rw [a160, xcl_e]
  obtain ⟨H161, e161, e⟩ := ob e
  obtain ⟨N161, a161, h161⟩ := b_pR h160 e161
  rw [a161, bind_e]
  obtain ⟨H162, e162, e⟩ := ob e
  obtain ⟨N162, a162, h162⟩ := b_pJ h161 e162
  rw [a162, bind_e]
  cases e
  exact ⟨_, rfl, h162⟩
def m_StringBuilder_ctor (v0 : Nat) (M : zH) : Option zH :=
  (m_AbstractStringBuilder_ctor v0 16 M).bind fun M1 =>
  some M1
theorem s_StringBuilder_ctor (hf : 1000 ≤ f) {v0 : Nat} {M M9 : zH} {N : xM} (h : zB M N) (e : m_StringBuilder_ctor v0 M = some M9) : ∃ N9, f_StringBuilder_ctor O f v0 N = some ((), N9) ∧ zB M9 N9 := by
  unfold m_StringBuilder_ctor at e
  unfold f_StringBuilder_ctor
  obtain ⟨H164, e164, e⟩ := ob e
  obtain ⟨N164, a164, h164⟩ := s_AbstractStringBuilder_ctor (O := O) (f := f) hf h e164
  replace a164 : f_AbstractStringBuilder_ctor O f v0 16 N = some ((), N164) := a164
  rw [a164, xcl_e]
  cases e
  exact ⟨_, rfl, h164⟩
def m_Calendarhall_ctor_90 : Nat → Nat → Nat → zH → Option zH
  | 0, _, _, _ => none
  | n + 1, v0, v1, M =>
    (zgR M v0 12 1).bind fun x1 =>
    (zaN M x1).bind fun x2 =>
    if x2 ≤ v1 then (
      some M
    ) else
    (zgR M v0 12 1).bind fun x3 =>
    zx (zO M 4) fun x4 M1 =>
    (m_Hall_ctor x4 M1).bind fun M2 =>
    (zwR M2 x3 v1 x4).bind fun M3 =>
    m_Calendarhall_ctor_90 n v0 (v1 + 1) M3
theorem s_Calendarhall_ctor_90 (hf : 1000 ≤ f) : ∀ (n t v0 v1 : Nat) (M M9 : zH) (N : xM), zB M N → m_Calendarhall_ctor_90 n v0 v1 M = some M9 → n ≤ t → v1 + n ≤ 1000000 → ∃ N9, f_Calendarhall_ctor_90 O f t v0 (v1 : Int) N = some ((), N9) ∧ zB M9 N9 := by
  intro n
  induction n with
  | zero =>
    intro t v0 v1 M M9 N h e
    cases (show none = some M9 from e)
  | succ n ih =>
    intro t v0 v1 M M9 N h e ht hv
    obtain ⟨t, rfl⟩ : ∃ n', t = n' + 1 := ⟨t - 1, by omega⟩
    change Option.bind (zgR M v0 12 1) _ = some M9 at e
    show ∃ N9, Option.bind (gR O N v0 12 1) _ = _ ∧ _
    obtain ⟨y166, e166, e⟩ := ob e
    rw [b_gR (O := O) h e166, bind_e]
    obtain ⟨y167, e167, e⟩ := ob e
    have r167 := zaN_r e167
    rw [b_aN (O := O) h e167, bind_e]
    by_cases c168 : y167 ≤ v1
    · rw [if_pos c168] at e
      rw [le_T (by omega) (by omega) (by omega)]
      cases e
      exact ⟨_, rfl, h⟩
    · rw [if_neg c168] at e
      rw [le_F (by omega) (by omega) (by omega)]
      obtain ⟨y170, e170, e⟩ := ob e
      have z170 := Option.some.inj (e166.symm.trans e170)
      rw [← z170] at e
      rw [bind_e]
      obtain ⟨q171, e171, e⟩ := zx_some e
      obtain ⟨N171, a171, h171⟩ := b_O h e171
      rw [a171, xcl_e]
      obtain ⟨H172, e172, e⟩ := ob e
      obtain ⟨N172, a172, h172⟩ := s_Hall_ctor (O := O) (f := f) hf h171 e172
      rw [a172, xcl_e]
      obtain ⟨H173, e173, e⟩ := ob e
      obtain ⟨N173, a173, h173⟩ := b_wR (O := O) (i := (v1 : Int)) h172 e173 rfl
      rw [a173, bind_e]
      obtain ⟨N174, a174, h174⟩ := ih t v0 (v1 + 1) _ _ _ h173 e (by omega) (by omega)
      rw [show ((v1 + 1 : Nat) : Int) = (v1 : Int) + 1 by omega] at a174
      exact ⟨N174, a174, h174⟩
def m_Calendarhall_ctor (v0 : Nat) (M : zH) : Option zH :=
  zx (zO M 4) fun x1 M1 =>
  (m_Hall_ctor x1 M1).bind fun M2 =>
  (zpR M2 v0 12 0 x1).bind fun M3 =>
  zx (zA M3 6 8) fun x3 M4 =>
  (zpR M4 v0 12 1 x3).bind fun M5 =>
  zx (zO M5 2) fun x4 M6 =>
  (m_Dates_ctor x4 M6).bind fun M7 =>
  (zpR M7 v0 12 4 x4).bind fun M8 =>
  zx (zO M8 5) fun x6 M9 =>
  (m_Meetings_ctor x6 M9).bind fun M10 =>
  (zpR M10 v0 12 5 x6).bind fun M11 =>
  zx (zO M11 7) fun x8 M12 =>
  (m_Planner_ctor x8 M12).bind fun M13 =>
  (zpR M13 v0 12 6 x8).bind fun M14 =>
  zx (zO M14 8) fun x10 M15 =>
  (m_Reader_ctor x10 M15).bind fun M16 =>
  (zpR M16 v0 12 7 x10).bind fun M17 =>
  zx (zO M17 1) fun x12 M18 =>
  (m_StringBuilder_ctor x12 M18).bind fun M19 =>
  (zpR M19 v0 12 8 x12).bind fun M20 =>
  zx (zA M20 0 672) fun x14 M21 =>
  (zpR M21 v0 12 9 x14).bind fun M22 =>
  m_Calendarhall_ctor_90 60 v0 0 M22
theorem s_Calendarhall_ctor (hf : 1000 ≤ f) {v0 : Nat} {M M9 : zH} {N : xM} (h : zB M N) (e : m_Calendarhall_ctor v0 M = some M9) : ∃ N9, f_Calendarhall_ctor O f v0 N = some ((), N9) ∧ zB M9 N9 := by
  unfold m_Calendarhall_ctor at e
  unfold f_Calendarhall_ctor
  obtain ⟨q175, e175, e⟩ := zx_some e
  obtain ⟨N175, a175, h175⟩ := b_O h e175
  rw [a175, xcl_e]
  obtain ⟨H176, e176, e⟩ := ob e
  obtain ⟨N176, a176, h176⟩ := s_Hall_ctor (O := O) (f := f) hf h175 e176
  rw [a176, xcl_e]
  obtain ⟨H177, e177, e⟩ := ob e
  obtain ⟨N177, a177, h177⟩ := b_pR h176 e177
  rw [a177, bind_e]
  obtain ⟨q178, e178, e⟩ := zx_some e
  obtain ⟨N178, a178, h178⟩ := b_A (x := 8) h177 e178 rfl
  rw [a178, xcl_e]
  obtain ⟨H179, e179, e⟩ := ob e
  obtain ⟨N179, a179, h179⟩ := b_pR h178 e179
  rw [a179, bind_e]
  obtain ⟨q180, e180, e⟩ := zx_some e
  obtain ⟨N180, a180, h180⟩ := b_O h179 e180
  rw [a180, xcl_e]
  obtain ⟨H181, e181, e⟩ := ob e
  obtain ⟨N181, a181, h181⟩ := s_Dates_ctor (O := O) (f := f) hf h180 e181
  rw [a181, xcl_e]
  obtain ⟨H182, e182, e⟩ := ob e
  obtain ⟨N182, a182, h182⟩ := b_pR h181 e182
  rw [a182, bind_e]
  obtain ⟨q183, e183, e⟩ := zx_some e
  obtain ⟨N183, a183, h183⟩ := b_O h182 e183
  rw [a183, xcl_e]
  obtain ⟨H184, e184, e⟩ := ob e
  obtain ⟨N184, a184, h184⟩ := s_Meetings_ctor (O := O) (f := f) hf h183 e184
  rw [a184, xcl_e]
  obtain ⟨H185, e185, e⟩ := ob e
  obtain ⟨N185, a185, h185⟩ := b_pR h184 e185
  rw [a185, bind_e]
  obtain ⟨q186, e186, e⟩ := zx_some e
  obtain ⟨N186, a186, h186⟩ := b_O h185 e186
  rw [a186, xcl_e]
  obtain ⟨H187, e187, e⟩ := ob e
  obtain ⟨N187, a187, h187⟩ := s_Planner_ctor (O := O) (f := f) hf h186 e187
  rw [a187, xcl_e]
  obtain ⟨H188, e188, e⟩ := ob e
  obtain ⟨N188, a188, h188⟩ := b_pR h187 e188
  rw [a188, bind_e]
  obtain ⟨q189, e189, e⟩ := zx_some e
  obtain ⟨N189, a189, h189⟩ := b_O h188 e189
  rw [a189, xcl_e]
  obtain ⟨H190, e190, e⟩ := ob e
  obtain ⟨N190, a190, h190⟩ := s_Reader_ctor (O := O) (f := f) hf h189 e190
  rw [a190, xcl_e]
  obtain ⟨H191, e191, e⟩ := ob e
  obtain ⟨N191, a191, h191⟩ := b_pR h190 e191
  rw [a191, bind_e]
  obtain ⟨q192, e192, e⟩ := zx_some e
  obtain ⟨N192, a192, h192⟩ := b_O h191 e192
  rw [a192, xcl_e]
  obtain ⟨H193, e193, e⟩ := ob e
  obtain ⟨N193, a193, h193⟩ := s_StringBuilder_ctor (O := O) (f := f) hf h192 e193
  rw [a193, xcl_e]
  obtain ⟨H194, e194, e⟩ := ob e
  obtain ⟨N194, a194, h194⟩ := b_pR h193 e194
  rw [a194, bind_e]
  obtain ⟨q195, e195, e⟩ := zx_some e
  obtain ⟨N195, a195, h195⟩ := b_A (x := 672) h194 e195 rfl
  rw [a195, xcl_e]
  obtain ⟨H196, e196, e⟩ := ob e
  obtain ⟨N196, a196, h196⟩ := b_pR h195 e196
  rw [a196, bind_e]
  obtain ⟨N197, a197, h197⟩ := s_Calendarhall_ctor_90 (O := O) (f := f) hf 60 f v0 0 _ _ _ h196 e (by omega) (by omega)
  exact ⟨N197, a197, h197⟩
end ZMS
