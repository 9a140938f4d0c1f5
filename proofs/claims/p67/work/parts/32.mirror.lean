/-! ===== the heap in columns, and a program's text over it ===== -/
theorem xs_sub1 {i : Nat} {v : Value} {lv lv' : List (Nat × Value)} (hs : ∀ q ∈ lv, q ∈ lv') : ∀ q ∈ xs_1 i v lv, q ∈ xs_1 i v lv' := by
  intro q hq
  unfold xs_1 at hq ⊢
  rw [List.mem_cons, List.mem_filter] at hq ⊢
  exact hq.imp id (fun z => ⟨hs _ z.1, z.2⟩)
theorem xs_sub2 {i : Nat} {v : Value} {lv lv' : List (Nat × Value)} (hs : ∀ q ∈ lv, q ∈ lv') : ∀ q ∈ xs_2 i v lv, q ∈ xs_2 i v lv' := by
  intro q hq
  unfold xs_2 at hq ⊢
  rw [List.mem_cons, List.mem_filter] at hq ⊢
  exact hq.imp id (fun z => ⟨hs _ z.1, z.2⟩)
theorem xs_nd1 {i : Nat} {v : Value} {lv : List (Nat × Value)} (hn : (lv.map Prod.fst).Nodup) : ((xs_1 i v lv).map Prod.fst).Nodup := by
  unfold xs_1
  rw [List.map_cons, List.nodup_cons]
  refine ⟨fun h => ?_, hn.sublist ((List.filter_sublist).map _)⟩
  obtain ⟨q, hq, e⟩ := List.mem_map.mp h
  have := (List.mem_filter.mp hq).2
  simp [e] at this
theorem xs_nd2 {i : Nat} {v : Value} {lv : List (Nat × Value)} (hn : (lv.map Prod.fst).Nodup) : ((xs_2 i v lv).map Prod.fst).Nodup := by
  unfold xs_2
  rw [List.map_cons, List.nodup_cons]
  refine ⟨fun h => ?_, hn.sublist ((List.filter_sublist).map _)⟩
  obtain ⟨q, hq, e⟩ := List.mem_map.mp h
  have := (List.mem_filter.mp hq).2
  simp [e] at this
theorem xlk_in {i : Nat} {v : Value} : ∀ {lv : List (Nat × Value)}, xlk i lv = some v → (i, v) ∈ lv
  | [], h => by cases h
  | q :: t, h => by
    unfold xlk at h
    split at h
    · rename_i e
      cases h
      subst e
      exact List.mem_cons_self
    · exact List.mem_cons_of_mem _ (xlk_in h)
theorem xlk_of {i : Nat} {v : Value} : ∀ {lv : List (Nat × Value)}, (lv.map Prod.fst).Nodup → (i, v) ∈ lv → xlk i lv = some v
  | [], _, h => by cases h
  | q :: t, hn, h => by
    rw [List.map_cons, List.nodup_cons] at hn
    unfold xlk
    rcases List.mem_cons.mp h with e | e
    · subst e
      rw [if_pos rfl]
    · rw [if_neg (fun z : q.1 = i => hn.1 (List.mem_map.mpr ⟨(i, v), e, z.symm⟩))]
      exact xlk_of hn.2 e
theorem xlk_sub {i : Nat} {v : Value} {lv lv' : List (Nat × Value)} (hs : ∀ q ∈ lv, q ∈ lv') (hn : (lv'.map Prod.fst).Nodup) (h : xlk i lv = some v) : xlk i lv' = some v := xlk_of hn (hs _ (xlk_in h))
theorem ldI {i : Nat} {lv : List (Nat × Value)} {st : List Value} {x : Int32} (h : xlk i lv = some (.int x)) : (match xlk i lv with
    | some (.int x) => some (lv, Value.int x :: st)
    | _ => none) = some (lv, .int x :: st) := by rw [h]
theorem ldL {i : Nat} {lv : List (Nat × Value)} {st : List Value} {x : Int64} (h : xlk i lv = some (.long x)) : (match xlk i lv with
    | some (.long x) => some (lv, Value.long x :: st)
    | _ => none) = some (lv, .long x :: st) := by rw [h]
theorem ldR {i : Nat} {lv : List (Nat × Value)} {st : List Value} {x : Nat} (h : xlk i lv = some (.ref x)) : (match xlk i lv with
    | some (.ref x) => some (lv, Value.ref x :: st)
    | some .null => some (lv, .null :: st)
    | _ => none) = some (lv, .ref x :: st) := by rw [h]
theorem ldN {i : Nat} {lv : List (Nat × Value)} {st : List Value} (h : xlk i lv = some .null) : (match xlk i lv with
    | some (.ref x) => some (lv, Value.ref x :: st)
    | some .null => some (lv, .null :: st)
    | _ => none) = some (lv, .null :: st) := by rw [h]
theorem ldC {i nL : Nat} {n : Int} {lv : List (Nat × Value)} {st : List Value} {x : Int32} (h : xlk i lv = some (.int x)) (hq : i < nL) : (match xlk i lv with
    | some (.int x) => if i < nL then some (xs_1 i (.int (x + Int32.ofInt n)) lv, st) else none
    | _ => none) = some (xs_1 i (.int (x + Int32.ofInt n)) lv, st) := by rw [h]; exact if_pos hq
set_option maxHeartbeats 4000000 in
theorem xs1_sub {nL : Nat} {ins : Instr} {len : Nat} {lv lv' l2 : List (Nat × Value)} {st st2 : List Value} (hs : ∀ q ∈ lv, q ∈ lv') (hn : (lv'.map Prod.fst).Nodup) (h : xs1 nL ins len lv st = some (l2, st2)) : ∃ l2', xs1 nL ins len lv' st = some (l2', st2) ∧ (∀ q ∈ l2, q ∈ l2') ∧ (l2'.map Prod.fst).Nodup := by
  unfold xs1 at h
  split at h
  all_goals first
    | (cases h; done)
    | (cases h; exact ⟨lv', rfl, hs, hn⟩)
    | (split at h
       all_goals first
         | (cases h; done)
         | (cases h; exact ⟨lv', rfl, hs, hn⟩)
         | (rename_i hq; cases h; exact ⟨lv', ldI (xlk_sub hs hn hq), hs, hn⟩)
         | (rename_i hq; cases h; exact ⟨lv', ldL (xlk_sub hs hn hq), hs, hn⟩)
         | (rename_i hq; cases h; exact ⟨lv', ldR (xlk_sub hs hn hq), hs, hn⟩)
         | (rename_i hq; cases h; exact ⟨lv', ldN (xlk_sub hs hn hq), hs, hn⟩)
         | (rename_i hq; cases h; exact ⟨lv', if_pos hq, hs, hn⟩)
         | (rename_i hq; cases h; exact ⟨lv', if_neg hq, hs, hn⟩)
         | (split at h
            · rename_i hq; cases h; exact ⟨_, if_pos hq, xs_sub1 hs, xs_nd1 hn⟩
            · cases h)
         | (split at h
            · rename_i hq; cases h; exact ⟨_, if_pos hq, xs_sub2 hs, xs_nd2 hn⟩
            · cases h)
         | (rename_i hx; split at h
            · rename_i hq; cases h; exact ⟨_, ldC (xlk_sub hs hn hx) hq, xs_sub1 hs, xs_nd1 hn⟩
            · cases h)
         | (split at h
            · rename_i hq; cases h; exact ⟨lv', if_pos hq, hs, hn⟩
            · cases h)
         | (split at h
            · cases h
            · rename_i hq; cases h; exact ⟨lv', if_neg hq, hs, hn⟩))
def xdp (ins : Instr) : Bool := match ins with
  | .iload_n _ => true
  | .iload _ => true
  | .lload_n _ => true
  | .lload _ => true
  | .aload_n _ => true
  | .aload _ => true
  | .iinc _ _ => true
  | _ => false
theorem no_pos {α : Type} {p : Prop} {dp : Decidable p} {x : α} (h : (if p then some x else none) = none) (hp : p) : False := by rw [if_pos hp] at h; cases h
theorem no_neg {α : Type} {p : Prop} {dp : Decidable p} {x : α} (h : (if p then none else some x) = none) (hp : ¬ p) : False := by rw [if_neg hp] at h; cases h
set_option maxHeartbeats 4000000 in
theorem xs1_dep {nL : Nat} {ins : Instr} {len : Nat} {lv lv' : List (Nat × Value)} {st : List Value} {z : List (Nat × Value) × List Value} (h1 : xs1 nL ins len lv st = none) (h2 : xs1 nL ins len lv' st = some z) : xdp ins = true := by
  unfold xs1 at h2
  split at h2
  all_goals first
    | rfl
    | (cases h2; done)
    | (exact absurd h1 (fun q => by cases q))
    | (exfalso; split at h2
       all_goals first
         | (cases h2; done)
         | (exact absurd h1 (fun q => by cases q))
         | (rename_i hq; exact no_pos h1 hq)
         | (rename_i hq; exact no_neg h1 hq)
         | (split at h2
            · rename_i hq; exact no_pos h1 hq
            · cases h2)
         | (split at h2
            · cases h2
            · rename_i hq; exact no_neg h1 hq))
theorem xnx_sub {O : Nat → Option va_E} {nL : Nat} {en : xEn} {pc : Nat} {lv lv' : List (Nat × Value)} {st : List Value} {h : Nat × Nat × (Nat → va_E)} (hs : ∀ q ∈ lv, q ∈ lv') (hn : (lv'.map Prod.fst).Nodup) :
    (xnx O nL en pc lv st h = none ∧ xnx O nL en pc lv' st h = none) ∨ (∃ (pc' : Nat) (l2 l2' : List (Nat × Value)) (st2 : List Value) (h2 : Nat × Nat × (Nat → va_E)), xnx O nL en pc lv st h = some (pc', l2, st2, h2) ∧ xnx O nL en pc lv' st h = some (pc', l2', st2, h2) ∧ (∀ q ∈ l2, q ∈ l2') ∧ (l2'.map Prod.fst).Nodup) ∨ (xnx O nL en pc lv st h = none ∧ xdp en.1 = true) := by
  cases h1 : xs1 nL en.1 en.2.1 lv st with
  | some z =>
    obtain ⟨l2, st2⟩ := z
    obtain ⟨l2', e1, e2, e3⟩ := xs1_sub hs hn h1
    refine Or.inr (Or.inl ⟨pc + en.2.1, l2, l2', st2, h, ?_, ?_, e2, e3⟩)
    · unfold xnx
      rw [h1]
    · unfold xnx
      rw [e1]
  | none =>
    cases h2 : xs1 nL en.1 en.2.1 lv' st with
    | some z =>
      have hd := xs1_dep h1 h2
      refine Or.inr (Or.inr ⟨?_, hd⟩)
      obtain ⟨ins, len, r0, r1, r2, cv⟩ := en
      unfold xnx
      rw [h1]
      change xdp ins = true at hd
      dsimp only
      unfold xdp at hd
      split at hd
      all_goals first
        | rfl
        | (cases hd; done)
    | none =>
      cases h3 : xhs O en.1 en.2.1 en.2.2.1 en.2.2.2.1 en.2.2.2.2.2 st h with
      | some z =>
        refine Or.inr (Or.inl ⟨pc + en.2.1, lv, lv', z.1, z.2, ?_, ?_, hs, hn⟩)
        · unfold xnx
          rw [h1, h3]
        · unfold xnx
          rw [h2, h3]
      | none =>
        cases h4 : xbr en.1 en.2.1 en.2.2.1 pc st with
        | some z =>
          refine Or.inr (Or.inl ⟨z.1, lv, lv', z.2, h, ?_, ?_, hs, hn⟩)
          · unfold xnx
            rw [h1, h3, h4]
          · unfold xnx
            rw [h2, h3, h4]
        | none =>
          refine Or.inl ⟨?_, ?_⟩
          · unfold xnx
            rw [h1, h3, h4]
          · unfold xnx
            rw [h2, h3, h4]
theorem xgo_sub {P : Nat → Option xMe} {O : Nat → Option va_E} : ∀ (f d m pc : Nat) (lv lv' : List (Nat × Value)) (st : List Value) (h : Nat × Nat × (Nat → va_E)) (r : Option Value × (Nat × Nat × (Nat → va_E))), (∀ q ∈ lv, q ∈ lv') → (lv'.map Prod.fst).Nodup → xgo P O f d m pc lv st h = some r → xgo P O f d m pc lv' st h = some r
  | 0, _, _, _, _, _, _, _, _, _, _, hg => by simp [xgo] at hg
  | f + 1, d, m, pc, lv, lv', st, h, r, hs, hn, hg => by
    rw [xgo] at hg ⊢
    cases hP : P m with
    | none => rw [hP] at hg; cases hg
    | some me =>
      rw [hP] at hg
      simp only at hg ⊢
      cases hE : xfd pc me.1 with
      | none => rw [hE] at hg; cases hg
      | some en =>
        rw [hE] at hg
        simp only at hg ⊢
        rcases xnx_sub (O := O) (nL := me.2.1) (en := en) (pc := pc) (st := st) (h := h) hs hn with ⟨n1, n2⟩ | ⟨pc', l2, l2', st2, h2, n1, n2, s2, s3⟩ | ⟨n1, n2⟩
        · rw [n1] at hg
          rw [n2]
          simp only at hg ⊢
          cases hA : xna O en st h with
          | some z =>
            rw [hA] at hg
            simp only at hg ⊢
            exact xgo_sub f _ _ _ _ _ _ _ _ hs hn hg
          | none =>
            rw [hA] at hg
            simp only at hg ⊢
            cases hC : xca O en st h with
            | none =>
              rw [hC] at hg
              simp only at hg ⊢
              exact hg
            | some z =>
              obtain ⟨m', av, rest⟩ := z
              rw [hC] at hg
              simp only at hg ⊢
              cases d with
              | zero => cases hg
              | succ e =>
                simp only at hg ⊢
                cases hP' : P m' with
                | none => rw [hP'] at hg; cases hg
                | some me' =>
                  rw [hP'] at hg
                  simp only at hg ⊢
                  by_cases hl : (lg_sl av).length ≤ me'.2.1
                  · rw [if_pos hl] at hg ⊢
                    cases hG : xgo P O f e m' 0 (lv_args 0 av) [] h with
                    | none => rw [hG] at hg; cases hg
                    | some z2 =>
                      obtain ⟨rv, h1⟩ := z2
                      rw [hG] at hg
                      simp only at hg ⊢
                      exact xgo_sub f _ _ _ _ _ _ _ _ hs hn hg
                  · rw [if_neg hl] at hg
                    cases hg
        · rw [n1] at hg
          rw [n2]
          simp only at hg ⊢
          exact xgo_sub f _ _ _ _ _ _ _ _ s2 s3 hg
        · exfalso
          rw [n1] at hg
          simp only at hg
          obtain ⟨ins, len, r0, r1, r2, cv⟩ := en
          change xdp ins = true at n2
          have q1 : xna O (ins, len, r0, r1, r2, cv) st h = none := by
            unfold xdp at n2
            split at n2
            all_goals first
              | rfl
              | (cases n2; done)
          have q2 : xca O (ins, len, r0, r1, r2, cv) st h = none := by
            unfold xdp at n2
            unfold xca
            split
            · split at n2
              all_goals first
                | rfl
                | (cases n2; done)
            · rfl
          have q3 : xre me.2.2 ins len st = none := by
            unfold xdp at n2
            split at n2
            all_goals first
              | rfl
              | (cases n2; done)
          rw [q1] at hg
          simp only at hg
          rw [q2] at hg
          simp only at hg
          rw [q3] at hg
          cases hg
/-- the heap in columns: how many cells, how many slots, what each cell is (an object's class; a row's sort and length), its numbers, its longs, its references -/
abbrev xM : Type := Nat × Nat × (Nat → Nat ⊕ Nat × Nat) × (Nat → Nat → Int32) × (Nat → Nat → Int64) × (Nat → Nat → Option Nat)
abbrev mS (M : xM) : Nat → Nat ⊕ Nat × Nat := M.2.2.1
abbrev mI (M : xM) : Nat → Nat → Int32 := M.2.2.2.1
abbrev mL (M : xM) : Nat → Nat → Int64 := M.2.2.2.2.1
abbrev mR (M : xM) : Nat → Nat → Option Nat := M.2.2.2.2.2
def xfv (ty : FieldType) (i : Int32) (l : Int64) (r : Option Nat) : Value := match ty with
  | .long => .long l
  | .float => .float 0
  | .double => .double 0
  | .object _ => va_rf r
  | .array _ => va_rf r
  | _ => .int i
/-- how many fields the objects of a class have -/
def xNf (ci : Nat) : Nat := match vwCl[ci]? with
  | some q => q.2.2
  | none => 0
def mcell (s : Nat ⊕ Nat × Nat) (i : Nat → Int32) (l : Nat → Int64) (r : Nat → Option Nat) : va_E := match s with
  | .inl ci => .inr (ci, (List.range (xNf ci)).map (fun j => xfv (xTy ci j) (i j) (l j) (r j)))
  | .inr (t, n) => .inl (t, n, if t = 1 then .inr (.inl l) else if t < 5 then .inl i else .inr (.inr (.inr (.inr r))))
def hp (M : xM) : Nat × Nat × (Nat → va_E) := (M.1, M.2.1, fun k => mcell (mS M k) (mI M k) (mL M k) (mR M k))
/-- a cell's number, long, reference anew -/
def msI (M : xM) (k : Nat) (f : Nat → Int32) : xM := (M.1, M.2.1, mS M, fun a => if a = k then f else mI M a, mL M, mR M)
def msL (M : xM) (k : Nat) (f : Nat → Int64) : xM := (M.1, M.2.1, mS M, mI M, fun a => if a = k then f else mL M a, mR M)
def msR (M : xM) (k : Nat) (f : Nat → Option Nat) : xM := (M.1, M.2.1, mS M, mI M, mL M, fun a => if a = k then f else mR M a)
/-- a new cell -/
def mnew (M : xM) (s : Nat ⊕ Nat × Nat) (w : Nat) : xM := (M.1 + 1, M.2.1 + w, fun a => if a = M.1 then s else mS M a, fun a => if a = M.1 then fun _ => 0 else mI M a, fun a => if a = M.1 then fun _ => 0 else mL M a, fun a => if a = M.1 then fun _ => none else mR M a)
def mup {α : Type} (f : Nat → α) (i : Nat) (v : α) : Nat → α := fun j => if j = i then v else f j
/-- is a field one of numbers; a reference -/
def xkI (ty : FieldType) : Bool := match ty with
  | .long => false
  | .float => false
  | .double => false
  | .object _ => false
  | .array _ => false
  | _ => true
def xkR (ty : FieldType) : Bool := match ty with
  | .object _ => true
  | .array _ => true
  | _ => false
/-- reading fields -/
def gI (O : Nat → Option va_E) (M : xM) (k ci j : Nat) : Option Int32 := match xrd O (hp M) k with
  | some (.inr (c, fs)) => if c = ci then match fs[j]? with
    | some (.int x) => some x
    | _ => none
    else none
  | _ => none
def gL (O : Nat → Option va_E) (M : xM) (k ci j : Nat) : Option Int64 := match xrd O (hp M) k with
  | some (.inr (c, fs)) => if c = ci then match fs[j]? with
    | some (.long x) => some x
    | _ => none
    else none
  | _ => none
def gR (O : Nat → Option va_E) (M : xM) (k ci j : Nat) : Option Nat := match xrd O (hp M) k with
  | some (.inr (c, fs)) => if c = ci then match fs[j]? with
    | some (.ref x) => some x
    | _ => none
    else none
  | _ => none
/-- writing fields -/
def pI (M : xM) (k ci j : Nat) (x : Int32) : Option xM := if (k < 1000000000 ∧ k < M.1) ∧ mS M k = .inl ci ∧ j < xNf ci ∧ xkI (xTy ci j) = true ∧ xfit (xTy ci j) (.int x) = true then some (msI M k (mup (mI M k) j x)) else none
def pL (M : xM) (k ci j : Nat) (x : Int64) : Option xM := if (k < 1000000000 ∧ k < M.1) ∧ mS M k = .inl ci ∧ j < xNf ci ∧ xTy ci j = .long then some (msL M k (mup (mL M k) j x)) else none
def pR (M : xM) (k ci j : Nat) (x : Option Nat) : Option xM := if (k < 1000000000 ∧ k < M.1) ∧ mS M k = .inl ci ∧ j < xNf ci ∧ xkR (xTy ci j) = true then some (msR M k (mup (mR M k) j x)) else none
/-- reading rows: the row's length, an element -/
def aN (O : Nat → Option va_E) (M : xM) (k : Nat) : Option Int32 := match xrd O (hp M) k with
  | some (.inl (t, n, _)) => if t < 12 then some (Int32.ofNat n) else none
  | _ => none
def aI (O : Nat → Option va_E) (M : xM) (k : Nat) (i : Int32) : Option Int32 := match xrd O (hp M) k with
  | some (.inl (t, n, .inl f)) => if t = 0 then (if i < 0 ∨ n ≤ i.toNatClampNeg then none else some (f i.toNatClampNeg)) else none
  | _ => none
def aC (O : Nat → Option va_E) (M : xM) (k : Nat) (i : Int32) : Option Int32 := match xrd O (hp M) k with
  | some (.inl (t, n, .inl f)) => if t = 4 then (if i < 0 ∨ n ≤ i.toNatClampNeg then none else some (f i.toNatClampNeg)) else none
  | _ => none
def aB (O : Nat → Option va_E) (M : xM) (k : Nat) (i : Int32) : Option Int32 := match xrd O (hp M) k with
  | some (.inl (t, n, .inl f)) => if t = 2 ∨ t = 3 then (if i < 0 ∨ n ≤ i.toNatClampNeg then none else some (f i.toNatClampNeg)) else none
  | _ => none
def aL (O : Nat → Option va_E) (M : xM) (k : Nat) (i : Int32) : Option Int64 := match xrd O (hp M) k with
  | some (.inl (t, n, .inr (.inl f))) => if t = 1 then (if i < 0 ∨ n ≤ i.toNatClampNeg then none else some (f i.toNatClampNeg)) else none
  | _ => none
def aR (O : Nat → Option va_E) (M : xM) (k : Nat) (i : Int32) : Option Nat := match xrd O (hp M) k with
  | some (.inl (t, n, .inr (.inr (.inr (.inr f))))) => if 5 ≤ t ∧ t < 12 then (if i < 0 ∨ n ≤ i.toNatClampNeg then none else f i.toNatClampNeg) else none
  | _ => none
def ixb (i : Int32) (n : Nat) : Prop := ¬ (i < 0 ∨ n ≤ i.toNatClampNeg)
def mIs (M : xM) (k t : Nat) (i : Int32) : Prop := (k < 1000000000 ∧ k < M.1) ∧ ∃ n, mS M k = .inr (t, n) ∧ ¬ (i < 0 ∨ n ≤ i.toNatClampNeg)
/-- writing rows -/
def wX (M : xM) (k t : Nat) (i : Int32) : Bool := match mS M k with
  | .inr (t', n) => decide (k < 1000000000) && decide (k < M.1) && decide (t' = t) && !(decide (i < 0) || decide (n ≤ i.toNatClampNeg))
  | .inl _ => false
def wI (M : xM) (k : Nat) (i x : Int32) : Option xM := if wX M k 0 i = true then some (msI M k (mup (mI M k) i.toNatClampNeg x)) else none
def wC (M : xM) (k : Nat) (i x : Int32) : Option xM := if wX M k 4 i = true then some (msI M k (mup (mI M k) i.toNatClampNeg (vp_nar .char x))) else none
def wB (M : xM) (k : Nat) (i x : Int32) : Option xM := if wX M k 2 i = true then some (msI M k (mup (mI M k) i.toNatClampNeg (vp_nar .boolean x))) else if wX M k 3 i = true then some (msI M k (mup (mI M k) i.toNatClampNeg (vp_nar .byte x))) else none
def wL (M : xM) (k : Nat) (i : Int32) (x : Int64) : Option xM := if wX M k 1 i = true then some (msL M k (mup (mL M k) i.toNatClampNeg x)) else none
/-- what a row of references may take -/
def wRok (O : Nat → Option va_E) (M : xM) (t v : Nat) : Bool := match xrd O (hp M) v with
  | some (.inr (ci, _)) => decide (ci = xot t) && decide (5 < t) && decide (t < 12)
  | some (.inl (t2, _, .inl _)) => decide (t = 5) && decide (t2 = 0) && decide (v < 1000000000)
  | _ => false
def wR (O : Nat → Option va_E) (M : xM) (k : Nat) (i : Int32) (v : Nat) : Option xM := match mS M k with
  | .inr (t, _) => if 5 ≤ t ∧ wX M k t i = true ∧ wRok O M t v = true then some (msR M k (mup (mR M k) i.toNatClampNeg (some v))) else none
  | .inl _ => none
/-- new objects and rows -/
def nO (M : xM) (ci : Nat) : Option (Nat × xM) := if M.1 + 1 < 1000000000 then some (M.1, mnew M (.inl ci) (xNf ci)) else none
def nA (M : xM) (t : Nat) (n : Int32) : Option (Nat × xM) := if n < 0 ∨ 60000000 < n.toNatClampNeg ∨ ¬ M.1 + 1 < 1000000000 then none else some (M.1, mnew M (.inr (t, n.toNatClampNeg)) n.toNatClampNeg)
/-- a piece of a row copied -/
def cpX (M : xM) (a0 : Nat) (sp : Int32) (a1 : Nat) (dp n : Int32) : Option xM := if a0 < 1000000000 ∧ a0 < M.1 ∧ a1 < 1000000000 ∧ a1 < M.1 then match mS M a0, mS M a1 with
    | .inr (t0, n0), .inr (t1, n1) => if (t0 = t1 ∧ ¬ sp < 0 ∧ ¬ dp < 0 ∧ ¬ n < 0 ∧ sp.toNatClampNeg + n.toNatClampNeg ≤ n0 ∧ dp.toNatClampNeg + n.toNatClampNeg ≤ n1) then (if t0 = 0 then some (msI M a1 (va_cpy (mI M a0) (mI M a1) sp.toNatClampNeg dp.toNatClampNeg n.toNatClampNeg)) else if t0 = 1 then some (msL M a1 (va_cpy (mL M a0) (mL M a1) sp.toNatClampNeg dp.toNatClampNeg n.toNatClampNeg)) else none) else none
    | _, _ => none
  else none
/-- what follows a call -/
def xcl {β γ : Type} (G : Option (β × xM)) (A : β → xM → Option γ) : Option γ := match G with
  | some z => A z.1 z.2
  | none => none
theorem xcl_some {β γ : Type} {G : Option (β × xM)} {A : β → xM → Option γ} {c : γ} (h : xcl G A = some c) : ∃ b M, G = some (b, M) ∧ A b M = some c := by
  unfold xcl at h
  split at h
  · rename_i z
    exact ⟨z.1, z.2, rfl, h⟩
  · cases h
def xlet {α β : Type} (v : α) (f : α → β) : β := f v
/-- the run's answer and heap, if the text has one -/
def xZ {α : Type} (ι : α → Option Value) (O : Nat → Option va_E) (d m pc : Nat) (lv : List (Nat × Value)) (st : List Value) (M : xM) (F : Option (α × xM)) : Prop := ∀ a M', F = some (a, M') → xX O d m pc lv st (hp M) (ι a, hp M')
def oI (x : Int32) : Option Value := some (.int x)
def oL (x : Int64) : Option Value := some (.long x)
def oR (x : Nat) : Option Value := some (.ref x)
def oD (x : UInt64) : Option Value := some (.double x)
def oU (_ : Unit) : Option Value := none
