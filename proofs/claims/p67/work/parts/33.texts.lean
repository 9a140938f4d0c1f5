/-! ===== a program's text is what its run answers ===== -/
theorem xfv_dv (ty : FieldType) : xfv ty 0 0 none = xdv ty := by cases ty <;> rfl
theorem hp_cell (M : xM) (k : Nat) : (hp M).2.2 k = mcell (mS M k) (mI M k) (mL M k) (mR M k) := rfl
theorem hp_heap {M M' : xM} {k : Nat} {x : va_E} (e1 : M'.1 = M.1) (e2 : M'.2.1 = M.2.1) (e3 : mcell (mS M' k) (mI M' k) (mL M' k) (mR M' k) = x) (e4 : ∀ a, a ≠ k → mcell (mS M' a) (mI M' a) (mL M' a) (mR M' a) = mcell (mS M a) (mI M a) (mL M a) (mR M a)) : xup (hp M) k x = hp M' := by
  unfold xup hp
  refine Prod.ext e1.symm (Prod.ext e2.symm ?_)
  funext a
  show (if a = k then x else _) = _
  by_cases h : a = k
  · subst h
    rw [if_pos rfl]
    exact e3.symm
  · rw [if_neg h]
    exact (e4 a h).symm
theorem range_set {f : Nat → Value} {n j : Nat} {v : Value} : ((List.range n).map f).set j v = (List.range n).map (fun i => if i = j then v else f i) := by
  apply List.ext_getElem
  · simp
  · intro i h1 h2
    simp only [List.getElem_set, List.getElem_map, List.getElem_range]
    by_cases h : j = i
    · subst h; simp
    · rw [if_neg h, if_neg (fun z => h z.symm)]
section XTX
variable {α : Type} {ι : α → Option Value} {O : Nat → Option va_E} {d m pc : Nat} {lv : List (Nat × Value)} {st : List Value} {M : xM} {F : Option (α × xM)} {me : xMe} {t a b c0 len : Nat} {cv : Value} {off : Int}
theorem xZ.no : xZ ι O d m pc lv st M none := fun _ _ h => by cases h
theorem xZ.adv (hP : xP m = some me) (n : Nat) {pc' : Nat} {lv' : List (Nat × Value)} {st' : List Value} (ha : xad O me n pc lv st (hp M) = some (pc', lv', st', hp M)) (k : xZ ι O d m pc' lv' st' M F) : xZ ι O d m pc lv st M F := fun a M' e => xX.adv hP n ha (k a M' e)
theorem xZ.sub {lv' : List (Nat × Value)} (hs : ∀ q ∈ lv, q ∈ lv') (hn : (lv'.map Prod.fst).Nodup) (k : xZ ι O d m pc lv st M F) : xZ ι O d m pc lv' st M F := fun a M' e => (k a M' e).elim fun f hf => ⟨f, xgo_sub f _ _ _ _ _ _ _ _ hs hn hf⟩
theorem xZ.deep {d' : Nat} (k : xZ ι O d m pc lv st M F) (hd : d ≤ d') : xZ ι O d' m pc lv st M F := fun a M' e => (k a M' e).deep hd
theorem xZ.letI {β : Type} (v : β) {lvf : β → List (Nat × Value)} {stf : β → List Value} {A : β → Option (α × xM)} (k : ∀ x, xZ ι O d m pc (lvf x) (stf x) M (A x)) : xZ ι O d m pc (lvf v) (stf v) M (xlet v A) := k v
theorem xZ.one {en : xEn} {pc' : Nat} {lv' : List (Nat × Value)} {st' : List Value} (hP : xP m = some me) (hE : xfd pc me.1 = some en) (hN : xnx O me.2.1 en pc lv st (hp M) = some (pc', lv', st', hp M)) (k : xZ ι O d m pc' lv' st' M F) : xZ ι O d m pc lv st M F := fun a M' e => xX.one hP hE hN (k a M' e)
theorem xZ.if_eq {x : Int32} {A B : Option (α × xM)} (hP : xP m = some me) (hE : xfd pc me.1 = some (.ifCond .eq off, 3, t, a, b, cv)) (kt : x = 0 → xZ ι O d m t lv st M A) (kf : ¬ (x = 0) → xZ ι O d m (pc + 3) lv st M B) : xZ ι O d m pc lv (.int x :: st) M (if x = 0 then A else B) := by
  intro a1 M1 e
  by_cases hc : x = 0
  · rw [if_pos hc] at e
    exact xX.if_eq hP hE (fun _ => kt hc a1 M1 e) (fun q => absurd hc q)
  · rw [if_neg hc] at e
    exact xX.if_eq hP hE (fun q => absurd q hc) (fun _ => kf hc a1 M1 e)
theorem xZ.ic_eq {x y : Int32} {A B : Option (α × xM)} (hP : xP m = some me) (hE : xfd pc me.1 = some (.if_icmp .eq off, 3, t, a, b, cv)) (kt : x = y → xZ ι O d m t lv st M A) (kf : ¬ (x = y) → xZ ι O d m (pc + 3) lv st M B) : xZ ι O d m pc lv (.int y :: .int x :: st) M (if x = y then A else B) := by
  intro a1 M1 e
  by_cases hc : x = y
  · rw [if_pos hc] at e
    exact xX.ic_eq hP hE (fun _ => kt hc a1 M1 e) (fun q => absurd hc q)
  · rw [if_neg hc] at e
    exact xX.ic_eq hP hE (fun q => absurd q hc) (fun _ => kf hc a1 M1 e)
theorem xZ.if_ne {x : Int32} {A B : Option (α × xM)} (hP : xP m = some me) (hE : xfd pc me.1 = some (.ifCond .ne off, 3, t, a, b, cv)) (kt : x = 0 → xZ ι O d m (pc + 3) lv st M A) (kf : ¬ (x = 0) → xZ ι O d m t lv st M B) : xZ ι O d m pc lv (.int x :: st) M (if x = 0 then A else B) := by
  intro a1 M1 e
  by_cases hc : x = 0
  · rw [if_pos hc] at e
    exact xX.if_ne hP hE (fun q => absurd hc q) (fun _ => kt hc a1 M1 e)
  · rw [if_neg hc] at e
    exact xX.if_ne hP hE (fun _ => kf hc a1 M1 e) (fun q => absurd hc q)
theorem xZ.ic_ne {x y : Int32} {A B : Option (α × xM)} (hP : xP m = some me) (hE : xfd pc me.1 = some (.if_icmp .ne off, 3, t, a, b, cv)) (kt : x = y → xZ ι O d m (pc + 3) lv st M A) (kf : ¬ (x = y) → xZ ι O d m t lv st M B) : xZ ι O d m pc lv (.int y :: .int x :: st) M (if x = y then A else B) := by
  intro a1 M1 e
  by_cases hc : x = y
  · rw [if_pos hc] at e
    exact xX.ic_ne hP hE (fun q => absurd hc q) (fun _ => kt hc a1 M1 e)
  · rw [if_neg hc] at e
    exact xX.ic_ne hP hE (fun _ => kf hc a1 M1 e) (fun q => absurd hc q)
theorem xZ.if_lt {x : Int32} {A B : Option (α × xM)} (hP : xP m = some me) (hE : xfd pc me.1 = some (.ifCond .lt off, 3, t, a, b, cv)) (kt : x < 0 → xZ ι O d m t lv st M A) (kf : ¬ (x < 0) → xZ ι O d m (pc + 3) lv st M B) : xZ ι O d m pc lv (.int x :: st) M (if x < 0 then A else B) := by
  intro a1 M1 e
  by_cases hc : x < 0
  · rw [if_pos hc] at e
    exact xX.if_lt hP hE (fun _ => kt hc a1 M1 e) (fun q => absurd hc q)
  · rw [if_neg hc] at e
    exact xX.if_lt hP hE (fun q => absurd q hc) (fun _ => kf hc a1 M1 e)
theorem xZ.ic_lt {x y : Int32} {A B : Option (α × xM)} (hP : xP m = some me) (hE : xfd pc me.1 = some (.if_icmp .lt off, 3, t, a, b, cv)) (kt : x < y → xZ ι O d m t lv st M A) (kf : ¬ (x < y) → xZ ι O d m (pc + 3) lv st M B) : xZ ι O d m pc lv (.int y :: .int x :: st) M (if x < y then A else B) := by
  intro a1 M1 e
  by_cases hc : x < y
  · rw [if_pos hc] at e
    exact xX.ic_lt hP hE (fun _ => kt hc a1 M1 e) (fun q => absurd hc q)
  · rw [if_neg hc] at e
    exact xX.ic_lt hP hE (fun q => absurd q hc) (fun _ => kf hc a1 M1 e)
theorem xZ.if_ge {x : Int32} {A B : Option (α × xM)} (hP : xP m = some me) (hE : xfd pc me.1 = some (.ifCond .ge off, 3, t, a, b, cv)) (kt : 0 ≤ x → xZ ι O d m t lv st M A) (kf : ¬ (0 ≤ x) → xZ ι O d m (pc + 3) lv st M B) : xZ ι O d m pc lv (.int x :: st) M (if 0 ≤ x then A else B) := by
  intro a1 M1 e
  by_cases hc : 0 ≤ x
  · rw [if_pos hc] at e
    exact xX.if_ge hP hE (fun _ => kt hc a1 M1 e) (fun q => absurd hc q)
  · rw [if_neg hc] at e
    exact xX.if_ge hP hE (fun q => absurd q hc) (fun _ => kf hc a1 M1 e)
theorem xZ.ic_ge {x y : Int32} {A B : Option (α × xM)} (hP : xP m = some me) (hE : xfd pc me.1 = some (.if_icmp .ge off, 3, t, a, b, cv)) (kt : y ≤ x → xZ ι O d m t lv st M A) (kf : ¬ (y ≤ x) → xZ ι O d m (pc + 3) lv st M B) : xZ ι O d m pc lv (.int y :: .int x :: st) M (if y ≤ x then A else B) := by
  intro a1 M1 e
  by_cases hc : y ≤ x
  · rw [if_pos hc] at e
    exact xX.ic_ge hP hE (fun _ => kt hc a1 M1 e) (fun q => absurd hc q)
  · rw [if_neg hc] at e
    exact xX.ic_ge hP hE (fun q => absurd q hc) (fun _ => kf hc a1 M1 e)
theorem xZ.if_gt {x : Int32} {A B : Option (α × xM)} (hP : xP m = some me) (hE : xfd pc me.1 = some (.ifCond .gt off, 3, t, a, b, cv)) (kt : 0 < x → xZ ι O d m t lv st M A) (kf : ¬ (0 < x) → xZ ι O d m (pc + 3) lv st M B) : xZ ι O d m pc lv (.int x :: st) M (if 0 < x then A else B) := by
  intro a1 M1 e
  by_cases hc : 0 < x
  · rw [if_pos hc] at e
    exact xX.if_gt hP hE (fun _ => kt hc a1 M1 e) (fun q => absurd hc q)
  · rw [if_neg hc] at e
    exact xX.if_gt hP hE (fun q => absurd q hc) (fun _ => kf hc a1 M1 e)
theorem xZ.ic_gt {x y : Int32} {A B : Option (α × xM)} (hP : xP m = some me) (hE : xfd pc me.1 = some (.if_icmp .gt off, 3, t, a, b, cv)) (kt : y < x → xZ ι O d m t lv st M A) (kf : ¬ (y < x) → xZ ι O d m (pc + 3) lv st M B) : xZ ι O d m pc lv (.int y :: .int x :: st) M (if y < x then A else B) := by
  intro a1 M1 e
  by_cases hc : y < x
  · rw [if_pos hc] at e
    exact xX.ic_gt hP hE (fun _ => kt hc a1 M1 e) (fun q => absurd hc q)
  · rw [if_neg hc] at e
    exact xX.ic_gt hP hE (fun q => absurd q hc) (fun _ => kf hc a1 M1 e)
theorem xZ.if_le {x : Int32} {A B : Option (α × xM)} (hP : xP m = some me) (hE : xfd pc me.1 = some (.ifCond .le off, 3, t, a, b, cv)) (kt : x ≤ 0 → xZ ι O d m t lv st M A) (kf : ¬ (x ≤ 0) → xZ ι O d m (pc + 3) lv st M B) : xZ ι O d m pc lv (.int x :: st) M (if x ≤ 0 then A else B) := by
  intro a1 M1 e
  by_cases hc : x ≤ 0
  · rw [if_pos hc] at e
    exact xX.if_le hP hE (fun _ => kt hc a1 M1 e) (fun q => absurd hc q)
  · rw [if_neg hc] at e
    exact xX.if_le hP hE (fun q => absurd q hc) (fun _ => kf hc a1 M1 e)
theorem xZ.ic_le {x y : Int32} {A B : Option (α × xM)} (hP : xP m = some me) (hE : xfd pc me.1 = some (.if_icmp .le off, 3, t, a, b, cv)) (kt : x ≤ y → xZ ι O d m t lv st M A) (kf : ¬ (x ≤ y) → xZ ι O d m (pc + 3) lv st M B) : xZ ι O d m pc lv (.int y :: .int x :: st) M (if x ≤ y then A else B) := by
  intro a1 M1 e
  by_cases hc : x ≤ y
  · rw [if_pos hc] at e
    exact xX.ic_le hP hE (fun _ => kt hc a1 M1 e) (fun q => absurd hc q)
  · rw [if_neg hc] at e
    exact xX.ic_le hP hE (fun q => absurd q hc) (fun _ => kf hc a1 M1 e)
theorem xZ.k_gI {i k ci j : Nat} {A : Int32 → Option (α × xM)} (hP : xP m = some me) (hE : xfd pc me.1 = some (.getfield i, 3, ci, j, b, cv)) (kk : ∀ x, xZ ι O d m (pc + 3) lv (.int x :: st) M (A x)) : xZ ι O d m pc lv (.ref k :: st) M ((gI O M k ci j).bind A) := by
  intro a1 M1 e
  obtain ⟨x, e1, e2⟩ := Option.bind_eq_some_iff.mp e
  unfold gI at e1
  split at e1
  · rename_i c fs hk
    split at e1
    · rename_i hc
      subst hc
      split at e1
      · rename_i x2 hv
        cases e1
        exact xX.getf hP hE hk hv (kk x a1 M1 e2)
      · cases e1
    · cases e1
  · cases e1
theorem xZ.k_gL {i k ci j : Nat} {A : Int64 → Option (α × xM)} (hP : xP m = some me) (hE : xfd pc me.1 = some (.getfield i, 3, ci, j, b, cv)) (kk : ∀ x, xZ ι O d m (pc + 3) lv (.long x :: st) M (A x)) : xZ ι O d m pc lv (.ref k :: st) M ((gL O M k ci j).bind A) := by
  intro a1 M1 e
  obtain ⟨x, e1, e2⟩ := Option.bind_eq_some_iff.mp e
  unfold gL at e1
  split at e1
  · rename_i c fs hk
    split at e1
    · rename_i hc
      subst hc
      split at e1
      · rename_i x2 hv
        cases e1
        exact xX.getf hP hE hk hv (kk x a1 M1 e2)
      · cases e1
    · cases e1
  · cases e1
theorem xZ.k_gR {i k ci j : Nat} {A : Nat → Option (α × xM)} (hP : xP m = some me) (hE : xfd pc me.1 = some (.getfield i, 3, ci, j, b, cv)) (kk : ∀ x, xZ ι O d m (pc + 3) lv (.ref x :: st) M (A x)) : xZ ι O d m pc lv (.ref k :: st) M ((gR O M k ci j).bind A) := by
  intro a1 M1 e
  obtain ⟨x, e1, e2⟩ := Option.bind_eq_some_iff.mp e
  unfold gR at e1
  split at e1
  · rename_i c fs hk
    split at e1
    · rename_i hc
      subst hc
      split at e1
      · rename_i x2 hv
        cases e1
        exact xX.getf hP hE hk hv (kk x a1 M1 e2)
      · cases e1
    · cases e1
  · cases e1
theorem xZ.k_aN {k : Nat} {A : Int32 → Option (α × xM)} (hP : xP m = some me) (hE : xfd pc me.1 = some (.arraylength, 1, t, a, b, cv)) (kk : ∀ x, xZ ι O d m (pc + 1) lv (.int x :: st) M (A x)) : xZ ι O d m pc lv (.ref k :: st) M ((aN O M k).bind A) := by
  intro a1 M1 e
  obtain ⟨x, e1, e2⟩ := Option.bind_eq_some_iff.mp e
  unfold aN at e1
  split at e1
  · rename_i t2 n y hk
    split at e1
    · rename_i ht
      cases e1
      exact xX.alen hP hE hk ht (kk _ a1 M1 e2)
    · cases e1
  · cases e1
theorem xZ.k_aI {k : Nat} {i : Int32} {A : Int32 → Option (α × xM)} (hP : xP m = some me) (hE : xfd pc me.1 = some (.iaload, 1, t, a, b, cv)) (kk : ∀ x, xZ ι O d m (pc + 1) lv (.int x :: st) M (A x)) : xZ ι O d m pc lv (.int i :: .ref k :: st) M ((aI O M k i).bind A) := by
  intro a1 M1 e
  obtain ⟨x, e1, e2⟩ := Option.bind_eq_some_iff.mp e
  unfold aI at e1
  split at e1
  · rename_i t2 n f hk
    split at e1
    · rename_i ht
      subst ht
      split at e1
      · cases e1
      · rename_i hi
        cases e1
        exact xX.iald hP hE hk hi (kk _ a1 M1 e2)
    · cases e1
  · cases e1
theorem xZ.k_aC {k : Nat} {i : Int32} {A : Int32 → Option (α × xM)} (hP : xP m = some me) (hE : xfd pc me.1 = some (.caload, 1, t, a, b, cv)) (kk : ∀ x, xZ ι O d m (pc + 1) lv (.int x :: st) M (A x)) : xZ ι O d m pc lv (.int i :: .ref k :: st) M ((aC O M k i).bind A) := by
  intro a1 M1 e
  obtain ⟨x, e1, e2⟩ := Option.bind_eq_some_iff.mp e
  unfold aC at e1
  split at e1
  · rename_i t2 n f hk
    split at e1
    · rename_i ht
      subst ht
      split at e1
      · cases e1
      · rename_i hi
        cases e1
        exact xX.cald hP hE hk hi (kk _ a1 M1 e2)
    · cases e1
  · cases e1
theorem xZ.k_aL {k : Nat} {i : Int32} {A : Int64 → Option (α × xM)} (hP : xP m = some me) (hE : xfd pc me.1 = some (.laload, 1, t, a, b, cv)) (kk : ∀ x, xZ ι O d m (pc + 1) lv (.long x :: st) M (A x)) : xZ ι O d m pc lv (.int i :: .ref k :: st) M ((aL O M k i).bind A) := by
  intro a1 M1 e
  obtain ⟨x, e1, e2⟩ := Option.bind_eq_some_iff.mp e
  unfold aL at e1
  split at e1
  · rename_i t2 n f hk
    split at e1
    · rename_i ht
      subst ht
      split at e1
      · cases e1
      · rename_i hi
        cases e1
        exact xX.lald hP hE hk hi (kk _ a1 M1 e2)
    · cases e1
  · cases e1
theorem xZ.k_aB {k : Nat} {i : Int32} {A : Int32 → Option (α × xM)} (hP : xP m = some me) (hE : xfd pc me.1 = some (.baload, 1, t, a, b, cv)) (kk : ∀ x, xZ ι O d m (pc + 1) lv (.int x :: st) M (A x)) : xZ ι O d m pc lv (.int i :: .ref k :: st) M ((aB O M k i).bind A) := by
  intro a1 M1 e
  obtain ⟨x, e1, e2⟩ := Option.bind_eq_some_iff.mp e
  unfold aB at e1
  split at e1
  · rename_i t2 n f hk
    split at e1
    · rename_i ht
      split at e1
      · cases e1
      · rename_i hi
        cases e1
        exact xX.bald hP hE hk ht hi (kk _ a1 M1 e2)
    · cases e1
  · cases e1
theorem xZ.k_aR {k : Nat} {i : Int32} {A : Nat → Option (α × xM)} (hP : xP m = some me) (hE : xfd pc me.1 = some (.aaload, 1, t, a, b, cv)) (kk : ∀ x, xZ ι O d m (pc + 1) lv (.ref x :: st) M (A x)) : xZ ι O d m pc lv (.int i :: .ref k :: st) M ((aR O M k i).bind A) := by
  intro a1 M1 e
  obtain ⟨x, e1, e2⟩ := Option.bind_eq_some_iff.mp e
  unfold aR at e1
  split at e1
  · rename_i t2 n f hk
    split at e1
    · rename_i ht
      split at e1
      · cases e1
      · rename_i hi
        exact xX.aald hP hE hk ht hi (by rw [e1]; rfl) (kk x a1 M1 e2)
    · cases e1
  · cases e1
theorem xZ.k_pI {i k ci j : Nat} {x : Int32} {A : xM → Option (α × xM)} (hP : xP m = some me) (hE : xfd pc me.1 = some (.putfield i, 3, ci, j, b, cv)) (kk : ∀ M1, xZ ι O d m (pc + 3) lv st M1 (A M1)) : xZ ι O d m pc lv (.int x :: .ref k :: st) M ((pI M k ci j x).bind A) := by
  intro a1 M1 e
  obtain ⟨M2, e1, e2⟩ := Option.bind_eq_some_iff.mp e
  unfold pI at e1
  split at e1
  · rename_i hc
    obtain ⟨⟨h1, h2⟩, h3, h4, h5, h6⟩ := hc
    cases e1
    refine xX.putf hP hE h1 h2 (by rw [hp_cell, h3]; rfl) (by simpa using h4) (h6) ?_
    rw [range_set, hp_heap (M := M) (M' := msI M k (mup (mI M k) j x)) rfl rfl ?_ ?_]
    · exact kk _ a1 M1 e2
    · show mcell (mS M k) (if k = k then mup (mI M k) j x else mI M k) (mL M k) (mR M k) = _
      rw [if_pos rfl, h3]
      unfold mcell
      dsimp only
      congr 2
      apply List.map_congr_left
      intro q _
      unfold mup
      by_cases hq : q = j
      · subst hq
        rw [if_pos rfl, if_pos rfl]
        revert h5
        cases xTy ci q <;> intro h5 <;> first | rfl | (cases h5; done)
      · rw [if_neg hq, if_neg hq]
    · intro q hq
      show mcell (mS M q) (if q = k then mup (mI M k) j x else mI M q) (mL M q) (mR M q) = _
      rw [if_neg hq]
  · cases e1
theorem xZ.k_pL {i k ci j : Nat} {x : Int64} {A : xM → Option (α × xM)} (hP : xP m = some me) (hE : xfd pc me.1 = some (.putfield i, 3, ci, j, b, cv)) (kk : ∀ M1, xZ ι O d m (pc + 3) lv st M1 (A M1)) : xZ ι O d m pc lv (.long x :: .ref k :: st) M ((pL M k ci j x).bind A) := by
  intro a1 M1 e
  obtain ⟨M2, e1, e2⟩ := Option.bind_eq_some_iff.mp e
  unfold pL at e1
  split at e1
  · rename_i hc
    obtain ⟨⟨h1, h2⟩, h3, h4, h5⟩ := hc
    cases e1
    refine xX.putf hP hE h1 h2 (by rw [hp_cell, h3]; rfl) (by simpa using h4) (by rw [h5]; rfl) ?_
    rw [range_set, hp_heap (M := M) (M' := msL M k (mup (mL M k) j x)) rfl rfl ?_ ?_]
    · exact kk _ a1 M1 e2
    · show mcell (mS M k) (mI M k) (if k = k then mup (mL M k) j x else mL M k) (mR M k) = _
      rw [if_pos rfl, h3]
      unfold mcell
      dsimp only
      congr 2
      apply List.map_congr_left
      intro q _
      unfold mup
      by_cases hq : q = j
      · subst hq
        rw [if_pos rfl, if_pos rfl]
        rw [h5]
        rfl
      · rw [if_neg hq, if_neg hq]
    · intro q hq
      show mcell (mS M q) (mI M q) (if q = k then mup (mL M k) j x else mL M q) (mR M q) = _
      rw [if_neg hq]
  · cases e1
theorem xZ.k_pR {i k ci j : Nat} {x : Option Nat} {A : xM → Option (α × xM)} (hP : xP m = some me) (hE : xfd pc me.1 = some (.putfield i, 3, ci, j, b, cv)) (kk : ∀ M1, xZ ι O d m (pc + 3) lv st M1 (A M1)) : xZ ι O d m pc lv (va_rf x :: .ref k :: st) M ((pR M k ci j x).bind A) := by
  intro a1 M1 e
  obtain ⟨M2, e1, e2⟩ := Option.bind_eq_some_iff.mp e
  unfold pR at e1
  split at e1
  · rename_i hc
    obtain ⟨⟨h1, h2⟩, h3, h4, h5⟩ := hc
    cases e1
    refine xX.putf hP hE h1 h2 (by rw [hp_cell, h3]; rfl) (by simpa using h4) (by revert h5; cases xTy ci j <;> intro h5 <;> cases x <;> first | rfl | (cases h5; done)) ?_
    rw [range_set, hp_heap (M := M) (M' := msR M k (mup (mR M k) j x)) rfl rfl ?_ ?_]
    · exact kk _ a1 M1 e2
    · show mcell (mS M k) (mI M k) (mL M k) (if k = k then mup (mR M k) j x else mR M k) = _
      rw [if_pos rfl, h3]
      unfold mcell
      dsimp only
      congr 2
      apply List.map_congr_left
      intro q _
      unfold mup
      by_cases hq : q = j
      · subst hq
        rw [if_pos rfl, if_pos rfl]
        revert h5
        cases xTy ci q <;> intro h5 <;> first | rfl | (cases h5; done)
      · rw [if_neg hq, if_neg hq]
    · intro q hq
      show mcell (mS M q) (mI M q) (mL M q) (if q = k then mup (mR M k) j x else mR M q) = _
      rw [if_neg hq]
  · cases e1
theorem xZ.div {x y : Int32} {A : Int32 → Option (α × xM)} (hP : xP m = some me) (hE : xfd pc me.1 = some (.idiv, 1, t, a, b, cv)) (k : ∀ z, xZ ι O d m (pc + 1) lv (.int z :: st) M (A z)) : xZ ι O d m pc lv (.int y :: .int x :: st) M (if y = 0 then none else xlet (x / y) A) := by
  by_cases hy : y = 0
  · rw [if_pos hy]; exact xZ.no
  · rw [if_neg hy]
    refine xZ.one hP hE ?_ (k _)
    show (match xs1 me.2.1 .idiv 1 lv (.int y :: .int x :: st) with | some (lv', st') => _ | none => _) = _
    rw [show xs1 me.2.1 .idiv 1 lv (.int y :: .int x :: st) = some (lv, .int (x / y) :: st) from if_neg hy]
theorem xZ.rem {x y : Int32} {A : Int32 → Option (α × xM)} (hP : xP m = some me) (hE : xfd pc me.1 = some (.irem, 1, t, a, b, cv)) (k : ∀ z, xZ ι O d m (pc + 1) lv (.int z :: st) M (A z)) : xZ ι O d m pc lv (.int y :: .int x :: st) M (if y = 0 then none else xlet (x - x / y * y) A) := by
  by_cases hy : y = 0
  · rw [if_pos hy]; exact xZ.no
  · rw [if_neg hy]
    refine xZ.one hP hE ?_ (k _)
    show (match xs1 me.2.1 .irem 1 lv (.int y :: .int x :: st) with | some (lv', st') => _ | none => _) = _
    rw [show xs1 me.2.1 .irem 1 lv (.int y :: .int x :: st) = some (lv, .int (x - x / y * y) :: st) from if_neg hy]
theorem xZ.lrem {x y : Int64} {A : Int64 → Option (α × xM)} (hP : xP m = some me) (hE : xfd pc me.1 = some (.lrem, 1, t, a, b, cv)) (k : ∀ z, xZ ι O d m (pc + 1) lv (.long z :: st) M (A z)) : xZ ι O d m pc lv (.long y :: .long x :: st) M (if y = 0 then none else xlet (x - x / y * y) A) := by
  by_cases hy : y = 0
  · rw [if_pos hy]; exact xZ.no
  · rw [if_neg hy]
    refine xZ.one hP hE ?_ (k _)
    show (match xs1 me.2.1 .lrem 1 lv (.long y :: .long x :: st) with | some (lv', st') => _ | none => _) = _
    rw [show xs1 me.2.1 .lrem 1 lv (.long y :: .long x :: st) = some (lv, .long (x - x / y * y) :: st) from if_neg hy]
theorem wX_ok {k t : Nat} {i : Int32} (h : wX M k t i = true) : ∃ n, k < 1000000000 ∧ k < M.1 ∧ mS M k = .inr (t, n) ∧ ¬ (i < 0 ∨ n ≤ i.toNatClampNeg) := by
  unfold wX at h
  split at h
  · rename_i t' n hs
    simp only [Bool.and_eq_true, decide_eq_true_eq, Bool.not_eq_true', Bool.or_eq_false_iff, decide_eq_false_iff_not] at h
    obtain ⟨⟨⟨h1, h2⟩, h3⟩, h4, h5⟩ := h
    subst h3
    exact ⟨n, h1, h2, hs, fun z => z.elim h4 h5⟩
  · cases h
theorem mrow_I {k n tt : Nat} {f : Nat → Int32} (h3 : mS M k = .inr (tt, n)) (ht : tt ≠ 1) (ht5 : tt < 5) : xup (hp M) k (.inl (tt, n, .inl f)) = hp (msI M k f) := by
  refine hp_heap rfl rfl ?_ ?_
  · show mcell (mS M k) (if k = k then f else mI M k) (mL M k) (mR M k) = _
    rw [if_pos rfl, h3]
    unfold mcell
    dsimp only
    rw [if_neg ht, if_pos ht5]
  · intro q hq
    show mcell (mS M q) (if q = k then f else mI M q) (mL M q) (mR M q) = _
    rw [if_neg hq]
theorem mrow_L {k n : Nat} {f : Nat → Int64} (h3 : mS M k = .inr (1, n)) : xup (hp M) k (.inl (1, n, .inr (.inl f))) = hp (msL M k f) := by
  refine hp_heap rfl rfl ?_ ?_
  · show mcell (mS M k) (mI M k) (if k = k then f else mL M k) (mR M k) = _
    rw [if_pos rfl, h3]
    rfl
  · intro q hq
    show mcell (mS M q) (mI M q) (if q = k then f else mL M q) (mR M q) = _
    rw [if_neg hq]
theorem mrow_R {k n tt : Nat} {f : Nat → Option Nat} (h3 : mS M k = .inr (tt, n)) (ht : 5 ≤ tt) : xup (hp M) k (.inl (tt, n, .inr (.inr (.inr (.inr f))))) = hp (msR M k f) := by
  refine hp_heap rfl rfl ?_ ?_
  · show mcell (mS M k) (mI M k) (mL M k) (if k = k then f else mR M k) = _
    rw [if_pos rfl, h3]
    unfold mcell
    dsimp only
    rw [if_neg (by omega), if_neg (by omega)]
  · intro q hq
    show mcell (mS M q) (mI M q) (mL M q) (if q = k then f else mR M q) = _
    rw [if_neg hq]
theorem mrow_cI {k n tt : Nat} (h3 : mS M k = .inr (tt, n)) (ht : tt ≠ 1) (ht5 : tt < 5) : (hp M).2.2 k = .inl (tt, n, .inl (mI M k)) := by
  rw [hp_cell, h3]
  unfold mcell
  dsimp only
  rw [if_neg ht, if_pos ht5]
theorem mrow_cR {k n tt : Nat} (h3 : mS M k = .inr (tt, n)) (ht : 5 ≤ tt) : (hp M).2.2 k = .inl (tt, n, .inr (.inr (.inr (.inr (mR M k))))) := by
  rw [hp_cell, h3]
  unfold mcell
  dsimp only
  rw [if_neg (by omega), if_neg (by omega)]
theorem xZ.k_wI {k : Nat} {i x : Int32} {A : xM → Option (α × xM)} (hP : xP m = some me) (hE : xfd pc me.1 = some (.iastore, 1, t, a, b, cv)) (kk : ∀ M1, xZ ι O d m (pc + 1) lv st M1 (A M1)) : xZ ι O d m pc lv (.int x :: .int i :: .ref k :: st) M ((wI M k i x).bind A) := by
  intro a1 M1 e
  obtain ⟨M2, e1, e2⟩ := Option.bind_eq_some_iff.mp e
  unfold wI at e1
  split at e1
  · rename_i hc
    obtain ⟨n, h1, h2, h3, h4⟩ := wX_ok hc
    cases e1
    refine xX.iast hP hE h1 h2 (mrow_cI h3 (by decide) (by decide)) h4 ?_
    have q := mrow_I (f := mup (mI M k) i.toNatClampNeg x) h3 (by decide) (by decide)
    have kq := kk _ a1 M1 e2
    rw [← q] at kq
    exact kq
  · cases e1
theorem xZ.k_wL {k : Nat} {i : Int32} {x : Int64} {A : xM → Option (α × xM)} (hP : xP m = some me) (hE : xfd pc me.1 = some (.lastore, 1, t, a, b, cv)) (kk : ∀ M1, xZ ι O d m (pc + 1) lv st M1 (A M1)) : xZ ι O d m pc lv (.long x :: .int i :: .ref k :: st) M ((wL M k i x).bind A) := by
  intro a1 M1 e
  obtain ⟨M2, e1, e2⟩ := Option.bind_eq_some_iff.mp e
  unfold wL at e1
  split at e1
  · rename_i hc
    obtain ⟨n, h1, h2, h3, h4⟩ := wX_ok hc
    cases e1
    refine xX.last hP hE h1 h2 (by rw [hp_cell, h3]; rfl) h4 ?_
    have q := mrow_L (f := mup (mL M k) i.toNatClampNeg x) h3
    have kq := kk _ a1 M1 e2
    rw [← q] at kq
    exact kq
  · cases e1
theorem xhs_one {en : xEn} {pc' : Nat} {st' : List Value} {h h' : Nat × Nat × (Nat → va_E)} (e1 : xs1 me.2.1 en.1 en.2.1 lv st = none) (e2 : xhs O en.1 en.2.1 en.2.2.1 en.2.2.2.1 en.2.2.2.2.2 st h = some (st', h')) (hq : pc + en.2.1 = pc') : xnx O me.2.1 en pc lv st h = some (pc', lv, st', h') := by
  subst hq
  unfold xnx
  rw [e1, e2]
theorem xZ.k_wC {k : Nat} {i x : Int32} {A : xM → Option (α × xM)} (hP : xP m = some me) (hE : xfd pc me.1 = some (.castore, 1, t, a, b, cv)) (kk : ∀ M1, xZ ι O d m (pc + 1) lv st M1 (A M1)) : xZ ι O d m pc lv (.int x :: .int i :: .ref k :: st) M ((wC M k i x).bind A) := by
  intro a1 M1 e
  obtain ⟨M2, e1, e2⟩ := Option.bind_eq_some_iff.mp e
  unfold wC at e1
  split at e1
  · rename_i hc
    obtain ⟨n, h1, h2, h3, h4⟩ := wX_ok hc
    cases e1
    refine xX.one hP hE (xhs_one rfl (st' := st) (h' := hp (msI M k (mup (mI M k) i.toNatClampNeg (vp_nar .char x)))) ?_ rfl) (kk _ a1 M1 e2)
    have h5 := mrow_cI h3 (by decide) (by decide)
    have h2' : k < (hp M).1 := h2
    rw [← mrow_I h3 (by decide) (by decide)]
    unfold xhs
    simp only [h1, h2', h5, and_self, if_true, if_neg h4]
    rfl
  · cases e1
theorem xZ.k_wB {k : Nat} {i x : Int32} {A : xM → Option (α × xM)} (hP : xP m = some me) (hE : xfd pc me.1 = some (.bastore, 1, t, a, b, cv)) (kk : ∀ M1, xZ ι O d m (pc + 1) lv st M1 (A M1)) : xZ ι O d m pc lv (.int x :: .int i :: .ref k :: st) M ((wB M k i x).bind A) := by
  intro a1 M1 e
  obtain ⟨M2, e1, e2⟩ := Option.bind_eq_some_iff.mp e
  unfold wB at e1
  split at e1
  · rename_i hc
    obtain ⟨n, h1, h2, h3, h4⟩ := wX_ok hc
    cases e1
    refine xX.one hP hE (xhs_one rfl (st' := st) (h' := hp (msI M k (mup (mI M k) i.toNatClampNeg (vp_nar .boolean x)))) ?_ rfl) (kk _ a1 M1 e2)
    have h5 := mrow_cI h3 (by decide) (by decide)
    have h2' : k < (hp M).1 := h2
    rw [← mrow_I h3 (by decide) (by decide)]
    unfold xhs
    simp only [h1, h2', h5, and_self, if_true, if_neg h4]
    rfl
  · split at e1
    · rename_i hc
      obtain ⟨n, h1, h2, h3, h4⟩ := wX_ok hc
      cases e1
      refine xX.one hP hE (xhs_one rfl (st' := st) (h' := hp (msI M k (mup (mI M k) i.toNatClampNeg (vp_nar .byte x)))) ?_ rfl) (kk _ a1 M1 e2)
      have h5 := mrow_cI h3 (by decide) (by decide)
      have h2' : k < (hp M).1 := h2
      rw [← mrow_I h3 (by decide) (by decide)]
      unfold xhs
      simp only [h1, h2', h5, and_self, if_true, if_neg h4, show ¬ ((3 : Nat) = 2) from by decide, if_false]
      rfl
    · cases e1
theorem xZ.k_wR {k v : Nat} {i : Int32} {A : xM → Option (α × xM)} (hP : xP m = some me) (hE : xfd pc me.1 = some (.aastore, 1, t, a, b, cv)) (kk : ∀ M1, xZ ι O d m (pc + 1) lv st M1 (A M1)) : xZ ι O d m pc lv (.ref v :: .int i :: .ref k :: st) M ((wR O M k i v).bind A) := by
  intro a1 M1 e
  obtain ⟨M2, e1, e2⟩ := Option.bind_eq_some_iff.mp e
  unfold wR at e1
  split at e1
  · rename_i t2 n0 hs
    split at e1
    · rename_i hc
      obtain ⟨h0, hw, hv⟩ := hc
      obtain ⟨n, h1, h2, h3, h4⟩ := wX_ok hw
      cases e1
      refine xX.one hP hE (xhs_one rfl (st' := st) (h' := hp (msR M k (mup (mR M k) i.toNatClampNeg (some v)))) ?_ rfl) (kk _ a1 M1 e2)
      have h5 := mrow_cR h3 h0
      have h2' : k < (hp M).1 := h2
      rw [← mrow_R h3 h0]
      unfold xhs
      unfold wRok at hv
      split at hv
      · rename_i ci fs hx
        simp only [Bool.and_eq_true, decide_eq_true_eq] at hv
        obtain ⟨⟨v1, v2⟩, v3⟩ := hv
        simp only [h1, h2', h5, hx, and_self, if_true, if_neg h4, ← v1, v2, v3]
        rfl
      · rename_i t3 n3 f3 hx
        simp only [Bool.and_eq_true, decide_eq_true_eq] at hv
        obtain ⟨⟨v1, v2⟩, v3⟩ := hv
        simp only [h1, h2', h5, hx, and_self, if_true, if_neg h4, v1, v2, v3]
        rfl
      · cases hv
    · cases e1
  · cases e1
theorem hp_new {s : Nat ⊕ Nat × Nat} {w : Nat} {x : va_E} (e : mcell s (fun _ => 0) (fun _ => 0) (fun _ => none) = x) : xnw (hp M) w x = hp (mnew M s w) := by
  unfold xnw hp
  refine Prod.ext rfl (Prod.ext rfl ?_)
  funext q
  show (if q = M.1 then x else _) = mcell (if q = M.1 then s else mS M q) (if q = M.1 then fun _ => 0 else mI M q) (if q = M.1 then fun _ => 0 else mL M q) (if q = M.1 then fun _ => none else mR M q)
  by_cases h : q = M.1
  · rw [if_pos h, if_pos h, if_pos h, if_pos h, if_pos h, e]
  · rw [if_neg h, if_neg h, if_neg h, if_neg h, if_neg h]
theorem xZ.k_nO {i ci nf : Nat} {A : Nat → xM → Option (α × xM)} (hP : xP m = some me) (hE : xfd pc me.1 = some (.new i, 3, ci, nf, b, cv)) (hn : xNf ci = nf) (kk : ∀ k M1, xZ ι O d m (pc + 3) lv (.ref k :: st) M1 (A k M1)) : xZ ι O d m pc lv st M (xcl (nO M ci) A) := by
  intro a1 M1 e
  obtain ⟨k2, M2, e1, e2⟩ := xcl_some e
  subst hn
  unfold nO at e1
  split at e1
  · rename_i hc
    cases e1
    refine xX.one hP hE (xhs_one rfl (st' := .ref M.1 :: st) (h' := hp (mnew M (.inl ci) (xNf ci))) ?_ rfl) (kk _ _ a1 M1 e2)
    have hc' : (hp M).1 + 1 < 1000000000 := hc
    unfold xhs
    dsimp only
    rw [if_pos hc', ← hp_new rfl]
    simp only [mcell, xfv_dv]
    rfl
  · cases e1
theorem xZ.k_nA {q : ArrayType} {t0 : Nat} {n : Int32} {A : Nat → xM → Option (α × xM)} (hP : xP m = some me) (hE : xfd pc me.1 = some (.newarray q, 2, t, a, b, cv)) (ht : xat q = some t0) (h5 : t0 < 5) (kk : ∀ k M1, xZ ι O d m (pc + 2) lv (.ref k :: st) M1 (A k M1)) : xZ ι O d m pc lv (.int n :: st) M (xcl (nA M t0 n) A) := by
  intro a1 M1 e
  obtain ⟨k2, M2, e1, e2⟩ := xcl_some e
  unfold nA at e1
  split at e1
  · cases e1
  · rename_i hc
    cases e1
    refine xX.one hP hE (xhs_one rfl (st' := .ref M.1 :: st) (h' := hp (mnew M (.inr (t0, n.toNatClampNeg)) n.toNatClampNeg)) ?_ rfl) (kk _ _ a1 M1 e2)
    have hc' : ¬ (n < 0 ∨ 60000000 < n.toNatClampNeg ∨ ¬ (hp M).1 + 1 < 1000000000) := hc
    rw [← hp_new (x := .inl (t0, n.toNatClampNeg, xay t0)) (by
      unfold mcell xay
      dsimp only
      by_cases h1 : t0 = 1
      · rw [if_pos h1, if_pos h1]
      · rw [if_neg h1, if_neg h1, if_pos h5])]
    unfold xhs
    simp only [ht, if_neg hc']
    rfl
theorem xZ.nRr {i t0 : Nat} {n : Int32} {A : Nat → xM → Option (α × xM)} (hP : xP m = some me) (hE : xfd pc me.1 = some (.anewarray i, 3, t0, a, b, cv)) (h5 : 5 ≤ t0) (kk : ∀ k M1, xZ ι O d m (pc + 3) lv (.ref k :: st) M1 (A k M1)) : xZ ι O d m pc lv (.int n :: st) M (xcl (nA M t0 n) A) := by
  intro a1 M1 e
  obtain ⟨k2, M2, e1, e2⟩ := xcl_some e
  unfold nA at e1
  split at e1
  · cases e1
  · rename_i hc
    cases e1
    refine xX.one hP hE (xhs_one rfl (st' := .ref M.1 :: st) (h' := hp (mnew M (.inr (t0, n.toNatClampNeg)) n.toNatClampNeg)) ?_ rfl) (kk _ _ a1 M1 e2)
    have hc' : ¬ (n < 0 ∨ 60000000 < n.toNatClampNeg ∨ ¬ (hp M).1 + 1 < 1000000000) := hc
    rw [← hp_new (x := .inl (t0, n.toNatClampNeg, .inr (.inr (.inr (.inr (fun _ => none)))))) (by
      unfold mcell
      dsimp only
      rw [if_neg (by omega : ¬ t0 = 1), if_neg (by omega : ¬ t0 < 5)])]
    unfold xhs
    simp only [if_neg hc']
    rfl
/-- a row of rows of ints, made at once -/
def mmk (M : xM) (n k : Nat) : xM := (M.1 + (1 + n), M.2.1 + (n + n * k), fun a => if a = M.1 then .inr (5, n) else if M.1 < a ∧ a < M.1 + (1 + n) then .inr (0, k) else mS M a, fun a => if M.1 < a ∧ a < M.1 + (1 + n) then fun _ => 0 else mI M a, mL M, fun a => if a = M.1 then fun i => if i < n then some (M.1 + 1 + i) else none else mR M a)
def nM (M : xM) (n k : Int32) : Option (Nat × xM) := if n < 0 ∨ k < 0 ∨ 60000000 < n.toNatClampNeg ∨ 60000000 < k.toNatClampNeg ∨ ¬ M.1 + (1 + n.toNatClampNeg) < 1000000000 then none else some (M.1, mmk M n.toNatClampNeg k.toNatClampNeg)
theorem hp_mmk (M : xM) (n k : Nat) : xmk (hp M) n k = hp (mmk M n k) := by
  unfold xmk hp
  refine Prod.ext rfl (Prod.ext rfl ?_)
  funext q
  show (if q = M.1 then _ else if M.1 < q ∧ q < M.1 + (1 + n) then _ else _) = mcell (if q = M.1 then .inr (5, n) else if M.1 < q ∧ q < M.1 + (1 + n) then .inr (0, k) else mS M q) (if M.1 < q ∧ q < M.1 + (1 + n) then fun _ => 0 else mI M q) (mL M q) (if q = M.1 then fun i => if i < n then some (M.1 + 1 + i) else none else mR M q)
  by_cases h : q = M.1
  · subst h
    rw [if_pos rfl, if_pos rfl, if_pos rfl, if_neg (by omega)]
    rfl
  · rw [if_neg h, if_neg h, if_neg h]
    by_cases h2 : M.1 < q ∧ q < M.1 + (1 + n)
    · rw [if_pos h2, if_pos h2, if_pos h2]
      rfl
    · rw [if_neg h2, if_neg h2, if_neg h2]
theorem xZ.nMr {i : Nat} {n k : Int32} {A : Nat → xM → Option (α × xM)} (hP : xP m = some me) (hE : xfd pc me.1 = some (.multianewarray i 2, 4, t, a, b, cv)) (kk : ∀ k M1, xZ ι O d m (pc + 4) lv (.ref k :: st) M1 (A k M1)) : xZ ι O d m pc lv (.int k :: .int n :: st) M (xcl (nM M n k) A) := by
  intro a1 M1 e
  obtain ⟨k2, M2, e1, e2⟩ := xcl_some e
  unfold nM at e1
  split at e1
  · cases e1
  · rename_i hc
    cases e1
    refine xX.one hP hE (xhs_one rfl (st' := .ref M.1 :: st) (h' := hp (mmk M n.toNatClampNeg k.toNatClampNeg)) ?_ rfl) (kk _ _ a1 M1 e2)
    have hc' : ¬ (n < 0 ∨ k < 0 ∨ 60000000 < n.toNatClampNeg ∨ 60000000 < k.toNatClampNeg ∨ ¬ (hp M).1 + (1 + n.toNatClampNeg) < 1000000000) := hc
    rw [← hp_mmk]
    unfold xhs
    simp only [if_neg hc']
    rfl
theorem xX.nat {en : xEn} {st' : List Value} {h h' : Nat × Nat × (Nat → va_E)} {r : Option Value × (Nat × Nat × (Nat → va_E))} (hP : xP m = some me) (hE : xfd pc me.1 = some en) (hN : xnx O me.2.1 en pc lv st h = none) (hA : xna O en st h = some (st', h')) (k : xX O d m (pc + 3) lv st' h' r) : xX O d m pc lv st h r := by
  obtain ⟨f, hf⟩ := k
  refine ⟨f + 1, ?_⟩
  rw [xgo, hP]
  simp only [hE, hN, hA]
  exact hf
/-- a copy of a row of bytes -/
def clX (M : xM) (k : Nat) : Option (Nat × xM) := match mS M k with
  | .inr (t, n) => if k < 1000000000 ∧ k < M.1 ∧ M.1 + 1 < 1000000000 ∧ t = 3 ∧ ∀ i, i < n → xfit .byte (.int (mI M k i)) = true then some (M.1, (M.1 + 1, M.2.1 + n, fun a => if a = M.1 then .inr (3, n) else mS M a, fun a => if a = M.1 then mI M k else mI M a, mL M, mR M)) else none
  | .inl _ => none
def ckB (M : xM) (k : Nat) : Option Unit := match mS M k with
  | .inr (t, _) => if k < 1000000000 ∧ k < M.1 ∧ t = 3 then some () else none
  | .inl _ => none
theorem xna_cl {i k : Nat} {h : Nat × Nat × (Nat → va_E)} : xna O (.invokevirtual i, 3, a, b, 10, cv) (.ref k :: st) h = if xcat st ≤ 100 ∧ k < 1000000000 ∧ k < h.1 ∧ h.1 + 1 < 1000000000 then (match h.2.2 k with
      | .inl (t, n, .inl f) => if t = 3 ∧ ∀ i, i < n → xfit .byte (.int (f i)) = true then some (.ref h.1 :: st, xnw h n (.inl (3, n, .inl f))) else none
      | _ => none) else none := rfl
theorem xZ.k_clX {i k : Nat} {A : Nat → xM → Option (α × xM)} (hP : xP m = some me) (hE : xfd pc me.1 = some (.invokevirtual i, 3, a, b, 10, cv)) (hw : xcat st ≤ 100) (kk : ∀ k M1, xZ ι O d m (pc + 3) lv (.ref k :: st) M1 (A k M1)) : xZ ι O d m pc lv (.ref k :: st) M (xcl (clX M k) A) := by
  intro a9 M1 e
  obtain ⟨k2, M2, e1, e2⟩ := xcl_some e
  unfold clX at e1
  split at e1
  · rename_i t n hs
    split at e1
    · rename_i hc
      obtain ⟨c1, c2, c3, rfl, c5⟩ := hc
      cases e1
      refine xX.nat hP hE rfl ?_ (kk _ _ a9 M1 e2)
      have c3' : (hp M).1 + 1 < 1000000000 := c3
      rw [xna_cl, if_pos ⟨hw, c1, c2, c3'⟩, mrow_cI hs (by decide) (by decide)]
      dsimp only
      rw [if_pos ⟨rfl, c5⟩]
      show some (Value.ref M.1 :: st, xnw (hp M) n (.inl (3, n, .inl (mI M k)))) = _
      congr 2
      unfold xnw hp
      refine Prod.ext rfl (Prod.ext rfl ?_)
      funext q
      show (if q = M.1 then _ else mcell (mS M q) (mI M q) (mL M q) (mR M q)) = mcell (if q = M.1 then .inr (3, n) else mS M q) (if q = M.1 then mI M k else mI M q) (mL M q) (mR M q)
      by_cases h : q = M.1
      · rw [if_pos h, if_pos h, if_pos h]
        rfl
      · rw [if_neg h, if_neg h, if_neg h]
    · cases e1
  · cases e1
theorem xZ.k_ckB {i k : Nat} {A : Unit → Option (α × xM)} (hP : xP m = some me) (hE : xfd pc me.1 = some (.checkcast i, 3, t, a, b, cv)) (kk : ∀ u, xZ ι O d m (pc + 3) lv (.ref k :: st) M (A u)) : xZ ι O d m pc lv (.ref k :: st) M ((ckB M k).bind A) := by
  intro a9 M1 e
  obtain ⟨u, e1, e2⟩ := Option.bind_eq_some_iff.mp e
  unfold ckB at e1
  split at e1
  · rename_i t3 n hs
    split at e1
    · rename_i hc
      obtain ⟨c1, c2, rfl⟩ := hc
      refine xX.one hP hE (xhs_one rfl (st' := .ref k :: st) (h' := hp M) ?_ rfl) (kk _ a9 M1 e2)
      unfold xhs
      have c2' : k < (hp M).1 := c2
      simp only [c1, c2', and_self, if_true, mrow_cI hs (by decide) (by decide)]
    · cases e1
  · cases e1
theorem xcb_no {h : Nat × Nat × (Nat → va_E)} {a0 a1 : Nat} {sp dp n : Int32} (h0 : a0 < 1000000000) (h1 : a0 < h.1) (e : ∀ t n f, h.2.2 a0 = .inl (t, n, .inl f) → t ≠ 3) : xcb O h a0 sp a1 dp n = none := by
  unfold xcb
  rw [show xrd O h a0 = some (h.2.2 a0) from by unfold xrd; rw [if_pos h0, if_pos h1]]
  split
  · rename_i t0 n0 f t1 n1 g w0 w1
    have q := e t0 n0 f (Option.some.inj w0)
    rw [if_neg (fun z => q z.1)]
  · rfl
theorem xna_cp {i a0 a1 : Nat} {sp dp n : Int32} {h : Nat × Nat × (Nat → va_E)} : xna O (.invokestatic i, 3, a, b, 6, cv) (.int n :: .int dp :: .ref a1 :: .int sp :: .ref a0 :: st) h = match xcb O h a0 sp a1 dp n with
      | some x => if xcat st ≤ 100 ∧ a1 < 1000000000 ∧ a1 < h.1 then some (st, xup h a1 x) else none
      | none => if xcat st ≤ 100 ∧ a0 < 1000000000 ∧ a0 < h.1 ∧ a1 < 1000000000 ∧ a1 < h.1 then (match h.2.2 a0, h.2.2 a1 with
      | .inl (t0, n0, .inl f), .inl (t1, n1, .inl g) => if t0 = t1 ∧ t0 = 0 ∧ ¬ sp < 0 ∧ ¬ dp < 0 ∧ ¬ n < 0 ∧ sp.toNatClampNeg + n.toNatClampNeg ≤ n0 ∧ dp.toNatClampNeg + n.toNatClampNeg ≤ n1 then some (st, xup h a1 (.inl (t1, n1, .inl (va_cpy f g sp.toNatClampNeg dp.toNatClampNeg n.toNatClampNeg)))) else none
      | .inl (t0, n0, .inr (.inl f)), .inl (t1, n1, .inr (.inl g)) => if t0 = t1 ∧ t0 = 1 ∧ ¬ sp < 0 ∧ ¬ dp < 0 ∧ ¬ n < 0 ∧ sp.toNatClampNeg + n.toNatClampNeg ≤ n0 ∧ dp.toNatClampNeg + n.toNatClampNeg ≤ n1 then some (st, xup h a1 (.inl (t1, n1, .inr (.inl (va_cpy f g sp.toNatClampNeg dp.toNatClampNeg n.toNatClampNeg))))) else none
      | _, _ => none) else none := rfl
theorem xZ.k_cpX {i a0 a1 : Nat} {sp dp n : Int32} {A : xM → Option (α × xM)} (hP : xP m = some me) (hE : xfd pc me.1 = some (.invokestatic i, 3, a, b, 6, cv)) (hw : xcat st ≤ 100) (kk : ∀ M1, xZ ι O d m (pc + 3) lv st M1 (A M1)) : xZ ι O d m pc lv (.int n :: .int dp :: .ref a1 :: .int sp :: .ref a0 :: st) M ((cpX M a0 sp a1 dp n).bind A) := by
  intro a9 M1 e
  obtain ⟨M2, e1, e2⟩ := Option.bind_eq_some_iff.mp e
  unfold cpX at e1
  split at e1
  · rename_i hc
    split at e1
    · rename_i t0 n0 t1 n1 hs0 hs1
      split at e1
      · rename_i hk
        obtain ⟨k1, k2⟩ := hk
        subst k1
        split at e1
        · rename_i ht
          subst ht
          cases e1
          refine xX.nat hP hE rfl ?_ (kk _ a9 M1 e2)
          rw [xna_cp, xcb_no hc.1 hc.2.1 (fun t n f z => by rw [mrow_cI hs0 (by decide) (by decide)] at z; cases z; decide)]
          dsimp only
          rw [if_pos ⟨hw, hc.1, hc.2.1, hc.2.2.1, hc.2.2.2⟩, mrow_cI hs0 (by decide) (by decide), mrow_cI hs1 (by decide) (by decide)]
          dsimp only
          rw [if_pos ⟨rfl, rfl, k2⟩, mrow_I hs1 (by decide) (by decide)]
        · split at e1
          · rename_i ht
            subst ht
            cases e1
            refine xX.nat hP hE rfl ?_ (kk _ a9 M1 e2)
            rw [xna_cp, xcb_no hc.1 hc.2.1 (fun t n f z => by rw [show (hp M).2.2 a0 = .inl (1, n0, .inr (.inl (mL M a0))) from by rw [hp_cell, hs0]; rfl] at z; cases z)]
            dsimp only
            rw [if_pos ⟨hw, hc.1, hc.2.1, hc.2.2.1, hc.2.2.2⟩, show (hp M).2.2 a0 = .inl (1, n0, .inr (.inl (mL M a0))) from by rw [hp_cell, hs0]; rfl, show (hp M).2.2 a1 = .inl (1, n1, .inr (.inl (mL M a1))) from by rw [hp_cell, hs1]; rfl]
            dsimp only
            rw [if_pos ⟨rfl, rfl, k2⟩, mrow_L hs1]
          · cases e1
      · cases e1
    · cases e1
  · cases e1
/-- a piece of a row copied, of bytes too, from an old row too -/
def cpY (O : Nat → Option va_E) (M : xM) (a0 : Nat) (sp : Int32) (a1 : Nat) (dp n : Int32) : Option xM := match xrd O (hp M) a0, mS M a1 with
  | some (.inl (t0, n0, .inl f)), .inr (t1, n1) => if t0 = 3 ∧ t1 = 3 ∧ ¬ sp < 0 ∧ ¬ dp < 0 ∧ ¬ n < 0 ∧ sp.toNatClampNeg + n.toNatClampNeg ≤ n0 ∧ dp.toNatClampNeg + n.toNatClampNeg ≤ n1 ∧ (∀ i, i < n.toNatClampNeg → xfit .byte (.int (f (sp.toNatClampNeg + i))) = true) ∧ a1 < 1000000000 ∧ a1 < M.1 then some (msI M a1 (va_cpy f (mI M a1) sp.toNatClampNeg dp.toNatClampNeg n.toNatClampNeg)) else cpX M a0 sp a1 dp n
  | _, _ => cpX M a0 sp a1 dp n
theorem xZ.k_cpY {i a0 a1 : Nat} {sp dp n : Int32} {A : xM → Option (α × xM)} (hP : xP m = some me) (hE : xfd pc me.1 = some (.invokestatic i, 3, a, b, 6, cv)) (hw : xcat st ≤ 100) (kk : ∀ M1, xZ ι O d m (pc + 3) lv st M1 (A M1)) : xZ ι O d m pc lv (.int n :: .int dp :: .ref a1 :: .int sp :: .ref a0 :: st) M ((cpY O M a0 sp a1 dp n).bind A) := by
  unfold cpY
  split
  · rename_i t0 n0 f t1 n1 w0 w1
    split
    · rename_i hq
      obtain ⟨q0, q1, q2, q3, q4, q5, q6, q7, q8, q9⟩ := hq
      subst q0
      subst q1
      intro a9 M1 e
      have e2 : A (msI M a1 (va_cpy f (mI M a1) sp.toNatClampNeg dp.toNatClampNeg n.toNatClampNeg)) = some (a9, M1) := e
      refine xX.nat hP hE rfl ?_ (kk _ a9 M1 e2)
      have hcb : xcb O (hp M) a0 sp a1 dp n = some (.inl (3, n1, .inl (va_cpy f (mI M a1) sp.toNatClampNeg dp.toNatClampNeg n.toNatClampNeg))) := by
        unfold xcb
        rw [w0, mrow_cI w1 (by decide) (by decide)]
        dsimp only
        rw [if_pos ⟨rfl, rfl, q2, q3, q4, q5, q6, q7⟩]
      rw [xna_cp, hcb]
      dsimp only
      have q9' : a1 < (hp M).1 := q9
      rw [if_pos ⟨hw, q8, q9'⟩, mrow_I w1 (by decide) (by decide)]
    · exact xZ.k_cpX hP hE hw kk
  · exact xZ.k_cpX hP hE hw kk
theorem xZ.obj {i k : Nat} (hP : xP m = some me) (hE : xfd pc me.1 = some (.invokespecial i, 3, a, b, 5, cv)) (hw : xcat st ≤ 100) (kk : xZ ι O d m (pc + 3) lv st M F) : xZ ι O d m pc lv (.ref k :: st) M F := by
  intro a9 M1 e
  refine xX.nat hP hE rfl ?_ (kk a9 M1 e)
  unfold xna
  dsimp only
  rw [if_pos hw]
  rfl
/-- calls -/
theorem xZ.calls {β : Type} {κ : β → Option Value} {G : Option (β × xM)} {A : β → xM → Option (α × xM)} {i m' n : Nat} {me' : xMe} {av rest : List Value} {st' : β → List Value} (hP : xP m = some me) (hE : xfd pc me.1 = some (.invokestatic i, 3, m', n, 1, cv)) (hs : st = av.reverse ++ rest) (hn : av.length = n) (hw : xcat rest ≤ 8) (hm : m' < 1000) (hP' : xP m' = some me') (hl : (lg_sl av).length ≤ me'.2.1) (hst : ∀ v, (κ v).toList ++ rest = st' v)
    (hk : xZ κ O d m' 0 (lv_args 0 av) [] M G) (k : ∀ v M1, xZ ι O (d + 1) m (pc + 3) lv (st' v) M1 (A v M1)) : xZ ι O (d + 1) m pc lv st M (xcl G A) := by
  intro a9 M9 e
  obtain ⟨v, M2, e1, e2⟩ := xcl_some e
  exact xX.calls hP hE hs hn hw hm hP' hl (hk v M2 e1) ((hst v).symm ▸ k v M2 a9 M9 e2)
theorem xZ.calli {β : Type} {κ : β → Option Value} {G : Option (β × xM)} {A : β → xM → Option (α × xM)} {i m' n s2 k0 : Nat} {me' : xMe} {av rest : List Value} {st' : β → List Value} (hP : xP m = some me) (hE : xfd pc me.1 = some (.invokespecial i, 3, m', n, s2, cv)) (h2 : s2 = 3 ∨ s2 = 4) (hs : st = (.ref k0 :: av).reverse ++ rest) (hn : av.length + 1 = n) (hw : xcat rest ≤ 8) (hm : m' < 1000) (hP' : xP m' = some me') (hl : (lg_sl (.ref k0 :: av)).length ≤ me'.2.1) (hst : ∀ v, (κ v).toList ++ rest = st' v)
    (hk : xZ κ O d m' 0 (lv_args 0 (.ref k0 :: av)) [] M G) (k : ∀ v M1, xZ ι O (d + 1) m (pc + 3) lv (st' v) M1 (A v M1)) : xZ ι O (d + 1) m pc lv st M (xcl G A) := by
  intro a9 M9 e
  obtain ⟨v, M2, e1, e2⟩ := xcl_some e
  exact xX.calli hP hE h2 hs hn hw hm hP' hl (hk v M2 e1) ((hst v).symm ▸ k v M2 a9 M9 e2)
/-- is an object of a class -/
def isO (O : Nat → Option va_E) (M : xM) (k ci : Nat) : Option Unit := match xrd O (hp M) k with
  | some (.inr (c, _)) => if c = ci then some () else none
  | _ => none
theorem xZ.callv {β : Type} {κ : β → Option Value} {G : Option (β × xM)} {A : β → xM → Option (α × xM)} {i m' n s2 k0 ci : Nat} {me' : xMe} {av rest : List Value} {st' : β → List Value} (hP : xP m = some me) (hE : xfd pc me.1 = some (.invokevirtual i, 3, m', n, s2, cv)) (h2 : s2 = 2 ∨ s2 = 8 ∨ s2 = 9) (hci : .int (Int32.ofNat ci) = cv ∧ ci < 17) (hs : st = (.ref k0 :: av).reverse ++ rest) (hn : av.length + 1 = n) (hw : xcat rest ≤ 8) (hm : m' < 1000) (hP' : xP m' = some me') (hl : (lg_sl (.ref k0 :: av)).length ≤ me'.2.1) (hst : ∀ v, (κ v).toList ++ rest = st' v)
    (hk : xZ κ O d m' 0 (lv_args 0 (.ref k0 :: av)) [] M G) (k : ∀ v M1, xZ ι O (d + 1) m (pc + 3) lv (st' v) M1 (A v M1)) : xZ ι O (d + 1) m pc lv st M ((isO O M k0 ci).bind fun _ => xcl G A) := by
  intro a9 M9 e
  obtain ⟨u, e0, e⟩ := Option.bind_eq_some_iff.mp e
  obtain ⟨v, M2, e1, e2⟩ := xcl_some e
  unfold isO at e0
  split at e0
  · rename_i c fs hx
    split at e0
    · rename_i hc
      subst hc
      exact xX.callv hP hE h2 hs hn hw hm hx hci hP' hl (hk v M2 e1) ((hst v).symm ▸ k v M2 a9 M9 e2)
    · cases e0
  · cases e0
/-- a superclass's method -/
theorem xZ.callu {β : Type} {κ : β → Option Value} {G : Option (β × xM)} {A : β → xM → Option (α × xM)} {i m' n k0 ci : Nat} {me' : xMe} {av rest : List Value} {st' : β → List Value} (hP : xP m = some me) (hE : xfd pc me.1 = some (.invokespecial i, 3, m', n, 7, cv)) (hci : .int (Int32.ofNat ci) = cv ∧ ci < 17) (hs : st = (.ref k0 :: av).reverse ++ rest) (hn : av.length + 1 = n) (hw : xcat rest ≤ 8) (hm : m' < 1000) (hP' : xP m' = some me') (hl : (lg_sl (.ref k0 :: av)).length ≤ me'.2.1) (hst : ∀ v, (κ v).toList ++ rest = st' v)
    (hk : xZ κ O d m' 0 (lv_args 0 (.ref k0 :: av)) [] M G) (k : ∀ v M1, xZ ι O (d + 1) m (pc + 3) lv (st' v) M1 (A v M1)) : xZ ι O (d + 1) m pc lv st M ((isO O M k0 ci).bind fun _ => xcl G A) := by
  intro a9 M9 e
  obtain ⟨u, e0, e⟩ := Option.bind_eq_some_iff.mp e
  obtain ⟨v, M2, e1, e2⟩ := xcl_some e
  unfold isO at e0
  split at e0
  · rename_i c fs hx
    split at e0
    · rename_i hc
      subst hc
      subst hs
      subst hn
      have q1 : ((Value.ref k0 :: av).reverse ++ rest).take (av.length + 1) = (Value.ref k0 :: av).reverse := by rw [show av.length + 1 = ((Value.ref k0 :: av).reverse).length by simp, List.take_left]
      have q2 : ((Value.ref k0 :: av).reverse ++ rest).drop (av.length + 1) = rest := by rw [show av.length + 1 = ((Value.ref k0 :: av).reverse).length by simp, List.drop_left]
      refine xX.call hP hE rfl rfl ?_ hP' hl (hk v M2 e1) ((hst v).symm ▸ k v M2 a9 M9 e2)
      unfold xca
      dsimp only
      rw [q1, q2, if_pos ⟨rfl, hm, by simp, hw⟩, List.reverse_reverse]
      simp only [hx, if_pos hci]
    · cases e0
  · cases e0
/-- ends -/
theorem xZ.reti {x : Int32} (hP : xP m = some me) (hE : xfd pc me.1 = some (.ireturn, 1, t, a, b, cv)) (hr : me.2.2 = some .int) : xZ oI O d m pc lv [.int x] M (some (x, M)) := by
  intro a9 M9 e
  cases e
  exact xX.reti hP hE hr rfl
theorem xZ.retf {x : Int32} {ty : FieldType} (hP : xP m = some me) (hE : xfd pc me.1 = some (.ireturn, 1, t, a, b, cv)) (hr : me.2.2 = some ty) : xZ oI O d m pc lv [.int x] M (if xfit ty (.int x) = true then some (x, M) else none) := by
  intro a9 M9 e
  split at e
  · rename_i hf
    cases e
    exact xX.reti hP hE hr hf
  · cases e
theorem xZ.retl {x : Int64} (hP : xP m = some me) (hE : xfd pc me.1 = some (.lreturn, 1, t, a, b, cv)) (hr : me.2.2 = some .long) : xZ oL O d m pc lv [.long x] M (some (x, M)) := by
  intro a9 M9 e
  cases e
  refine xX.ret hP hE rfl rfl ?_ ?_
  · unfold xca
    dsimp only
    split <;> rfl
  · rw [hr]
    show (if some FieldType.long = some FieldType.long then some (some (Value.long x)) else none) = _
    exact if_pos rfl
theorem xZ.retd {x : UInt64} (hP : xP m = some me) (hE : xfd pc me.1 = some (.dreturn, 1, t, a, b, cv)) (hr : me.2.2 = some .double) : xZ oD O d m pc lv [.double x] M (some (x, M)) := by
  intro a9 M9 e
  cases e
  refine xX.ret hP hE rfl rfl ?_ ?_
  · unfold xca
    dsimp only
    split <;> rfl
  · rw [hr]
    show (if some FieldType.double = some FieldType.double then some (some (Value.double x)) else none) = _
    exact if_pos rfl
theorem xZ.retr {x : Nat} {ty : FieldType} (hP : xP m = some me) (hE : xfd pc me.1 = some (.areturn, 1, t, a, b, cv)) (hr : me.2.2 = some ty) (hf : xkR ty = true) : xZ oR O d m pc lv [.ref x] M (some (x, M)) := by
  intro a9 M9 e
  cases e
  refine xX.ret hP hE rfl rfl ?_ ?_
  · unfold xca
    dsimp only
    split <;> rfl
  · unfold xre
    dsimp only
    rw [hr]
    exact if_pos ⟨by revert hf; cases ty <;> intro hf <;> first | rfl | (cases hf; done), by revert hf; cases ty <;> intro hf <;> first | rfl | (cases hf; done)⟩
theorem xZ.retu (hP : xP m = some me) (hE : xfd pc me.1 = some (.return_, 1, t, a, b, cv)) (hr : me.2.2 = none) : xZ oU O d m pc lv [] M (some ((), M)) := by
  intro a9 M9 e
  cases e
  refine xX.ret hP hE rfl rfl ?_ ?_
  · unfold xca
    dsimp only
    split <;> rfl
  · exact if_pos hr
theorem xZ.ddiv {x y : UInt64} {A : UInt64 → Option (α × xM)} (hP : xP m = some me) (hE : xfd pc me.1 = some (.ddiv, 1, t, a, b, cv)) (k : ∀ z, xZ ι O d m (pc + 1) lv (.double z :: st) M (A z)) : xZ ι O d m pc lv (.double y :: .double x :: st) M (if FP.ddiv x y &&& 0x7fffffffffffffff ≤ 0x7ff0000000000000 then xlet (FP.ddiv x y) A else none) := by
  by_cases hy : FP.ddiv x y &&& 0x7fffffffffffffff ≤ 0x7ff0000000000000
  · rw [if_pos hy]
    refine xZ.one hP hE ?_ (k _)
    show (match xs1 me.2.1 .ddiv 1 lv (.double y :: .double x :: st) with | some (lv', st') => _ | none => _) = _
    rw [show xs1 me.2.1 .ddiv 1 lv (.double y :: .double x :: st) = some (lv, .double (FP.ddiv x y) :: st) from if_pos hy]
  · rw [if_neg hy]; exact xZ.no
theorem xZ.ifn {x : Option Nat} {A B : Option (α × xM)} (hP : xP m = some me) (hE : xfd pc me.1 = some (.ifnull off, 3, t, a, b, cv)) (kt : x = none → xZ ι O d m t lv st M A) (kf : ¬ (x = none) → xZ ι O d m (pc + 3) lv st M B) : xZ ι O d m pc lv (va_rf x :: st) M (if x = none then A else B) := by
  cases x with
  | none => rw [if_pos rfl]; exact xZ.one hP hE rfl (kt rfl)
  | some k => rw [if_neg (by simp)]; exact xZ.one hP hE rfl (kf (by simp))
theorem xZ.ifnn {x : Option Nat} {A B : Option (α × xM)} (hP : xP m = some me) (hE : xfd pc me.1 = some (.ifnonnull off, 3, t, a, b, cv)) (kt : x = none → xZ ι O d m (pc + 3) lv st M A) (kf : ¬ (x = none) → xZ ι O d m t lv st M B) : xZ ι O d m pc lv (va_rf x :: st) M (if x = none then A else B) := by
  cases x with
  | none => rw [if_pos rfl]; exact xZ.one hP hE rfl (kt rfl)
  | some k => rw [if_neg (by simp)]; exact xZ.one hP hE rfl (kf (by simp))
/-- the object itself, where it may not be null -/
theorem xZ.nn {x : Option Nat} {A : Nat → Option (α × xM)} {lvf : Option Nat → List (Nat × Value)} {stf : Option Nat → List Value} (k : ∀ y, xZ ι O d m pc (lvf (some y)) (stf (some y)) M (A y)) : xZ ι O d m pc (lvf x) (stf x) M (x.bind A) := by
  cases x with
  | none => exact xZ.no
  | some y => exact k y
end XTX
