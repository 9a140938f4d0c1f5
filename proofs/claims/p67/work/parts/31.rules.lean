/-! ===== rules of the runs: branches, the heap, calls ===== -/
section XRU
variable {O : Nat → Option va_E} {d m pc : Nat} {lv : List (Nat × Value)} {st : List Value} {h : Nat × Nat × (Nat → va_E)} {r : Option Value × (Nat × Nat × (Nat → va_E))} {me : xMe} {t a b c0 len : Nat} {cv : Value} {off : Int}
theorem xX.one {en : xEn} {pc' : Nat} {lv' : List (Nat × Value)} {st' : List Value} {h' : Nat × Nat × (Nat → va_E)} (hP : xP m = some me) (hE : xfd pc me.1 = some en) (hN : xnx O me.2.1 en pc lv st h = some (pc', lv', st', h')) (k : xX O d m pc' lv' st' h' r) : xX O d m pc lv st h r := by
  obtain ⟨f, hf⟩ := k
  refine ⟨f + 1, ?_⟩
  rw [xgo, hP]
  simp only [hE, hN]
  exact hf

theorem xX.if_eq {x : Int32} (hP : xP m = some me) (hE : xfd pc me.1 = some (.ifCond .eq off, 3, t, a, b, cv)) (kt : x = 0 → xX O d m t lv st h r) (kf : ¬ (x = 0) → xX O d m (pc + 3) lv st h r) : xX O d m pc lv (.int x :: st) h r := by
  by_cases hc : x = 0
  · exact xX.one (pc' := t) hP hE (by show some (ite _ _ _, lv, st, h) = _; rw [if_pos hc]) (kt hc)
  · exact xX.one (pc' := pc + 3) hP hE (by show some (ite _ _ _, lv, st, h) = _; rw [if_neg hc]) (kf hc)
theorem xX.ic_eq {x y : Int32} (hP : xP m = some me) (hE : xfd pc me.1 = some (.if_icmp .eq off, 3, t, a, b, cv)) (kt : x = y → xX O d m t lv st h r) (kf : ¬ (x = y) → xX O d m (pc + 3) lv st h r) : xX O d m pc lv (.int y :: .int x :: st) h r := by
  by_cases hc : x = y
  · exact xX.one (pc' := t) hP hE (by show some (ite _ _ _, lv, st, h) = _; rw [if_pos hc]) (kt hc)
  · exact xX.one (pc' := pc + 3) hP hE (by show some (ite _ _ _, lv, st, h) = _; rw [if_neg hc]) (kf hc)
theorem xX.if_ne {x : Int32} (hP : xP m = some me) (hE : xfd pc me.1 = some (.ifCond .ne off, 3, t, a, b, cv)) (kt : ¬ x = 0 → xX O d m t lv st h r) (kf : ¬ (¬ x = 0) → xX O d m (pc + 3) lv st h r) : xX O d m pc lv (.int x :: st) h r := by
  by_cases hc : x = 0
  · exact xX.one (pc' := pc + 3) hP hE (by show some (ite _ _ _, lv, st, h) = _; rw [if_pos hc]) (kf (fun q => q hc))
  · exact xX.one (pc' := t) hP hE (by show some (ite _ _ _, lv, st, h) = _; rw [if_neg hc]) (kt hc)
theorem xX.ic_ne {x y : Int32} (hP : xP m = some me) (hE : xfd pc me.1 = some (.if_icmp .ne off, 3, t, a, b, cv)) (kt : ¬ x = y → xX O d m t lv st h r) (kf : ¬ (¬ x = y) → xX O d m (pc + 3) lv st h r) : xX O d m pc lv (.int y :: .int x :: st) h r := by
  by_cases hc : x = y
  · exact xX.one (pc' := pc + 3) hP hE (by show some (ite _ _ _, lv, st, h) = _; rw [if_pos hc]) (kf (fun q => q hc))
  · exact xX.one (pc' := t) hP hE (by show some (ite _ _ _, lv, st, h) = _; rw [if_neg hc]) (kt hc)
theorem xX.if_lt {x : Int32} (hP : xP m = some me) (hE : xfd pc me.1 = some (.ifCond .lt off, 3, t, a, b, cv)) (kt : x < 0 → xX O d m t lv st h r) (kf : ¬ (x < 0) → xX O d m (pc + 3) lv st h r) : xX O d m pc lv (.int x :: st) h r := by
  by_cases hc : x < 0
  · exact xX.one (pc' := t) hP hE (by show some (ite _ _ _, lv, st, h) = _; rw [if_pos hc]) (kt hc)
  · exact xX.one (pc' := pc + 3) hP hE (by show some (ite _ _ _, lv, st, h) = _; rw [if_neg hc]) (kf hc)
theorem xX.ic_lt {x y : Int32} (hP : xP m = some me) (hE : xfd pc me.1 = some (.if_icmp .lt off, 3, t, a, b, cv)) (kt : x < y → xX O d m t lv st h r) (kf : ¬ (x < y) → xX O d m (pc + 3) lv st h r) : xX O d m pc lv (.int y :: .int x :: st) h r := by
  by_cases hc : x < y
  · exact xX.one (pc' := t) hP hE (by show some (ite _ _ _, lv, st, h) = _; rw [if_pos hc]) (kt hc)
  · exact xX.one (pc' := pc + 3) hP hE (by show some (ite _ _ _, lv, st, h) = _; rw [if_neg hc]) (kf hc)
theorem xX.if_ge {x : Int32} (hP : xP m = some me) (hE : xfd pc me.1 = some (.ifCond .ge off, 3, t, a, b, cv)) (kt : 0 ≤ x → xX O d m t lv st h r) (kf : ¬ (0 ≤ x) → xX O d m (pc + 3) lv st h r) : xX O d m pc lv (.int x :: st) h r := by
  by_cases hc : 0 ≤ x
  · exact xX.one (pc' := t) hP hE (by show some (ite _ _ _, lv, st, h) = _; rw [if_pos hc]) (kt hc)
  · exact xX.one (pc' := pc + 3) hP hE (by show some (ite _ _ _, lv, st, h) = _; rw [if_neg hc]) (kf hc)
theorem xX.ic_ge {x y : Int32} (hP : xP m = some me) (hE : xfd pc me.1 = some (.if_icmp .ge off, 3, t, a, b, cv)) (kt : y ≤ x → xX O d m t lv st h r) (kf : ¬ (y ≤ x) → xX O d m (pc + 3) lv st h r) : xX O d m pc lv (.int y :: .int x :: st) h r := by
  by_cases hc : y ≤ x
  · exact xX.one (pc' := t) hP hE (by show some (ite _ _ _, lv, st, h) = _; rw [if_pos hc]) (kt hc)
  · exact xX.one (pc' := pc + 3) hP hE (by show some (ite _ _ _, lv, st, h) = _; rw [if_neg hc]) (kf hc)
theorem xX.if_gt {x : Int32} (hP : xP m = some me) (hE : xfd pc me.1 = some (.ifCond .gt off, 3, t, a, b, cv)) (kt : 0 < x → xX O d m t lv st h r) (kf : ¬ (0 < x) → xX O d m (pc + 3) lv st h r) : xX O d m pc lv (.int x :: st) h r := by
  by_cases hc : 0 < x
  · exact xX.one (pc' := t) hP hE (by show some (ite _ _ _, lv, st, h) = _; rw [if_pos hc]) (kt hc)
  · exact xX.one (pc' := pc + 3) hP hE (by show some (ite _ _ _, lv, st, h) = _; rw [if_neg hc]) (kf hc)
theorem xX.ic_gt {x y : Int32} (hP : xP m = some me) (hE : xfd pc me.1 = some (.if_icmp .gt off, 3, t, a, b, cv)) (kt : y < x → xX O d m t lv st h r) (kf : ¬ (y < x) → xX O d m (pc + 3) lv st h r) : xX O d m pc lv (.int y :: .int x :: st) h r := by
  by_cases hc : y < x
  · exact xX.one (pc' := t) hP hE (by show some (ite _ _ _, lv, st, h) = _; rw [if_pos hc]) (kt hc)
  · exact xX.one (pc' := pc + 3) hP hE (by show some (ite _ _ _, lv, st, h) = _; rw [if_neg hc]) (kf hc)
theorem xX.if_le {x : Int32} (hP : xP m = some me) (hE : xfd pc me.1 = some (.ifCond .le off, 3, t, a, b, cv)) (kt : x ≤ 0 → xX O d m t lv st h r) (kf : ¬ (x ≤ 0) → xX O d m (pc + 3) lv st h r) : xX O d m pc lv (.int x :: st) h r := by
  by_cases hc : x ≤ 0
  · exact xX.one (pc' := t) hP hE (by show some (ite _ _ _, lv, st, h) = _; rw [if_pos hc]) (kt hc)
  · exact xX.one (pc' := pc + 3) hP hE (by show some (ite _ _ _, lv, st, h) = _; rw [if_neg hc]) (kf hc)
theorem xX.ic_le {x y : Int32} (hP : xP m = some me) (hE : xfd pc me.1 = some (.if_icmp .le off, 3, t, a, b, cv)) (kt : x ≤ y → xX O d m t lv st h r) (kf : ¬ (x ≤ y) → xX O d m (pc + 3) lv st h r) : xX O d m pc lv (.int y :: .int x :: st) h r := by
  by_cases hc : x ≤ y
  · exact xX.one (pc' := t) hP hE (by show some (ite _ _ _, lv, st, h) = _; rw [if_pos hc]) (kt hc)
  · exact xX.one (pc' := pc + 3) hP hE (by show some (ite _ _ _, lv, st, h) = _; rw [if_neg hc]) (kf hc)
theorem xX.getf {i k ci j : Nat} {fs : List Value} {v : Value} (hP : xP m = some me) (hE : xfd pc me.1 = some (.getfield i, 3, ci, j, b, cv)) (hk : xrd O h k = some (.inr (ci, fs))) (hv : fs[j]? = some v) (kk : xX O d m (pc + 3) lv (v :: st) h r) : xX O d m pc lv (.ref k :: st) h r := by
  refine xX.one (pc' := pc + 3) hP hE ?_ kk
  show (match xhs O (.getfield i) 3 ci j cv (.ref k :: st) h with | some (st', h') => _ | none => _) = _
  have e : xhs O (.getfield i) 3 ci j cv (.ref k :: st) h = some (v :: st, h) := by
    unfold xhs
    simp only [hk, hv, if_true]
  rw [e]
theorem xX.putf {i k ci j : Nat} {fs : List Value} {v : Value} (hP : xP m = some me) (hE : xfd pc me.1 = some (.putfield i, 3, ci, j, b, cv)) (hk1 : k < 1000000000) (hk2 : k < h.1) (hk : h.2.2 k = .inr (ci, fs)) (hl : j < fs.length) (hf : xfit (xTy ci j) v = true) (kk : xX O d m (pc + 3) lv st (xup h k (.inr (ci, fs.set j v))) r) : xX O d m pc lv (v :: .ref k :: st) h r := by
  refine xX.one (pc' := pc + 3) hP hE ?_ kk
  show (match xhs O (.putfield i) 3 ci j cv (v :: .ref k :: st) h with | some (st', h') => _ | none => _) = _
  have e : xhs O (.putfield i) 3 ci j cv (v :: .ref k :: st) h = some (st, xup h k (.inr (ci, fs.set j v))) := by
    unfold xhs
    simp only [hk1, hk2, hk, hl, hf, and_self, if_true]
  rw [e]
theorem xX.alen {k n t2 : Nat} {y : (Nat → Int32) ⊕ (Nat → Int64) ⊕ (Nat → UInt32) ⊕ (Nat → UInt64) ⊕ (Nat → Option Nat)} (hP : xP m = some me) (hE : xfd pc me.1 = some (.arraylength, 1, t, a, b, cv)) (hk : xrd O h k = some (.inl (t2, n, y))) (ht : t2 < 12) (kk : xX O d m (pc + 1) lv (.int (Int32.ofNat n) :: st) h r) : xX O d m pc lv (.ref k :: st) h r := by
  refine xX.one (pc' := pc + 1) hP hE ?_ kk
  show (match xhs O .arraylength 1 t a cv (.ref k :: st) h with | some (st', h') => _ | none => _) = _
  have e : xhs O .arraylength 1 t a cv (.ref k :: st) h = some (.int (Int32.ofNat n) :: st, h) := by
    unfold xhs
    simp only [hk, ht, if_true]
  rw [e]
theorem xX.iald {k n : Nat} {f : Nat → Int32} {i : Int32} (hP : xP m = some me) (hE : xfd pc me.1 = some (.iaload, 1, t, a, b, cv)) (hk : xrd O h k = some (.inl (0, n, .inl f))) (hi : ¬ (i < 0 ∨ n ≤ i.toNatClampNeg)) (kk : xX O d m (pc + 1) lv (.int (f i.toNatClampNeg) :: st) h r) : xX O d m pc lv (.int i :: .ref k :: st) h r := by
  refine xX.one (pc' := pc + 1) hP hE ?_ kk
  show (match xhs O .iaload 1 t a cv (.int i :: .ref k :: st) h with | some (st', h') => _ | none => _) = _
  have e : xhs O .iaload 1 t a cv (.int i :: .ref k :: st) h = some (.int (f i.toNatClampNeg) :: st, h) := by
    unfold xhs
    simp only [hk, if_true, if_neg hi]
  rw [e]
theorem xX.lald {k n : Nat} {f : Nat → Int64} {i : Int32} (hP : xP m = some me) (hE : xfd pc me.1 = some (.laload, 1, t, a, b, cv)) (hk : xrd O h k = some (.inl (1, n, .inr (.inl f)))) (hi : ¬ (i < 0 ∨ n ≤ i.toNatClampNeg)) (kk : xX O d m (pc + 1) lv (.long (f i.toNatClampNeg) :: st) h r) : xX O d m pc lv (.int i :: .ref k :: st) h r := by
  refine xX.one (pc' := pc + 1) hP hE ?_ kk
  show (match xhs O .laload 1 t a cv (.int i :: .ref k :: st) h with | some (st', h') => _ | none => _) = _
  have e : xhs O .laload 1 t a cv (.int i :: .ref k :: st) h = some (.long (f i.toNatClampNeg) :: st, h) := by
    unfold xhs
    simp only [hk, if_true, if_neg hi]
  rw [e]
theorem xX.cald {k n : Nat} {f : Nat → Int32} {i : Int32} (hP : xP m = some me) (hE : xfd pc me.1 = some (.caload, 1, t, a, b, cv)) (hk : xrd O h k = some (.inl (4, n, .inl f))) (hi : ¬ (i < 0 ∨ n ≤ i.toNatClampNeg)) (kk : xX O d m (pc + 1) lv (.int (f i.toNatClampNeg) :: st) h r) : xX O d m pc lv (.int i :: .ref k :: st) h r := by
  refine xX.one (pc' := pc + 1) hP hE ?_ kk
  show (match xhs O .caload 1 t a cv (.int i :: .ref k :: st) h with | some (st', h') => _ | none => _) = _
  have e : xhs O .caload 1 t a cv (.int i :: .ref k :: st) h = some (.int (f i.toNatClampNeg) :: st, h) := by
    unfold xhs
    simp only [hk, if_true, if_neg hi]
  rw [e]
theorem xX.bald {k n t2 : Nat} {f : Nat → Int32} {i : Int32} (hP : xP m = some me) (hE : xfd pc me.1 = some (.baload, 1, t, a, b, cv)) (hk : xrd O h k = some (.inl (t2, n, .inl f))) (ht : t2 = 2 ∨ t2 = 3) (hi : ¬ (i < 0 ∨ n ≤ i.toNatClampNeg)) (kk : xX O d m (pc + 1) lv (.int (f i.toNatClampNeg) :: st) h r) : xX O d m pc lv (.int i :: .ref k :: st) h r := by
  refine xX.one (pc' := pc + 1) hP hE ?_ kk
  show (match xhs O .baload 1 t a cv (.int i :: .ref k :: st) h with | some (st', h') => _ | none => _) = _
  have e : xhs O .baload 1 t a cv (.int i :: .ref k :: st) h = some (.int (f i.toNatClampNeg) :: st, h) := by
    unfold xhs
    simp only [hk, if_pos ht, if_neg hi]
  rw [e]
theorem xX.aald {k n t2 : Nat} {f : Nat → Option Nat} {i : Int32} {v : Value} (hP : xP m = some me) (hE : xfd pc me.1 = some (.aaload, 1, t, a, b, cv)) (hk : xrd O h k = some (.inl (t2, n, .inr (.inr (.inr (.inr f)))))) (ht : 5 ≤ t2 ∧ t2 < 12) (hi : ¬ (i < 0 ∨ n ≤ i.toNatClampNeg)) (hv : va_rf (f i.toNatClampNeg) = v) (kk : xX O d m (pc + 1) lv (v :: st) h r) : xX O d m pc lv (.int i :: .ref k :: st) h r := by
  refine xX.one (pc' := pc + 1) hP hE ?_ kk
  show (match xhs O .aaload 1 t a cv (.int i :: .ref k :: st) h with | some (st', h') => _ | none => _) = _
  have e : xhs O .aaload 1 t a cv (.int i :: .ref k :: st) h = some (v :: st, h) := by
    unfold xhs
    simp only [hk, if_pos ht, if_neg hi, hv]
  rw [e]
theorem xX.iast {k n : Nat} {f : Nat → Int32} {i x : Int32} (hP : xP m = some me) (hE : xfd pc me.1 = some (.iastore, 1, t, a, b, cv)) (hk1 : k < 1000000000) (hk2 : k < h.1) (hk : h.2.2 k = .inl (0, n, .inl f)) (hi : ¬ (i < 0 ∨ n ≤ i.toNatClampNeg)) (kk : xX O d m (pc + 1) lv st (xup h k (.inl (0, n, .inl (upd f i.toNatClampNeg x)))) r) : xX O d m pc lv (.int x :: .int i :: .ref k :: st) h r := by
  refine xX.one (pc' := pc + 1) hP hE ?_ kk
  show (match xhs O .iastore 1 t a cv (.int x :: .int i :: .ref k :: st) h with | some (st', h') => _ | none => _) = _
  have e : xhs O .iastore 1 t a cv (.int x :: .int i :: .ref k :: st) h = some (st, xup h k (.inl (0, n, .inl (upd f i.toNatClampNeg x)))) := by
    unfold xhs
    simp only [hk1, hk2, hk, and_self, if_true, if_neg hi]
  rw [e]
theorem xX.last {k n : Nat} {f : Nat → Int64} {i : Int32} {x : Int64} (hP : xP m = some me) (hE : xfd pc me.1 = some (.lastore, 1, t, a, b, cv)) (hk1 : k < 1000000000) (hk2 : k < h.1) (hk : h.2.2 k = .inl (1, n, .inr (.inl f))) (hi : ¬ (i < 0 ∨ n ≤ i.toNatClampNeg)) (kk : xX O d m (pc + 1) lv st (xup h k (.inl (1, n, .inr (.inl (vp_updL f i.toNatClampNeg x))))) r) : xX O d m pc lv (.long x :: .int i :: .ref k :: st) h r := by
  refine xX.one (pc' := pc + 1) hP hE ?_ kk
  show (match xhs O .lastore 1 t a cv (.long x :: .int i :: .ref k :: st) h with | some (st', h') => _ | none => _) = _
  have e : xhs O .lastore 1 t a cv (.long x :: .int i :: .ref k :: st) h = some (st, xup h k (.inl (1, n, .inr (.inl (vp_updL f i.toNatClampNeg x))))) := by
    unfold xhs
    simp only [hk1, hk2, hk, and_self, if_true, if_neg hi]
  rw [e]
/-- a static call -/
theorem xX.calls {i m' n : Nat} {me' : xMe} {av rest : List Value} {rv : Option Value} {h1 : Nat × Nat × (Nat → va_E)} (hP : xP m = some me) (hE : xfd pc me.1 = some (.invokestatic i, 3, m', n, 1, cv)) (hs : st = av.reverse ++ rest) (hn : av.length = n) (hw : xcat rest ≤ 8) (hm : m' < 1000) (hP' : xP m' = some me') (hl : (lg_sl av).length ≤ me'.2.1)
    (hk : xX O d m' 0 (lv_args 0 av) [] h (rv, h1)) (k : xX O (d + 1) m (pc + 3) lv (rv.toList ++ rest) h1 r) : xX O (d + 1) m pc lv st h r := by
  subst hs
  subst hn
  have e1 : (av.reverse ++ rest).take av.length = av.reverse := by rw [← List.length_reverse, List.take_left]
  have e2 : (av.reverse ++ rest).drop av.length = rest := by rw [← List.length_reverse, List.drop_left]
  refine xX.call hP hE ?_ ?_ ?_ hP' hl hk k
  · rfl
  · rfl
  · unfold xca
    dsimp only
    rw [e1, e2, if_pos ⟨rfl, hm, by rw [List.length_append, List.length_reverse]; omega, hw⟩, List.reverse_reverse]
    rfl
/-- a call on an object: of its own class (2), of its superclass (8) -/
theorem xX.callv {i m' n s2 ci k : Nat} {fs : List Value} {me' : xMe} {av rest : List Value} {rv : Option Value} {h1 : Nat × Nat × (Nat → va_E)} (hP : xP m = some me) (hE : xfd pc me.1 = some (.invokevirtual i, 3, m', n, s2, cv)) (h2 : s2 = 2 ∨ s2 = 8 ∨ s2 = 9) (hs : st = (.ref k :: av).reverse ++ rest) (hn : av.length + 1 = n) (hw : xcat rest ≤ 8) (hm : m' < 1000) (hk0 : xrd O h k = some (.inr (ci, fs))) (hci : .int (Int32.ofNat ci) = cv ∧ ci < 17) (hP' : xP m' = some me') (hl : (lg_sl (.ref k :: av)).length ≤ me'.2.1)
    (hk : xX O d m' 0 (lv_args 0 (.ref k :: av)) [] h (rv, h1)) (kk : xX O (d + 1) m (pc + 3) lv (rv.toList ++ rest) h1 r) : xX O (d + 1) m pc lv st h r := by
  subst hs
  subst hn
  have e1 : ((Value.ref k :: av).reverse ++ rest).take (av.length + 1) = (Value.ref k :: av).reverse := by rw [show av.length + 1 = ((Value.ref k :: av).reverse).length by simp, List.take_left]
  have e2 : ((Value.ref k :: av).reverse ++ rest).drop (av.length + 1) = rest := by rw [show av.length + 1 = ((Value.ref k :: av).reverse).length by simp, List.drop_left]
  refine xX.call hP hE ?_ ?_ ?_ hP' hl hk kk
  · rfl
  · rcases h2 with rfl | rfl | rfl <;> rfl
  · unfold xca
    dsimp only
    rw [e1, e2, if_pos ⟨rfl, hm, by simp, hw⟩, List.reverse_reverse]
    rcases h2 with rfl | rfl | rfl
    · simp only [hk0, if_pos hci]
    · simp only [hk0, if_pos hci]
    · simp only [hk0, if_pos hci]
/-- a constructor's call -/
theorem xX.calli {i m' n s2 k : Nat} {me' : xMe} {av rest : List Value} {rv : Option Value} {h1 : Nat × Nat × (Nat → va_E)} (hP : xP m = some me) (hE : xfd pc me.1 = some (.invokespecial i, 3, m', n, s2, cv)) (h2 : s2 = 3 ∨ s2 = 4) (hs : st = (.ref k :: av).reverse ++ rest) (hn : av.length + 1 = n) (hw : xcat rest ≤ 8) (hm : m' < 1000) (hP' : xP m' = some me') (hl : (lg_sl (.ref k :: av)).length ≤ me'.2.1)
    (hk : xX O d m' 0 (lv_args 0 (.ref k :: av)) [] h (rv, h1)) (kk : xX O (d + 1) m (pc + 3) lv (rv.toList ++ rest) h1 r) : xX O (d + 1) m pc lv st h r := by
  subst hs
  subst hn
  have e1 : ((Value.ref k :: av).reverse ++ rest).take (av.length + 1) = (Value.ref k :: av).reverse := by rw [show av.length + 1 = ((Value.ref k :: av).reverse).length by simp, List.take_left]
  have e2 : ((Value.ref k :: av).reverse ++ rest).drop (av.length + 1) = rest := by rw [show av.length + 1 = ((Value.ref k :: av).reverse).length by simp, List.drop_left]
  rcases h2 with rfl | rfl
  · refine xX.call hP hE rfl ?_ ?_ hP' hl hk kk
    · rfl
    · unfold xca
      dsimp only
      rw [e1, e2, if_pos ⟨rfl, hm, by simp, hw⟩, List.reverse_reverse]
      rfl
  · refine xX.call hP hE rfl ?_ ?_ hP' hl hk kk
    · rfl
    · unfold xca
      dsimp only
      rw [e1, e2, if_pos ⟨rfl, hm, by simp, hw⟩, List.reverse_reverse]
      rfl
/-- the end, with a number -/
theorem xX.reti {v : Int32} {ty : FieldType} (hP : xP m = some me) (hE : xfd pc me.1 = some (.ireturn, 1, t, a, b, cv)) (hr : me.2.2 = some ty) (hf : xfit ty (.int v) = true) : xX O d m pc lv [.int v] h (some (.int v), h) := by
  refine xX.ret hP hE ?_ ?_ ?_ ?_
  · rfl
  · rfl
  · unfold xca
    dsimp only
    split <;> rfl
  · unfold xre
    dsimp only
    rw [hr]
    simp only [hf, if_true]
end XRU
