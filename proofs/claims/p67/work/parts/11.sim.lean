/-! ===== the picture's run is the machine's ===== -/
/-- the words behind a call. xY: a method's name by its number -/
def xvc (xY : Nat → MethodName) (P : Nat → Option xMe) (own : String) (en : xEn) : Prop := match en.1, en.2.2.2.2.1 with
  | .invokestatic i, 1 => Jvm.Cond.methodLink own i (xY en.2.2.1) ∈ xW ∧ Jvm.Cond.static (xY en.2.2.1) ∈ xW ∧ Jvm.Cond.initialized (xY en.2.2.1).cls ∈ xW ∧ (parseMethodDescriptor (xY en.2.2.1).desc).map (fun d => d.parameters.length) = some en.2.2.2.1
  | .invokevirtual i, 2 => Jvm.Cond.methodLink own i (xY en.2.2.1) ∈ xW ∧ Jvm.Cond.instanceMethod (xY en.2.2.1) ∈ xW ∧ Jvm.Cond.selects (xY en.2.2.1).cls (xY en.2.2.1) (xY en.2.2.1) ∈ lw_tbx ∧ goodWord (Jvm.Cond.selects (xY en.2.2.1).cls (xY en.2.2.1) (xY en.2.2.1)) = true ∧ Jvm.Cond.initialized (xY en.2.2.1).cls ∈ xW ∧ (∃ ci : Nat, ci < 17 ∧ en.2.2.2.2.2 = .int (Int32.ofNat ci) ∧ ∃ r : vw_C, vwCl[ci]? = some r ∧ r.1 = (xY en.2.2.1).cls) ∧ ∃ n, en.2.2.2.1 = n + 1 ∧ (parseMethodDescriptor (xY en.2.2.1).desc).map (fun d => d.parameters.length) = some n
  | .invokevirtual i, 8 => Jvm.Cond.methodLink own i (xY en.2.2.1) ∈ xW ∧ Jvm.Cond.sameMethod (xY en.2.2.1).cls (xY en.2.2.1).cls (xY en.2.2.1).name (xY en.2.2.1).desc ∈ xW ∧ Jvm.Cond.instanceMethod (xY en.2.2.1) ∈ xW ∧ Jvm.Cond.initialized (xY en.2.2.1).cls ∈ xW ∧ (∃ ci : Nat, ci < 17 ∧ en.2.2.2.2.2 = .int (Int32.ofNat ci) ∧ ∃ r : vw_C, vwCl[ci]? = some r ∧ Jvm.Cond.selects r.1 (xY en.2.2.1) (xY en.2.2.1) ∈ xW) ∧ ∃ n, en.2.2.2.1 = n + 1 ∧ (parseMethodDescriptor (xY en.2.2.1).desc).map (fun d => d.parameters.length) = some n
  | .invokevirtual i, 9 => Jvm.Cond.methodLink own i (⟨"java/lang/AbstractStringBuilder", (xY en.2.2.1).name, (xY en.2.2.1).desc⟩ : MethodName) ∈ xW ∧ Jvm.Cond.sameMethod "java/lang/AbstractStringBuilder" "java/lang/AbstractStringBuilder" (xY en.2.2.1).name (xY en.2.2.1).desc ∈ xW ∧ Jvm.Cond.instanceMethod (⟨"java/lang/AbstractStringBuilder", (xY en.2.2.1).name, (xY en.2.2.1).desc⟩ : MethodName) ∈ xW ∧ Jvm.Cond.instanceMethod (xY en.2.2.1) ∈ xW ∧ Jvm.Cond.initialized (xY en.2.2.1).cls ∈ xW ∧ (∃ b0 m0 r0, Jvm.Cond.code (⟨"java/lang/AbstractStringBuilder", (xY en.2.2.1).name, (xY en.2.2.1).desc⟩ : MethodName) b0 m0 r0 ∈ xW) ∧ (∃ ci : Nat, ci < 17 ∧ en.2.2.2.2.2 = .int (Int32.ofNat ci) ∧ ∃ r : vw_C, vwCl[ci]? = some r ∧ Jvm.Cond.selects r.1 (⟨"java/lang/AbstractStringBuilder", (xY en.2.2.1).name, (xY en.2.2.1).desc⟩ : MethodName) (xY en.2.2.1) ∈ xW) ∧ ∃ n, en.2.2.2.1 = n + 1 ∧ (parseMethodDescriptor (xY en.2.2.1).desc).map (fun d => d.parameters.length) = some n
  | .invokespecial i, 7 => Jvm.Cond.methodLink own i (xY en.2.2.1) ∈ xW ∧ Jvm.Cond.sameMethod (xY en.2.2.1).cls (xY en.2.2.1).cls (xY en.2.2.1).name (xY en.2.2.1).desc ∈ xW ∧ Jvm.Cond.superclass own (xY en.2.2.1).cls ∈ xW ∧ Jvm.Cond.instanceMethod (xY en.2.2.1) ∈ xW ∧ Jvm.Cond.initialized (xY en.2.2.1).cls ∈ xW ∧ (∃ ci : Nat, ci < 17 ∧ en.2.2.2.2.2 = .int (Int32.ofNat ci) ∧ ∃ r : vw_C, vwCl[ci]? = some r) ∧ (xY en.2.2.1).name ≠ "<init>" ∧ ∃ n, en.2.2.2.1 = n + 1 ∧ (parseMethodDescriptor (xY en.2.2.1).desc).map (fun d => d.parameters.length) = some n
  | .invokespecial i, 3 => Jvm.Cond.methodLink own i (xY en.2.2.1) ∈ xW ∧ Jvm.Cond.instanceMethod (xY en.2.2.1) ∈ xW ∧ Jvm.Cond.initialized (xY en.2.2.1).cls ∈ xW ∧ (xY en.2.2.1).name = "<init>" ∧ (∀ me, P en.2.2.1 = some me → me.2.2 = none) ∧ ∃ n, en.2.2.2.1 = n + 1 ∧ (parseMethodDescriptor (xY en.2.2.1).desc).map (fun d => d.parameters.length) = some n
  | .invokespecial i, 4 => (∃ host, Jvm.Cond.methodLinkNest own i (xY en.2.2.1) host ∈ xNw) ∧ Jvm.Cond.instanceMethod (xY en.2.2.1) ∈ xW ∧ Jvm.Cond.initialized (xY en.2.2.1).cls ∈ xW ∧ (xY en.2.2.1).name = "<init>" ∧ (∀ me, P en.2.2.1 = some me → me.2.2 = none) ∧ ∃ n, en.2.2.2.1 = n + 1 ∧ (parseMethodDescriptor (xY en.2.2.1).desc).map (fun d => d.parameters.length) = some n
  | .invokespecial i, 5 => Jvm.Cond.methodLink own i Lib.objectInit ∈ xW ∧ Jvm.Cond.instanceMethod Lib.objectInit ∈ xW ∧ Jvm.Cond.code Lib.objectInit ⟨#[0xb1]⟩ 1 none ∈ xW
  | .invokevirtual i, 10 => Jvm.Cond.methodLink own i ⟨"[B", "clone", "()Ljava/lang/Object;"⟩ ∈ xW ∧ Jvm.Cond.sameMethod "[B" "java/lang/Object" "clone" "()Ljava/lang/Object;" ∈ xW ∧ Jvm.Cond.native ⟨"java/lang/Object", "clone", "()Ljava/lang/Object;"⟩ ∈ xW ∧ Jvm.Cond.instanceMethod ⟨"java/lang/Object", "clone", "()Ljava/lang/Object;"⟩ ∈ xW ∧ Jvm.Cond.selects "[B" ⟨"[B", "clone", "()Ljava/lang/Object;"⟩ ⟨"java/lang/Object", "clone", "()Ljava/lang/Object;"⟩ ∈ xW ∧ Jvm.Cond.castable "[B" "java/lang/Cloneable" ∈ xNw
  | .invokestatic i, 6 => Jvm.Cond.methodLink own i arraycopyName ∈ xW ∧ Jvm.Cond.native arraycopyName ∈ xW ∧ Jvm.Cond.static arraycopyName ∈ xW ∧ Jvm.Cond.initialized "java/lang/System" ∈ xW
  | _, _ => True
/-- a method's table is right: its words, each of its entries -/
def xVm (xY : Nat → MethodName) (xB : Nat → ByteArray) (P : Nat → Option xMe) (m : Nat) (me : xMe) : Prop :=
  (m < 1000 → Jvm.Cond.code (xY m) (xB m) me.2.1 me.2.2 ∈ xW) ∧ plainFor (xY m) = true ∧ ((xY m).cls ≠ "java/lang/invoke/MethodHandle" ∧ (xY m).cls ≠ "java/lang/invoke/VarHandle") ∧ me.2.1 ≤ 150 ∧
  ∀ q ∈ me.1, decode (xB m) q.1 = .ok (q.2.1, q.2.2.1) ∧ xbt q.2.1 q.2.2.2.1 q.1 ∧ xvh (xY m).cls ((xY m).name == "<init>") q.2.1 q.2.2.2.1 q.2.2.2.2.1 q.2.2.2.2.2.2 ∧ xvc xY P (xY m).cls q.2
def xWs (xY : Nat → MethodName) (xB : Nat → ByteArray) (m : Nat) (me : xMe) : List Jvm.Cond := Jvm.Cond.code (xY m) (xB m) me.2.1 me.2.2 :: xW
def xrm (d mc ms : Nat) : Room := { frames := 2 * d + 1, cells := mc, slots := ms, locals := (d + 1) * 200 }
theorem xgoodIn {l : List Jvm.Cond} (h : ∀ w ∈ l, w ∈ xW) : GoodIn xW l := fun w hw => ⟨h w hw, good_of_word (xW_gw (h w hw))⟩
theorem xWs_in {xY : Nat → MethodName} {xB : Nat → ByteArray} {m : Nat} {me : xMe} (h : Jvm.Cond.code (xY m) (xB m) me.2.1 me.2.2 ∈ xW) : ∀ w ∈ xWs xY xB m me, w ∈ xW := fun w hw => by
  rcases List.mem_cons.mp hw with rfl | q
  · exact h
  · exact q
theorem xfd_mem {pc : Nat} {en : xEn} : ∀ {l : List (Nat × xEn)}, xfd pc l = some en → (pc, en) ∈ l
  | [], h => by cases h
  | q :: t, h => by
    unfold xfd at h
    split at h
    · rename_i e
      cases h
      subst e
      exact List.mem_cons_self
    · exact List.mem_cons_of_mem _ (xfd_mem h)
theorem xhs_mono {O : Nat → Option va_E} {ins : Instr} {len r0 r1 : Nat} {cv : Value} {st st' : List Value} {h h' : Nat × Nat × (Nat → va_E)} (hh : xhs O ins len r0 r1 cv st h = some (st', h')) : h.1 ≤ h'.1 ∧ h.2.1 ≤ h'.2.1 := by
  unfold xhs at hh
  repeat' (split at hh)
  all_goals first
    | (cases hh; done)
    | (cases hh; exact ⟨Nat.le_refl _, Nat.le_refl _⟩)
    | (cases hh; exact ⟨Nat.le_add_right _ _, Nat.le_add_right _ _⟩)
theorem xna_mono {O : Nat → Option va_E} {en : xEn} {st st' : List Value} {h h' : Nat × Nat × (Nat → va_E)} (hh : xna O en st h = some (st', h')) : h.1 ≤ h'.1 ∧ h.2.1 ≤ h'.2.1 := by
  unfold xna at hh
  repeat' (split at hh)
  all_goals first
    | (cases hh; done)
    | (cases hh; exact ⟨Nat.le_refl _, Nat.le_refl _⟩)
    | (cases hh; exact ⟨Nat.le_add_right _ _, Nat.le_add_right _ _⟩)
theorem xnx_mono {O : Nat → Option va_E} {nL : Nat} {en : xEn} {pc pc' : Nat} {lv lv' : List (Nat × Value)} {st st' : List Value} {h h' : Nat × Nat × (Nat → va_E)} (hh : xnx O nL en pc lv st h = some (pc', lv', st', h')) : h.1 ≤ h'.1 ∧ h.2.1 ≤ h'.2.1 := by
  unfold xnx at hh
  split at hh
  · cases hh
    exact ⟨Nat.le_refl _, Nat.le_refl _⟩
  · split at hh
    · rename_i q
      cases hh
      exact xhs_mono q
    · split at hh
      · cases hh
        exact ⟨Nat.le_refl _, Nat.le_refl _⟩
      · cases hh
theorem xgo_mono {P : Nat → Option xMe} {O : Nat → Option va_E} : ∀ (f d m pc : Nat) (lv : List (Nat × Value)) (st : List Value) (h : Nat × Nat × (Nat → va_E)) (rv : Option Value) (hF : Nat × Nat × (Nat → va_E)), xgo P O f d m pc lv st h = some (rv, hF) → h.1 ≤ hF.1 ∧ h.2.1 ≤ hF.2.1
  | 0, _, _, _, _, _, _, _, _, hg => by simp [xgo] at hg
  | f + 1, d, m, pc, lv, st, h, rv, hF, hg => by
    rw [xgo] at hg
    split at hg
    · cases hg
    · split at hg
      · cases hg
      · split at hg
        · rename_i q
          have a := xnx_mono q
          have b := xgo_mono f _ _ _ _ _ _ _ _ hg
          exact ⟨Nat.le_trans a.1 b.1, Nat.le_trans a.2 b.2⟩
        · split at hg
          · rename_i q
            have a := xna_mono q
            have b := xgo_mono f _ _ _ _ _ _ _ _ hg
            exact ⟨Nat.le_trans a.1 b.1, Nat.le_trans a.2 b.2⟩
          · split at hg
            · split at hg
              · cases hg
              · split at hg
                · cases hg
                · split at hg
                  · split at hg
                    · rename_i q
                      have a := xgo_mono f _ _ _ _ _ _ _ _ q
                      have b := xgo_mono f _ _ _ _ _ _ _ _ hg
                      exact ⟨Nat.le_trans a.1 b.1, Nat.le_trans a.2 b.2⟩
                    · cases hg
                  · cases hg
            · split at hg
              · cases hg
                exact ⟨Nat.le_refl _, Nat.le_refl _⟩
              · cases hg
theorem xcat_conv (B : Nat) (ad : Nat → Nat) (l : List Value) : ((l.map (xv B ad)).map fun v => v.category).sum = xcat l := by
  unfold xcat
  rw [List.map_map]
  congr 2
  funext v
  exact xv_cat B ad v
theorem lv_args_conv (B : Nat) (ad : Nat → Nat) : ∀ (i : Nat) (av : List Value), lv_args i (av.map (xv B ad)) = xL B ad (lv_args i av)
  | _, [] => rfl
  | i, v :: vs => by
    show (i, xv B ad v) :: lv_args (if (xv B ad v).category = 2 then i + 2 else i + 1) (vs.map (xv B ad)) = (i, xv B ad v) :: xL B ad (lv_args (if v.category = 2 then i + 2 else i + 1) vs)
    rw [xv_cat, lv_args_conv B ad _ vs]
theorem lg_sl_conv (B : Nat) (ad : Nat → Nat) : ∀ (av : List Value), (lg_sl (av.map (xv B ad))).length = (lg_sl av).length
  | [] => rfl
  | v :: vs => by
    unfold lg_sl
    rw [List.map_cons, List.flatMap_cons, List.flatMap_cons, List.length_append, List.length_append]
    have ih := lg_sl_conv B ad vs
    unfold lg_sl at ih
    rw [ih, xv_cat]
    by_cases hc : v.category = 2
    · simp [hc]
    · simp [hc]
theorem xsplit (st : List Value) (n : Nat) : st = ((st.take n).reverse).reverse ++ st.drop n := by rw [List.reverse_reverse, List.take_append_drop]
