/-! ===== words that follow: StringBuilder's calls of private methods of its superclass ===== -/
theorem sel_priv2 {C : String} {y y2 : MethodName} {s : State} {args : Array Value} (hy : y.cls ≠ "java/lang/invoke/MethodHandle" ∧ y.cls ≠ "java/lang/invoke/VarHandle") (hc : y2.cls = y.cls) (hpriv : (Jvm.Cond.privateMethod y).before args s = true) (hinst : (Jvm.Cond.instanceMethod y).before args s = true) (h2 : (Jvm.Cond.selects C y2 y2).before args s = true) : (Jvm.Cond.selects C y y).before args s = true := by
  obtain ⟨mk, methM, hnamed, hmethM, -, -⟩ := Cond.instanceMethod_spec hinst
  have hfound := State.methodFound?_of_named hnamed hy
  obtain ⟨c2, r2, m2, q1, q2, q3, q4, kP, hkP, hkPi⟩ := Cond.selects_spec h2
  have hsel : selectMethod {} s.vm c2 mk = .method mk := selectMethod_private hmethM (Cond.privateMethod_at hpriv mk methM hnamed hmethM)
  have e1 : s.vm.findClass y.cls = some mk.cls := findClass_of_methodNamed hnamed
  have e2 : s.vm.findClass y2.cls = some m2.cls := findClass_of_methodNamed q3
  rw [hc] at e2
  have e3 : mk.cls = m2.cls := Option.some.inj (e1.symm.trans e2)
  simp only [Cond.before, Cond.holds, Cond.value, q1, hfound, hnamed, hsel, e3, hkP]
  simp [hkPi]
def lw_pv : List MethodName := [⟨"java/lang/AbstractStringBuilder", "appendNull", "()Ljava/lang/AbstractStringBuilder;"⟩, ⟨"java/lang/AbstractStringBuilder", "ensureCapacityInternal", "(I)V"⟩, ⟨"java/lang/AbstractStringBuilder", "newCapacity", "(I)I"⟩, ⟨"java/lang/AbstractStringBuilder", "putStringAt", "(ILjava/lang/String;)V"⟩, ⟨"java/lang/AbstractStringBuilder", "inflateIfNeededFor", "(Ljava/lang/String;)V"⟩, ⟨"java/lang/AbstractStringBuilder", "inflate", "()V"⟩]
def lw_ex : List Jvm.Cond := lw_pv.map fun y => Jvm.Cond.selects "java/lang/StringBuilder" y y
def lw_tbx : List Jvm.Cond := lw_tbl ++ lw_ex
set_option maxRecDepth 100000 in
theorem lw_pv_in : ∀ y ∈ lw_pv, y.cls = "java/lang/AbstractStringBuilder" ∧ Jvm.Cond.privateMethod y ∈ lw_tbl ∧ Jvm.Cond.instanceMethod y ∈ lw_tbl := by
  have h : ∀ y i j, lw_tbl[i]? = some (Jvm.Cond.privateMethod y) → lw_tbl[j]? = some (Jvm.Cond.instanceMethod y) → y.cls = "java/lang/AbstractStringBuilder" → y.cls = "java/lang/AbstractStringBuilder" ∧ Jvm.Cond.privateMethod y ∈ lw_tbl ∧ Jvm.Cond.instanceMethod y ∈ lw_tbl := fun y i j h1 h2 h3 => ⟨h3, List.mem_of_getElem? h1, List.mem_of_getElem? h2⟩
  intro y hy
  simp only [lw_pv, List.mem_cons, List.not_mem_nil, or_false] at hy
  rcases hy with rfl | rfl | rfl | rfl | rfl | rfl
  · exact h _ 906 907 rfl rfl rfl
  · exact h _ 910 911 rfl rfl rfl
  · exact h _ 914 915 rfl rfl rfl
  · exact h _ 981 982 rfl rfl rfl
  · exact h _ 985 986 rfl rfl rfl
  · exact h _ 990 991 rfl rfl rfl
set_option maxRecDepth 100000 in
theorem lw_sb2 : Jvm.Cond.selects "java/lang/StringBuilder" ⟨"java/lang/AbstractStringBuilder", "isLatin1", "()Z"⟩ ⟨"java/lang/AbstractStringBuilder", "isLatin1", "()Z"⟩ ∈ lw_tbl := List.mem_of_getElem? (i := 943) rfl
theorem lw_tbx_ok {args : Array Value} {s : State} (hts : ∀ w ∈ lw_tbl, w.before args s = true) : ∀ w ∈ lw_tbx, w.before args s = true := by
  intro w hw
  rcases List.mem_append.mp hw with h | h
  · exact hts w h
  · obtain ⟨y, hy, rfl⟩ := List.mem_map.mp h
    obtain ⟨h1, h2, h3⟩ := lw_pv_in y hy
    exact sel_priv2 (y2 := ⟨"java/lang/AbstractStringBuilder", "isLatin1", "()Z"⟩) (by rw [h1]; decide) h1.symm (hts _ h2) (hts _ h3) (hts _ lw_sb2)
