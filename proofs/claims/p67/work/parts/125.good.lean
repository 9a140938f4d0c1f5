theorem xgoodInV {own C : String} {i : Nat} {y : MethodName} {ws : List Jvm.Cond} (g1 : Jvm.Cond.methodLink own i y ∈ xW) (g2 : Jvm.Cond.instanceMethod y ∈ xW) (g3 : Jvm.Cond.selects C y y ∈ lw_tbx) (g4 : goodWord (Jvm.Cond.selects C y y) = true) (g5 : Jvm.Cond.initialized C ∈ xW) (hws : ∀ w ∈ ws, w ∈ xW) : GoodIn xW (wsV own i C y ws) := xgoodIn (fun w hw => by
  unfold wsV at hw
  rcases List.mem_append.mp hw with q | q
  · simp only [List.mem_cons, List.not_mem_nil, or_false] at q
    rcases q with rfl | rfl | rfl | rfl
    · exact g1
    · exact g2
    · exact List.mem_filter.mpr ⟨g3, g4⟩
    · exact g5
  · exact hws w q)
theorem xgoodInU {own C : String} {i : Nat} {y : MethodName} {ws : List Jvm.Cond} (g1 : Jvm.Cond.methodLink own i y ∈ xW) (g2 : Jvm.Cond.sameMethod y.cls y.cls y.name y.desc ∈ xW) (g3 : Jvm.Cond.selects C y y ∈ xW) (g4 : Jvm.Cond.instanceMethod y ∈ xW) (g5 : Jvm.Cond.initialized y.cls ∈ xW) (hws : ∀ w ∈ ws, w ∈ xW) : GoodIn xW (va_wsU own i C y.cls y y ws) := xgoodIn (fun w hw => by
  unfold va_wsU at hw
  rcases List.mem_append.mp hw with q | q
  · simp only [List.mem_cons, List.not_mem_nil, or_false] at q
    rcases q with rfl | rfl | rfl | rfl | rfl
    · exact g1
    · exact g2
    · exact g3
    · exact g4
    · exact g5
  · exact hws w q)
theorem xgoodInO {own C owner : String} {i : Nat} {x y : MethodName} {ws : List Jvm.Cond} (g1 : Jvm.Cond.methodLink own i x ∈ xW) (g2 : Jvm.Cond.sameMethod x.cls owner x.name x.desc ∈ xW) (g3 : Jvm.Cond.instanceMethod ⟨owner, x.name, x.desc⟩ ∈ xW) (g4 : Jvm.Cond.selects C x y ∈ xW) (g5 : Jvm.Cond.instanceMethod y ∈ xW) (g6 : Jvm.Cond.initialized y.cls ∈ xW) (hws : ∀ w ∈ ws, w ∈ xW) : GoodIn xW (va_wsO own i C owner x y ws) := xgoodIn (fun w hw => by
  unfold va_wsO at hw
  rcases List.mem_append.mp hw with q | q
  · simp only [List.mem_cons, List.not_mem_nil, or_false] at q
    rcases q with rfl | rfl | rfl | rfl | rfl | rfl
    · exact g1
    · exact g2
    · exact g3
    · exact g4
    · exact g5
    · exact g6
  · exact hws w q)
theorem xgoodInS {own : String} {i : Nat} {y : MethodName} {ws : List Jvm.Cond} (g1 : Jvm.Cond.methodLink own i y ∈ xW) (g2 : Jvm.Cond.sameMethod y.cls y.cls y.name y.desc ∈ xW) (g3 : Jvm.Cond.superclass own y.cls ∈ xW) (g4 : Jvm.Cond.instanceMethod y ∈ xW) (g5 : Jvm.Cond.initialized y.cls ∈ xW) (hws : ∀ w ∈ ws, w ∈ xW) : GoodIn xW (va_wsSU own i y ws) := xgoodIn (fun w hw => by
  unfold va_wsSU at hw
  rcases List.mem_append.mp hw with q | q
  · simp only [List.mem_cons, List.not_mem_nil, or_false] at q
    rcases q with rfl | rfl | rfl | rfl | rfl
    · exact g1
    · exact g2
    · exact g3
    · exact g4
    · exact g5
  · exact hws w q)
theorem xci_eq {ci' ci : Nat} (h : Value.int (Int32.ofNat ci') = .int (Int32.ofNat ci)) (h1 : ci' < 17) (h2 : ci < 17) : ci' = ci := by
  have h3 : Int32.ofNat ci' = Int32.ofNat ci := by injection h
  have h4 := congrArg Int32.toInt h3
  rw [Int32.toInt_ofNat_of_lt (by omega), Int32.toInt_ofNat_of_lt (by omega)] at h4
  omega
theorem xca_lt {O : Nat → Option va_E} {en : xEn} {st av rest : List Value} {h : Nat × Nat × (Nat → va_E)} {m : Nat} (hc : xca O en st h = some (m, av, rest)) : m < 1000 := by
  unfold xca at hc
  split at hc
  · rename_i hp
    repeat' (split at hc)
    all_goals first
      | (cases hc; done)
      | (cases hc; exact hp.2.1)
  · cases hc
