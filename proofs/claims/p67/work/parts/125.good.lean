theorem xgoodInV {own C : String} {i : Nat} {y : MethodName} {ws : List Jvm.Cond} (g1 : Jvm.Cond.methodLink own i y ∈ xW) (g2 : Jvm.Cond.instanceMethod y ∈ xW) (g3 : Jvm.Cond.selects C y y ∈ lw_tbl) (g4 : goodWord (Jvm.Cond.selects C y y) = true) (g5 : Jvm.Cond.initialized C ∈ xW) (hws : ∀ w ∈ ws, w ∈ xW) : GoodIn xW (wsV own i C y ws) := xgoodIn (fun w hw => by
  unfold wsV at hw
  rcases List.mem_append.mp hw with q | q
  · simp only [List.mem_cons, List.not_mem_nil, or_false] at q
    rcases q with rfl | rfl | rfl | rfl
    · exact g1
    · exact g2
    · exact List.mem_filter.mpr ⟨g3, g4⟩
    · exact g5
  · exact hws w q)
