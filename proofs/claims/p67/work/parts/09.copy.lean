/-- String constants: the class whose pool has it, its place there, the text, its number among the old objects -/
def xStr : List (String × Nat × String × Nat) := [
  ("CalendarhallLaw$Rule", 67, "mo", 10),
  ("CalendarhallLaw$Rule", 69, "tu", 12),
  ("CalendarhallLaw$Rule", 71, "we", 14),
  ("CalendarhallLaw$Rule", 73, "th", 16),
  ("CalendarhallLaw$Rule", 75, "fr", 18),
  ("CalendarhallLaw$Rule", 77, "sa", 20),
  ("CalendarhallLaw$Rule", 79, "su", 22),
  ("CalendarhallLaw$Rule", 81, "first", 24),
  ("CalendarhallLaw$Rule", 82, "second", 26),
  ("CalendarhallLaw$Rule", 84, "third", 28),
  ("CalendarhallLaw$Rule", 86, "fourth", 30),
  ("CalendarhallLaw$Rule", 88, "fifth", 32),
  ("CalendarhallLaw$Rule", 90, "", 34),
  ("CalendarhallLaw$Rule", 99, " ", 36),
  ("CalendarhallLaw$Rule", 105, "every ", 38),
  ("CalendarhallLaw$Rule", 110, "once", 40),
  ("CalendarhallLaw$Rule", 112, "days", 42),
  ("CalendarhallLaw$Rule", 114, "weeks on", 44),
  ("CalendarhallLaw$Rule", 116, "years", 46),
  ("CalendarhallLaw$Rule", 118, "months on ", 48),
  ("CalendarhallLaw$Rule", 120, "last", 50),
  ("CalendarhallLaw$Rule", 121, "end ", 52),
  ("CalendarhallLaw$Rule", 123, " for ", 54),
  ("CalendarhallLaw$Rule", 125, " until ", 56),
  ("Calendarhall$Reader", 90, "once", 40),
  ("Calendarhall$Reader", 95, "every", 58),
  ("Calendarhall$Reader", 107, "days", 42),
  ("Calendarhall$Reader", 112, "years", 46),
  ("Calendarhall$Reader", 114, "weeks", 60),
  ("Calendarhall$Reader", 116, "on", 62),
  ("Calendarhall$Reader", 140, "motuwethfrsasu", 64),
  ("Calendarhall$Reader", 121, "months", 66),
  ("Calendarhall$Reader", 129, "last", 50),
  ("Calendarhall$Reader", 22, "first", 24),
  ("Calendarhall$Reader", 24, "second", 26),
  ("Calendarhall$Reader", 26, "third", 28),
  ("Calendarhall$Reader", 28, "fourth", 30),
  ("Calendarhall$Reader", 30, "fifth", 32),
  ("Calendarhall$Reader", 142, "for", 68),
  ("Calendarhall$Reader", 148, "until", 70),
  ("Calendarhall$Rule", 128, "once", 40),
  ("Calendarhall$Rule", 136, "every ", 38),
  ("Calendarhall$Rule", 152, "days", 42),
  ("Calendarhall$Rule", 153, "weeks on", 44),
  ("Calendarhall$Rule", 155, "years", 46),
  ("Calendarhall$Rule", 170, "months on ", 48),
  ("Calendarhall$Rule", 172, "last", 50),
  ("Calendarhall$Rule", 173, "end ", 52),
  ("Calendarhall$Rule", 162, "motuwethfrsasu", 64),
  ("Calendarhall$Rule", 148, " for ", 54),
  ("Calendarhall$Rule", 150, " until ", 56)]
/-- the links of nest mates: their words are kept apart, for they aren't of the tables alone -/
def xNw : List Jvm.Cond := [
  (Jvm.Cond.fieldLinkNest "CalendarhallLaw$Rule" (28 : Nat) "CalendarhallLaw$Days" "year" "[I" "CalendarhallLaw"),
  (Jvm.Cond.fieldLinkNest "CalendarhallLaw" (171 : Nat) "CalendarhallLaw$Days" "year" "[I" "CalendarhallLaw"),
  (Jvm.Cond.fieldLinkNest "CalendarhallLaw$Rule" (31 : Nat) "CalendarhallLaw$Days" "month" "[I" "CalendarhallLaw"),
  (Jvm.Cond.fieldLinkNest "CalendarhallLaw" (175 : Nat) "CalendarhallLaw$Days" "month" "[I" "CalendarhallLaw"),
  (Jvm.Cond.fieldLinkNest "CalendarhallLaw$Rule" (34 : Nat) "CalendarhallLaw$Days" "number" "[I" "CalendarhallLaw"),
  (Jvm.Cond.fieldLinkNest "CalendarhallLaw$Rule" (19 : Nat) "CalendarhallLaw$Days" "week" "[I" "CalendarhallLaw"),
  (Jvm.Cond.fieldLinkNest "CalendarhallLaw" (181 : Nat) "CalendarhallLaw$Days" "week" "[I" "CalendarhallLaw"),
  (Jvm.Cond.methodLinkNest "CalendarhallLaw" (31 : Nat) ({ cls := "CalendarhallLaw$Rule", name := "<init>", desc := "()V" } : Jvm.MethodName) "CalendarhallLaw"),
  (Jvm.Cond.fieldLinkNest "CalendarhallLaw" (52 : Nat) "CalendarhallLaw$Rule" "first" "I" "CalendarhallLaw"),
  (Jvm.Cond.fieldLinkNest "CalendarhallLaw" (77 : Nat) "CalendarhallLaw$Rule" "kind" "I" "CalendarhallLaw"),
  (Jvm.Cond.fieldLinkNest "CalendarhallLaw" (80 : Nat) "CalendarhallLaw$Rule" "step" "I" "CalendarhallLaw"),
  (Jvm.Cond.fieldLinkNest "CalendarhallLaw" (83 : Nat) "CalendarhallLaw$Rule" "set" "I" "CalendarhallLaw"),
  (Jvm.Cond.fieldLinkNest "CalendarhallLaw" (86 : Nat) "CalendarhallLaw$Rule" "place" "I" "CalendarhallLaw"),
  (Jvm.Cond.fieldLinkNest "CalendarhallLaw" (93 : Nat) "CalendarhallLaw$Rule" "how" "I" "CalendarhallLaw"),
  (Jvm.Cond.fieldLinkNest "CalendarhallLaw" (96 : Nat) "CalendarhallLaw$Rule" "number" "I" "CalendarhallLaw"),
  (Jvm.Cond.fieldLinkNest "CalendarhallLaw" (224 : Nat) "CalendarhallLaw$Dates" "series" "[I" "CalendarhallLaw"),
  (Jvm.Cond.fieldLinkNest "CalendarhallLaw" (260 : Nat) "CalendarhallLaw$Dates" "day" "[I" "CalendarhallLaw"),
  (Jvm.Cond.fieldLinkNest "CalendarhallLaw" (219 : Nat) "CalendarhallLaw$Dates" "begin" "[I" "CalendarhallLaw"),
  (Jvm.Cond.fieldLinkNest "CalendarhallLaw" (272 : Nat) "CalendarhallLaw$Dates" "length" "[I" "CalendarhallLaw"),
  (Jvm.Cond.fieldLinkNest "CalendarhallLaw" (216 : Nat) "CalendarhallLaw$Dates" "many" "I" "CalendarhallLaw"),
  (Jvm.Cond.arrayOver (Jvm.ClassFile.FieldType.object "Calendarhall$Zone")),
  (Jvm.Cond.arrayOver (Jvm.ClassFile.FieldType.object "Calendarhall$Person")),
  (Jvm.Cond.arrayOver (Jvm.ClassFile.FieldType.object "Calendarhall$Series")),
  (Jvm.Cond.arrayOver (Jvm.ClassFile.FieldType.object "Calendarhall$Device")),
  (Jvm.Cond.arrayOver (Jvm.ClassFile.FieldType.object "Calendarhall$Hall")),
  (Jvm.Cond.arrayOver (Jvm.ClassFile.FieldType.object "java/lang/String")),
  (Jvm.Cond.arrayOver (Jvm.ClassFile.FieldType.array Jvm.ClassFile.FieldType.int)),
  (Jvm.Cond.castable "[B" "java/lang/Cloneable")]
theorem xNw_form : ∀ w ∈ xNw, (∃ a i b n d h, w = Jvm.Cond.fieldLinkNest a i b n d h) ∨ (∃ a i x h, w = Jvm.Cond.methodLinkNest a i x h) ∨ (∃ C, w = Jvm.Cond.arrayOver (.object C)) ∨ (∃ t, w = Jvm.Cond.arrayOver (.array t)) ∨ ∃ C T, w = Jvm.Cond.castable C T := by
  intro w hw
  simp only [xNw, List.mem_cons, List.not_mem_nil, or_false] at hw
  rcases hw with rfl | rfl | rfl | rfl | rfl | rfl | rfl | rfl | rfl | rfl | rfl | rfl | rfl | rfl | rfl | rfl | rfl | rfl | rfl | rfl | rfl | rfl | rfl | rfl | rfl | rfl | rfl | rfl
  all_goals first | exact Or.inl ⟨_, _, _, _, _, _, rfl⟩ | exact Or.inr (Or.inl ⟨_, _, _, _, rfl⟩) | exact Or.inr (Or.inr (Or.inl ⟨_, rfl⟩)) | exact Or.inr (Or.inr (Or.inr (Or.inl ⟨_, rfl⟩))) | exact Or.inr (Or.inr (Or.inr (Or.inr ⟨_, _, rfl⟩)))
/-- statics that are read: class, name, descriptor, what they hold -/
def xSta : List (String × String × String × Value) := [("Calendarhall$Planner", "MOVES", "[I", .ref 1000000001), ("java/lang/Integer", "DigitTens", "[B", .ref 1000000002), ("java/lang/Integer", "DigitOnes", "[B", .ref 1000000003), ("java/lang/String", "COMPACT_STRINGS", "Z", .int 1), ("jdk/internal/util/Preconditions", "SIOOBE_FORMATTER", "Ljava/util/function/BiFunction;", .float 7)]
/-! ===== arraycopy of numbers, over the picture; a call's way back; what is known of the tables, moved ===== -/
section XCP
variable {p : Program} {l : Launch} {e : Env} {R : Room} {s : State} {m : MethodId} {args : Array Value} {below : List Frame} {meth : Method} {c : Code} {H : Heap} {locs : List Loc} {cells slots : Nat} {Q : State → Prop}
variable {cc : ByteArray} {pc : Nat} {ls : Array Slot} {rest : List Value} {Ts : List Jvm.Cond} {own : String}
variable {B : Nat} {ad : Nat → Nat} {dA : Nat → ClassId} {D : va_G} {H0 : Heap} {h : Nat × Nat × (Nat → va_E)} {O : Nat → Option va_E}
theorem xr_cpi (hx : p.tables.exec = Jvm.exec) (hb : c.code = cc) (hml : c.maxLocals = ls.size) {index : Nat} (hown : s.vm.findClass own = some m.cls) (hlink : (Jvm.Cond.methodLink own index arraycopyName).before args s = true) (hnat : (Jvm.Cond.native arraycopyName).before args s = true) (hstat : (Jvm.Cond.static arraycopyName).before args s = true) (hini : (Jvm.Cond.initialized "java/lang/System").before args s = true)
    (hK : va_K D vwCl (xtys dA) s) (XRh : XR B ad dA D H0 h H) (hlocs : ∀ q ∈ locs, B ≤ q.base) {a0 a1 n0 n1 : Nat} {f g : Nat → Int32} (u0 : a0 < 1000000000) (u1 : a0 < h.1) (u2 : h.2.2 a0 = .inl (0, n0, .inl f)) (v0 : a1 < 1000000000) (v1 : a1 < h.1) (v2 : h.2.2 a1 = .inl (0, n1, .inl g))
    {sp dp n : Int32} (h1 : ¬ sp < 0) (h2 : ¬ dp < 0) (h3 : ¬ n < 0) (h4 : sp.toNatClampNeg + n.toNatClampNeg ≤ n0) (h5 : dp.toNatClampNeg + n.toNatClampNeg ≤ n1)
    (hframes : 1 ≤ R.frames) (hlocals : (rest.map fun v => v.category).sum + (nativeFrameWords "java/lang/System" "arraycopy" 5 + 11) ≤ R.locals) (hdg : decode cc pc = .ok (.invokestatic index, 3))
    (kk : ∀ (H1 : Heap) (locs1 : List Loc), XR B ad dA D H0 (xup h a1 (.inl (0, n1, .inl (va_cpy f g sp.toNatClampNeg dp.toNatClampNeg n.toNatClampNeg)))) H1 → (∀ q ∈ locs1, B ≤ q.base) → W p l e R s m args below meth c H1 locs1 cells slots Q (F0 m (pc + 3) ls rest)) : W p l e R s m args below meth c H locs cells slots Q (F0 m pc ls (.int n :: .int dp :: .ref (xr B ad a1) :: .int sp :: .ref (xr B ad a0) :: rest)) := by
  have nn : ∀ z : Int32, ¬ z < 0 → z.toInt = (z.toNatClampNeg : Int) := by
    intro z hz
    have hz0 : (0 : Int) ≤ z.toInt := by
      have := Int32.not_lt.mp hz
      simpa using Int32.le_iff_toInt_le.mp this
    show z.toInt = ((z.toInt.toNat : Nat) : Int)
    omega
  intro T hT X
  have hc0 : H[xr B ad a0]? = some (vp_cell (dA 0) (n0, .inl f)) := by
    have q := XRh.2.2.2.2 a0 u1
    rw [u2] at q
    rw [xr_new u0]
    exact q
  have hc1 : H[xr B ad a1]? = some (vp_cell (dA 0) (n1, .inl g)) := by
    have q := XRh.2.2.2.2 a1 v1
    rw [v2] at q
    rw [xr_new v0]
    exact q
  have hA := (hK.2 0 _ (xtys_at dA (by decide))).1
  obtain ⟨-, k0, hk0, cm0, hkk0⟩ := hA n0 (fun j => .int (f j))
  obtain ⟨vm', X', step⟩ := X.arraycopy hx hown hlink hnat hstat hini (src := xr B ad a0) (dst := xr B ad a1) (cs := vp_cell (dA 0) (n0, .inl f)) (cd := vp_cell (dA 0) (n1, .inl g)) (srcPos := sp) (destPos := dp) (n := n) (by rw [hT]; exact hc0) (by rw [hT]; exact hc1)
    (fun _ h => by cases h) (fun _ h => by cases h) (fun h => by cases h) (fun h => by cases h) hk0 hk0 hkk0 hkk0 (by simp [xT, refKind]) h1 h2 h3
    (by rw [nn sp h1, nn n h3]; show ¬ _ > ((arrV (dA 0) n0 (fun j => .int (f j))).slots.size : Int); rw [arrV_size]; omega)
    (by rw [nn dp h2, nn n h3]; show ¬ _ > ((arrV (dA 0) n1 (fun j => .int (g j))).slots.size : Int); rw [arrV_size]; omega)
    (fun vm₁ _ i hi => by
      have e : (vp_cell (dA 0) (n0, .inl f)).slots.getD (sp.toNatClampNeg + i) .null = .int (f (sp.toNatClampNeg + i)) := by
        show (arrV (dA 0) n0 (fun j => .int (f j))).slots.getD _ _ = _
        rw [Array.getD_eq_getD_getElem?, arrV_read _ _ (by omega)]
        rfl
      refine ⟨?_, ?_⟩
      · rw [e]
        rfl
      · rw [e]
        exact trivial)
    (g := F0 m pc ls (.int n :: .int dp :: .ref (xr B ad a1) :: .int sp :: .ref (xr B ad a0) :: rest)) rfl (by rw [hml]) (rest := rest) rfl (by rw [hb]; exact hdg) hframes (by show 2 * 0 + _ + _ ≤ _; omega)
  have e1 : copied (vp_cell (dA 0) (n0, .inl f)) (vp_cell (dA 0) (n1, .inl g)) sp dp n = vp_cell (dA 0) (n1, .inl (va_cpy f g sp.toNatClampNeg dp.toNatClampNeg n.toNatClampNeg)) := va_copied (fun z => .int z) (dA 0) (dA 0) f g h4
  rw [e1] at X' step
  have hl : xr B ad a1 < H.size := (Array.getElem?_eq_some_iff.mp hc1).1
  have hheap : ((T.setVm vm').setCell (xr B ad a1) (vp_cell (dA 0) (n1, .inl (va_cpy f g sp.toNatClampNeg dp.toNatClampNeg n.toNatClampNeg)))).heap = H.setIfInBounds (xr B ad a1) (vp_cell (dA 0) (n1, .inl (va_cpy f g sp.toNatClampNeg dp.toNatClampNeg n.toNatClampNeg))) := by rw [← hT]; rfl
  have oq : ∀ q : Nat, q ≠ xr B ad a1 → (H.setIfInBounds (xr B ad a1) (vp_cell (dA 0) (n1, .inl (va_cpy f g sp.toNatClampNeg dp.toNatClampNeg n.toNatClampNeg))))[q]? = H[q]? := fun q hq => by simp [Array.getElem?_setIfInBounds, Ne.symm hq]
  have eat : (H.setIfInBounds (xr B ad a1) (vp_cell (dA 0) (n1, .inl (va_cpy f g sp.toNatClampNeg dp.toNatClampNeg n.toNatClampNeg))))[xr B ad a1]? = some (vp_cell (dA 0) (n1, .inl (va_cpy f g sp.toNatClampNeg dp.toNatClampNeg n.toNatClampNeg))) := by simp [Array.getElem?_setIfInBounds, hl]
  have hup : XR B ad dA D H0 (xup h a1 (.inl (0, n1, .inl (va_cpy f g sp.toNatClampNeg dp.toNatClampNeg n.toNatClampNeg)))) (H.setIfInBounds (xr B ad a1) (vp_cell (dA 0) (n1, .inl (va_cpy f g sp.toNatClampNeg dp.toNatClampNeg n.toNatClampNeg)))) := by
    have ex : xr B ad a1 = B + a1 := xr_new v0
    rw [ex] at oq eat ⊢
    exact XRh.up v1 eat (by simp) oq
  obtain ⟨t, a1', b1⟩ := kk _ _ hup (fun q hq => by
      rcases List.mem_append.mp hq with h | h
      · exact hlocs q h
      · obtain ⟨z, -, hz⟩ := List.mem_map.mp h
        rw [← hz]
        show B ≤ xr B ad a1
        rw [xr_new v0]
        exact Nat.le_add_right _ _) _ hheap X'
  exact ⟨t, step t a1', b1⟩
theorem xr_cpl (hx : p.tables.exec = Jvm.exec) (hb : c.code = cc) (hml : c.maxLocals = ls.size) {index : Nat} (hown : s.vm.findClass own = some m.cls) (hlink : (Jvm.Cond.methodLink own index arraycopyName).before args s = true) (hnat : (Jvm.Cond.native arraycopyName).before args s = true) (hstat : (Jvm.Cond.static arraycopyName).before args s = true) (hini : (Jvm.Cond.initialized "java/lang/System").before args s = true)
    (hK : va_K D vwCl (xtys dA) s) (XRh : XR B ad dA D H0 h H) (hlocs : ∀ q ∈ locs, B ≤ q.base) {a0 a1 n0 n1 : Nat} {f g : Nat → Int64} (u0 : a0 < 1000000000) (u1 : a0 < h.1) (u2 : h.2.2 a0 = .inl (1, n0, .inr (.inl f))) (v0 : a1 < 1000000000) (v1 : a1 < h.1) (v2 : h.2.2 a1 = .inl (1, n1, .inr (.inl g)))
    {sp dp n : Int32} (h1 : ¬ sp < 0) (h2 : ¬ dp < 0) (h3 : ¬ n < 0) (h4 : sp.toNatClampNeg + n.toNatClampNeg ≤ n0) (h5 : dp.toNatClampNeg + n.toNatClampNeg ≤ n1)
    (hframes : 1 ≤ R.frames) (hlocals : (rest.map fun v => v.category).sum + (nativeFrameWords "java/lang/System" "arraycopy" 5 + 11) ≤ R.locals) (hdg : decode cc pc = .ok (.invokestatic index, 3))
    (kk : ∀ (H1 : Heap) (locs1 : List Loc), XR B ad dA D H0 (xup h a1 (.inl (1, n1, .inr (.inl (va_cpy f g sp.toNatClampNeg dp.toNatClampNeg n.toNatClampNeg))))) H1 → (∀ q ∈ locs1, B ≤ q.base) → W p l e R s m args below meth c H1 locs1 cells slots Q (F0 m (pc + 3) ls rest)) : W p l e R s m args below meth c H locs cells slots Q (F0 m pc ls (.int n :: .int dp :: .ref (xr B ad a1) :: .int sp :: .ref (xr B ad a0) :: rest)) := by
  have nn : ∀ z : Int32, ¬ z < 0 → z.toInt = (z.toNatClampNeg : Int) := by
    intro z hz
    have hz0 : (0 : Int) ≤ z.toInt := by
      have := Int32.not_lt.mp hz
      simpa using Int32.le_iff_toInt_le.mp this
    show z.toInt = ((z.toInt.toNat : Nat) : Int)
    omega
  intro T hT X
  have hc0 : H[xr B ad a0]? = some (vp_cell (dA 1) (n0, .inr (.inl f))) := by
    have q := XRh.2.2.2.2 a0 u1
    rw [u2] at q
    rw [xr_new u0]
    exact q
  have hc1 : H[xr B ad a1]? = some (vp_cell (dA 1) (n1, .inr (.inl g))) := by
    have q := XRh.2.2.2.2 a1 v1
    rw [v2] at q
    rw [xr_new v0]
    exact q
  have hA := (hK.2 1 _ (xtys_at dA (by decide))).1
  obtain ⟨-, k0, hk0, cm0, hkk0⟩ := hA n0 (fun j => .long (f j))
  obtain ⟨vm', X', step⟩ := X.arraycopy hx hown hlink hnat hstat hini (src := xr B ad a0) (dst := xr B ad a1) (cs := vp_cell (dA 1) (n0, .inr (.inl f))) (cd := vp_cell (dA 1) (n1, .inr (.inl g))) (srcPos := sp) (destPos := dp) (n := n) (by rw [hT]; exact hc0) (by rw [hT]; exact hc1)
    (fun _ h => by cases h) (fun _ h => by cases h) (fun h => by cases h) (fun h => by cases h) hk0 hk0 hkk0 hkk0 (by simp [xT, refKind]) h1 h2 h3
    (by rw [nn sp h1, nn n h3]; show ¬ _ > ((arrV (dA 1) n0 (fun j => .long (f j))).slots.size : Int); rw [arrV_size]; omega)
    (by rw [nn dp h2, nn n h3]; show ¬ _ > ((arrV (dA 1) n1 (fun j => .long (g j))).slots.size : Int); rw [arrV_size]; omega)
    (fun vm₁ _ i hi => by
      have e : (vp_cell (dA 1) (n0, .inr (.inl f))).slots.getD (sp.toNatClampNeg + i) .null = .long (f (sp.toNatClampNeg + i)) := by
        show (arrV (dA 1) n0 (fun j => .long (f j))).slots.getD _ _ = _
        rw [Array.getD_eq_getD_getElem?, arrV_read _ _ (by omega)]
        rfl
      refine ⟨?_, ?_⟩
      · rw [e]
        rfl
      · rw [e]
        exact trivial)
    (g := F0 m pc ls (.int n :: .int dp :: .ref (xr B ad a1) :: .int sp :: .ref (xr B ad a0) :: rest)) rfl (by rw [hml]) (rest := rest) rfl (by rw [hb]; exact hdg) hframes (by show 2 * 0 + _ + _ ≤ _; omega)
  have e1 : copied (vp_cell (dA 1) (n0, .inr (.inl f))) (vp_cell (dA 1) (n1, .inr (.inl g))) sp dp n = vp_cell (dA 1) (n1, .inr (.inl (va_cpy f g sp.toNatClampNeg dp.toNatClampNeg n.toNatClampNeg))) := va_copied (fun z => .long z) (dA 1) (dA 1) f g h4
  rw [e1] at X' step
  have hl : xr B ad a1 < H.size := (Array.getElem?_eq_some_iff.mp hc1).1
  have hheap : ((T.setVm vm').setCell (xr B ad a1) (vp_cell (dA 1) (n1, .inr (.inl (va_cpy f g sp.toNatClampNeg dp.toNatClampNeg n.toNatClampNeg))))).heap = H.setIfInBounds (xr B ad a1) (vp_cell (dA 1) (n1, .inr (.inl (va_cpy f g sp.toNatClampNeg dp.toNatClampNeg n.toNatClampNeg)))) := by rw [← hT]; rfl
  have oq : ∀ q : Nat, q ≠ xr B ad a1 → (H.setIfInBounds (xr B ad a1) (vp_cell (dA 1) (n1, .inr (.inl (va_cpy f g sp.toNatClampNeg dp.toNatClampNeg n.toNatClampNeg)))))[q]? = H[q]? := fun q hq => by simp [Array.getElem?_setIfInBounds, Ne.symm hq]
  have eat : (H.setIfInBounds (xr B ad a1) (vp_cell (dA 1) (n1, .inr (.inl (va_cpy f g sp.toNatClampNeg dp.toNatClampNeg n.toNatClampNeg)))))[xr B ad a1]? = some (vp_cell (dA 1) (n1, .inr (.inl (va_cpy f g sp.toNatClampNeg dp.toNatClampNeg n.toNatClampNeg)))) := by simp [Array.getElem?_setIfInBounds, hl]
  have hup : XR B ad dA D H0 (xup h a1 (.inl (1, n1, .inr (.inl (va_cpy f g sp.toNatClampNeg dp.toNatClampNeg n.toNatClampNeg))))) (H.setIfInBounds (xr B ad a1) (vp_cell (dA 1) (n1, .inr (.inl (va_cpy f g sp.toNatClampNeg dp.toNatClampNeg n.toNatClampNeg))))) := by
    have ex : xr B ad a1 = B + a1 := xr_new v0
    rw [ex] at oq eat ⊢
    exact XRh.up v1 eat (by simp) oq
  obtain ⟨t, a1', b1⟩ := kk _ _ hup (fun q hq => by
      rcases List.mem_append.mp hq with h | h
      · exact hlocs q h
      · obtain ⟨z, -, hz⟩ := List.mem_map.mp h
        rw [← hz]
        show B ≤ xr B ad a1
        rw [xr_new v0]
        exact Nat.le_add_right _ _) _ hheap X'
  exact ⟨t, step t a1', b1⟩
/-- a row of bytes, from an old row too -/
theorem xr_cpb (hx : p.tables.exec = Jvm.exec) (hb : c.code = cc) (hml : c.maxLocals = ls.size) {index : Nat} (hown : s.vm.findClass own = some m.cls) (hlink : (Jvm.Cond.methodLink own index arraycopyName).before args s = true) (hnat : (Jvm.Cond.native arraycopyName).before args s = true) (hstat : (Jvm.Cond.static arraycopyName).before args s = true) (hini : (Jvm.Cond.initialized "java/lang/System").before args s = true)
    (hK : va_K D vwCl (xtys dA) s) (XRh : XR B ad dA D H0 h H) (hO : xO ad B dA D O s H0) (hlocs : ∀ q ∈ locs, B ≤ q.base) {a0 a1 n0 n1 : Nat} {f g : Nat → Int32} (u2 : xrd O h a0 = some (.inl (3, n0, .inl f))) (v0 : a1 < 1000000000) (v1 : a1 < h.1) (v2 : h.2.2 a1 = .inl (3, n1, .inl g))
    {sp dp n : Int32} (h1 : ¬ sp < 0) (h2 : ¬ dp < 0) (h3 : ¬ n < 0) (h4 : sp.toNatClampNeg + n.toNatClampNeg ≤ n0) (h5 : dp.toNatClampNeg + n.toNatClampNeg ≤ n1) (hfit : ∀ i, i < n.toNatClampNeg → xfit .byte (.int (f (sp.toNatClampNeg + i))) = true)
    (hframes : 1 ≤ R.frames) (hlocals : (rest.map fun v => v.category).sum + (nativeFrameWords "java/lang/System" "arraycopy" 5 + 11) ≤ R.locals) (hdg : decode cc pc = .ok (.invokestatic index, 3))
    (kk : ∀ (H1 : Heap) (locs1 : List Loc), XR B ad dA D H0 (xup h a1 (.inl (3, n1, .inl (va_cpy f g sp.toNatClampNeg dp.toNatClampNeg n.toNatClampNeg)))) H1 → (∀ q ∈ locs1, B ≤ q.base) → W p l e R s m args below meth c H1 locs1 cells slots Q (F0 m (pc + 3) ls rest)) : W p l e R s m args below meth c H locs cells slots Q (F0 m pc ls (.int n :: .int dp :: .ref (xr B ad a1) :: .int sp :: .ref (xr B ad a0) :: rest)) := by
  have nn : ∀ z : Int32, ¬ z < 0 → z.toInt = (z.toNatClampNeg : Int) := by
    intro z hz
    have hz0 : (0 : Int) ≤ z.toInt := by
      have := Int32.not_lt.mp hz
      simpa using Int32.le_iff_toInt_le.mp this
    show z.toInt = ((z.toInt.toNat : Nat) : Int)
    omega
  intro T hT X
  obtain ⟨cs, hc0, ia, nu, sz, rd⟩ := XRh.ints hO hK (by decide) u2
  obtain ⟨sobj, ks, hks, cms, hkks⟩ := ia
  have hc1 : H[xr B ad a1]? = some (vp_cell (dA 3) (n1, .inl g)) := by
    have q := XRh.2.2.2.2 a1 v1
    rw [v2] at q
    rw [xr_new v0]
    exact q
  have hA := (hK.2 3 _ (xtys_at dA (by decide))).1
  obtain ⟨-, k0, hk0, cm0, hkk0⟩ := hA n0 (fun j => .int (f j))
  obtain ⟨vm', X', step⟩ := X.arraycopy hx hown hlink hnat hstat hini (src := xr B ad a0) (dst := xr B ad a1) (cs := cs) (cd := vp_cell (dA 3) (n1, .inl g)) (srcPos := sp) (destPos := dp) (n := n) (by rw [hT]; exact hc0) (by rw [hT]; exact hc1)
    sobj (fun _ h => by cases h) nu (fun h => by cases h) hks hk0 hkks hkk0 (by simp [xT, refKind]) h1 h2 h3
    (by rw [nn sp h1, nn n h3]; rw [sz]; omega)
    (by rw [nn dp h2, nn n h3]; show ¬ _ > ((arrV (dA 3) n1 (fun j => .int (g j))).slots.size : Int); rw [arrV_size]; omega)
    (fun vm₁ _ i hi => by
      have e : cs.slots.getD (sp.toNatClampNeg + i) .null = .int (f (sp.toNatClampNeg + i)) := by
        rw [Array.getD_eq_getD_getElem?, rd _ (by omega)]
        rfl
      refine ⟨?_, ?_⟩
      · rw [e]
        exact xfit_nar _ _ (hfit i hi)
      · rw [e]
        exact trivial)
    (g := F0 m pc ls (.int n :: .int dp :: .ref (xr B ad a1) :: .int sp :: .ref (xr B ad a0) :: rest)) rfl (by rw [hml]) (rest := rest) rfl (by rw [hb]; exact hdg) hframes (by show 2 * 0 + _ + _ ≤ _; omega)
  have e1 : copied cs (vp_cell (dA 3) (n1, .inl g)) sp dp n = vp_cell (dA 3) (n1, .inl (va_cpy f g sp.toNatClampNeg dp.toNatClampNeg n.toNatClampNeg)) := by
    have q := va_copied (fun z : Int32 => Value.int z) (dA 3) (dA 3) (dp := dp.toNatClampNeg) (n1 := n1) f g h4
    have es : cs.stretch sp.toNatClampNeg n.toNatClampNeg = (arrV (dA 3) n0 (fun j => Value.int (f j))).stretch sp.toNatClampNeg n.toNatClampNeg := by
      unfold Cell.stretch
      apply List.map_congr_left
      intro i hi
      have hi' := List.mem_range.mp hi
      rw [Array.getD_eq_getD_getElem?, Array.getD_eq_getD_getElem?, arrV_read _ _ (by omega), rd _ (by omega)]
    show (arrV (dA 3) n1 (fun j => Value.int (g j))).storeRun dp.toNatClampNeg (cs.stretch sp.toNatClampNeg n.toNatClampNeg) = _
    rw [es]
    exact q
  rw [e1] at X' step
  have hl : xr B ad a1 < H.size := (Array.getElem?_eq_some_iff.mp hc1).1
  have hheap : ((T.setVm vm').setCell (xr B ad a1) (vp_cell (dA 3) (n1, .inl (va_cpy f g sp.toNatClampNeg dp.toNatClampNeg n.toNatClampNeg)))).heap = H.setIfInBounds (xr B ad a1) (vp_cell (dA 3) (n1, .inl (va_cpy f g sp.toNatClampNeg dp.toNatClampNeg n.toNatClampNeg))) := by rw [← hT]; rfl
  have oq : ∀ q : Nat, q ≠ xr B ad a1 → (H.setIfInBounds (xr B ad a1) (vp_cell (dA 3) (n1, .inl (va_cpy f g sp.toNatClampNeg dp.toNatClampNeg n.toNatClampNeg))))[q]? = H[q]? := fun q hq => by simp [Array.getElem?_setIfInBounds, Ne.symm hq]
  have eat : (H.setIfInBounds (xr B ad a1) (vp_cell (dA 3) (n1, .inl (va_cpy f g sp.toNatClampNeg dp.toNatClampNeg n.toNatClampNeg))))[xr B ad a1]? = some (vp_cell (dA 3) (n1, .inl (va_cpy f g sp.toNatClampNeg dp.toNatClampNeg n.toNatClampNeg))) := by simp [Array.getElem?_setIfInBounds, hl]
  have hup : XR B ad dA D H0 (xup h a1 (.inl (3, n1, .inl (va_cpy f g sp.toNatClampNeg dp.toNatClampNeg n.toNatClampNeg)))) (H.setIfInBounds (xr B ad a1) (vp_cell (dA 3) (n1, .inl (va_cpy f g sp.toNatClampNeg dp.toNatClampNeg n.toNatClampNeg)))) := by
    have ex : xr B ad a1 = B + a1 := xr_new v0
    rw [ex] at oq eat ⊢
    exact XRh.up v1 eat (by simp) oq
  obtain ⟨t, a1', b1⟩ := kk _ _ hup (fun q hq => by
      rcases List.mem_append.mp hq with h | h
      · exact hlocs q h
      · obtain ⟨z, -, hz⟩ := List.mem_map.mp h
        rw [← hz]
        show B ≤ xr B ad a1
        rw [xr_new v0]
        exact Nat.le_add_right _ _) _ hheap X'
  exact ⟨t, step t a1', b1⟩
/-- what is known of the tables, of the old cells, and of rows of rows -/
def xKK (B : Nat) (ad : Nat → Nat) (dA : Nat → ClassId) (D : va_G) (H0 : Heap) (O : Nat → Option va_E) (U : State) : Prop :=
  va_K D vwCl (xtys dA) U ∧ xO ad B dA D O U H0 ∧ (∃ kA : Class, U.vm.classes[dA 5]? = some kA ∧ kA.kind = .array (dA 0) (.array .int)) ∧ (∀ q ∈ xStr, vk_R q.1 q.2.1 q.2.2.1 (ad q.2.2.2) U) ∧ (∀ q ∈ xSta, va_Z q.1 q.2.1 q.2.2.1 (xv B ad q.2.2.2) (fun a => B ≤ a) U H0) ∧ ∀ w ∈ xNw, va_Nw w U
theorem xO.moved {u U : State} (hvm : u.vm.Alike U.vm) (h : xO ad B dA D O u H0) : xO ad B dA D O U H0 := fun j x hj => by
  obtain ⟨g1, g2⟩ := h j x hj
  refine ⟨g1, ?_⟩
  match x, g2 with
  | .inl (t, n, .inl f), g2 =>
    obtain ⟨g3, cell, c1, c2, c3⟩ := g2
    exact ⟨g3, cell, c1, State.isArrayOf_alike hvm c2, c3⟩
  | .inl (t, n, .inr y), g2 => exact g2
  | .inr o, g2 =>
    obtain ⟨C, T, N, e1, ⟨cell, c1, c2, c3⟩, e2⟩ := g2
    exact ⟨C, T, N, e1, ⟨cell, c1, c2, by rw [hvm.findClass]; exact c3⟩, fun i v hv => va_OF.moved hvm (e2 i v hv)⟩
theorem xKK.move {u U : State} (hvm : u.vm.Alike U.vm) (hs : ∀ q ∈ xStr, vk_R q.1 q.2.1 q.2.2.1 (ad q.2.2.2) U) (hn : ∀ w ∈ xNw, va_Nw w U) (h : xKK B ad dA D H0 O u) : xKK B ad dA D H0 O U := by
  obtain ⟨h1, h2, ⟨kA, h3, h4⟩, h5, h6, -⟩ := h
  obtain ⟨k', hk', he⟩ := hvm.2.2 _ _ h3
  exact ⟨va_K.moved hvm h1, xO.moved hvm h2, ⟨k', hk', by rw [he]; exact h4⟩, hs, fun q hq => va_Z.moved hvm (h6 q hq), hn⟩
theorem xNw_warm {u U : State} (hW : u.WarmedH U.vm) {w : Jvm.Cond} (hw : w ∈ xNw) (hz : va_Nw w u) : va_Nw w U := by
  rcases xNw_form w hw with ⟨a, i, b, n, d, hh, rfl⟩ | ⟨a, i, x, hh, rfl⟩ | ⟨C, rfl⟩ | ⟨t, rfl⟩ | ⟨C, T, rfl⟩
  · exact va_Nw.warmF hW hz
  · exact va_Nw.warmM hW hz
  · exact va_AO.moved hW.alike hz
  · exact over_moved (a := #[]) (a' := #[]) hW.alike hz
  · exact va_Nw.warmC hW hz
theorem xNw_same {u U : State} (hv : U.vm = u.vm) {w : Jvm.Cond} (hw : w ∈ xNw) (hz : va_Nw w u) : va_Nw w U := by
  have ha : u.vm.Alike U.vm := by rw [hv]; exact Vm.Alike.refl u.vm
  rcases xNw_form w hw with ⟨a, i, b, n, d, hh, rfl⟩ | ⟨a, i, x, hh, rfl⟩ | ⟨C, rfl⟩ | ⟨t, rfl⟩ | ⟨C, T, rfl⟩
  · exact va_Nw.same rfl hv.symm hz
  · exact va_Nw.same rfl hv.symm hz
  · exact va_AO.moved ha hz
  · exact over_moved (a := #[]) (a' := #[]) ha hz
  · exact va_Nw.same rfl hv.symm hz
theorem xKK.warm {u U : State} (hW : u.WarmedH U.vm) (h : xKK B ad dA D H0 O u) : xKK B ad dA D H0 O U := h.move hW.alike (fun q hq => vk_R.warm hW (h.2.2.2.1 q hq)) (fun w hw => xNw_warm hW hw (h.2.2.2.2.2 w hw))
theorem xKK.same {u U : State} (hv : U.vm = u.vm) (h : xKK B ad dA D H0 O u) : xKK B ad dA D H0 O U := h.move (by rw [hv]; exact Vm.Alike.refl u.vm) (fun q hq => vk_R.same hv (h.2.2.2.1 q hq)) (fun w hw => xNw_same hv hw (h.2.2.2.2.2 w hw))
/-- a contract's start and end, over the picture -/
def xPc (B : Nat) (ad : Nat → Nat) (dA : Nat → ClassId) (D : va_G) (H0 : Heap) (O : Nat → Option va_E) (av : List Value) (h : Nat × Nat × (Nat → va_E)) : Array Value → State → Prop := fun a U => a = (av.map (xv B ad)).toArray ∧ XR B ad dA D H0 h U.heap ∧ xKK B ad dA D H0 O U
def xQc (B : Nat) (ad : Nat → Nat) (dA : Nat → ClassId) (D : va_G) (H0 : Heap) (rv : Option Value) (h : Nat × Nat × (Nat → va_E)) : Array Value → State → Outcome → State → Prop := fun _ _ o t => o = .returned (rv.map (xv B ad)) ∧ XR B ad dA D H0 h t.heap
theorem xPc_blind {av : List Value} : FrameBlind (xPc B ad dA D H0 O av h) := fun a U g mk q => ⟨q.1, q.2.1, xKK.same (u := U) (U := U.calling g mk a) rfl q.2.2⟩
theorem xr_call {st0 : List Value} {mc ms : Nat} {rv : Option Value} {h' : Nat × Nat × (Nat → va_E)} {a : Array Value} (hr : va_Run p l e R s m args below meth c H locs cells slots mc ms (F0 m pc ls st0) (rest.map (xv B ad)) (xQc B ad dA D H0 rv h' a) (fun q => B ≤ q)) (hlocs : ∀ q ∈ locs, B ≤ q.base)
    (kk : ∀ (H1 : Heap) (locs1 : List Loc), XR B ad dA D H0 h' H1 → (∀ q ∈ locs1, B ≤ q.base) → W p l e R s m args below meth c H1 locs1 (cells + mc) (slots + ms) Q (F0 m (pc + 3) ls ((rv.toList ++ rest).map (xv B ad)))) : W p l e R s m args below meth c H locs cells slots Q (F0 m pc ls st0) := by
  intro T hT X
  obtain ⟨v, st₀, t, T', L, h0, X', hL, e1, e2, ⟨hv, hq⟩, st⟩ := hr T hT X
  cases hv
  have ev : ((rv.toList ++ rest).map (xv B ad)) = (rv.map (xv B ad)).toList ++ rest.map (xv B ad) := by cases rv <;> rfl
  rw [ev] at kk
  obtain ⟨t2, a1, b1⟩ := kk T'.heap (locs ++ L) (by rw [e1]; exact hq) (fun q hq => by
      rcases List.mem_append.mp hq with h | h
      · exact hlocs q h
      · exact hL q h) T' rfl X'
  exact ⟨t2, st t2 a1, b1⟩
end XCP
