/-! ===== a program that checks a method's table ===== -/
def xhas (w : Jvm.Cond) (i : Nat) : Bool := decide (lw_tbx[i]? = some w) && goodWord w
theorem xhas_in {w : Jvm.Cond} {i : Nat} (h : xhas w i = true) : w ∈ xW := by
  unfold xhas at h
  rw [Bool.and_eq_true, decide_eq_true_eq] at h
  exact List.mem_filter.mpr ⟨List.mem_of_getElem? h.1, h.2⟩
/-- a word of code, whatever the code -/
def xhasC (x : MethodName) (i : Nat) : Bool := match lw_tbx[i]? with
  | some (.code y b m r) => decide (y = x) && goodWord (.code y b m r)
  | _ => false
theorem xhasC_in {x : MethodName} {i : Nat} (h : xhasC x i = true) : ∃ b0 m0 r0, Jvm.Cond.code x b0 m0 r0 ∈ xW := by
  unfold xhasC at h
  split at h
  · rename_i y b m r hq
    rw [Bool.and_eq_true, decide_eq_true_eq] at h
    obtain ⟨h1, h2⟩ := h
    subst h1
    exact ⟨b, m, r, List.mem_filter.mpr ⟨List.mem_of_getElem? hq, h2⟩⟩
  · cases h
def xph (hs : List Nat) (i : Nat) : Nat := hs.getD i 100000
/-- the words of an entry, by their places -/
def xck1 (own : String) (ini : Bool) (ins : Instr) (r0 r1 : Nat) (cv : Value) (hs : List Nat) : Bool := match ins with
  | .ldc i => match cv with
    | .int v => xhas (.constant own i v) (xph hs 0)
    | .ref a => xStr.any (fun q => decide (q.1 = own) && decide (q.2.1 = i) && decide (a = 1000000000 + q.2.2.2))
    | _ => false
  | .ldc_w i => match cv with
    | .int v => xhas (.constant own i v) (xph hs 0)
    | _ => false
  | .ldc2_w i => match cv with
    | .long v => xhas (.constantLong own i v) (xph hs 0)
    | _ => false
  | .getstatic i => xSta.any (fun q => decide (cv = q.2.2.2) && xhas (.fieldLink own i q.1 q.2.1 q.2.2.1) (xph hs 0))
  | .getfield i => match vwCl[r0]? with
    | some q => decide (r1 < q.2.2) && (xhas (.fieldLink own i (q.2.1 r1).1 (q.2.1 r1).2.1 (q.2.1 r1).2.2.1) (xph hs 0) || decide (Jvm.Cond.fieldLinkNest own i (q.2.1 r1).1 (q.2.1 r1).2.1 (q.2.1 r1).2.2.1 "CalendarhallLaw" ∈ xNw))
    | none => false
  | .putfield i => match vwCl[r0]? with
    | some q => decide (r1 < q.2.2) && xhas (.fieldLink own i (q.2.1 r1).1 (q.2.1 r1).2.1 (q.2.1 r1).2.2.1) (xph hs 0) && (!(q.2.1 r1).2.2.2 || (ini && decide ((q.2.1 r1).1 = own)))
    | none => false
  | .new i => match vwCl[r0]? with
    | some q => decide (q.2.2 = r1) && xhas (.classLink own i q.1) (xph hs 0) && xhas (.instantiable q.1 r1) (xph hs 1) && xhas (.initialized q.1) (xph hs 2)
    | none => false
  | .newarray a => xhas (.arrayClass (newarray.typeOf a)) (xph hs 0)
  | .anewarray i => decide (r0 < 12) && match xT.getD r0 .int with
    | .object C => xhas (.classLink own i C) (xph hs 0) && decide (Jvm.Cond.arrayOver (.object C) ∈ xNw)
    | .array .int => decide (r0 = 5) && xhas (.classLink own i "[I") (xph hs 0) && decide (Jvm.Cond.arrayOver (.array .int) ∈ xNw)
    | _ => false
  | .checkcast i => xhas (.classLink own i "[B") (xph hs 0)
  | .multianewarray i _ => xhas (.classLink own i "[[I") (xph hs 0) && decide (Jvm.Cond.arrayOver (.array .int) ∈ xNw) && xhas (.arrayClass .int) (xph hs 1)
  | _ => true
theorem xck1_ok {own : String} {ini : Bool} {ins : Instr} {r0 r1 : Nat} {cv : Value} {hs : List Nat} (h : xck1 own ini ins r0 r1 cv hs = true) : xvh own ini ins r0 r1 cv := by
  unfold xck1 at h
  unfold xvh
  split at h
  · split at h
    · exact Or.inl ⟨_, rfl, xhas_in h⟩
    · obtain ⟨q, hq, h⟩ := List.any_eq_true.mp h
      simp only [Bool.and_eq_true, decide_eq_true_eq] at h
      exact Or.inr ⟨q, hq, h.1.1, h.1.2, by rw [h.2]⟩
    · cases h
  · split at h
    · exact ⟨_, rfl, xhas_in h⟩
    · cases h
  · split at h
    · exact ⟨_, rfl, xhas_in h⟩
    · cases h
  · obtain ⟨q, hq, h⟩ := List.any_eq_true.mp h
    simp only [Bool.and_eq_true, decide_eq_true_eq] at h
    exact ⟨q, hq, h.1, xhas_in h.2⟩
  · split at h
    · rename_i q hq
      simp only [Bool.and_eq_true, Bool.or_eq_true, decide_eq_true_eq] at h
      exact ⟨q.1, q.2.1, q.2.2, hq, h.1, h.2.imp xhas_in (fun z => ⟨_, z⟩)⟩
    · cases h
  · split at h
    · rename_i q hq
      simp only [Bool.and_eq_true, Bool.or_eq_true, decide_eq_true_eq, Bool.not_eq_true'] at h
      refine ⟨q.1, q.2.1, q.2.2, hq, h.1.1, xhas_in h.1.2, ?_⟩
      cases hf : (q.2.1 r1).2.2.2 with
      | false => exact Or.inl rfl
      | true =>
        rcases h.2 with z | z
        · rw [hf] at z
          cases z
        · exact Or.inr ⟨rfl, z.1, z.2⟩
    · cases h
  · split at h
    · rename_i q hq
      simp only [Bool.and_eq_true, decide_eq_true_eq] at h
      obtain ⟨⟨⟨rfl, h2⟩, h3⟩, h4⟩ := h
      exact ⟨q.1, q.2.1, hq, xhas_in h2, xhas_in h3, xhas_in h4⟩
    · cases h
  · exact xhas_in h
  · simp only [Bool.and_eq_true, decide_eq_true_eq] at h
    have h2 := h.2
    split at h2
    · rename_i C hC
      rw [Bool.and_eq_true] at h2
      exact Or.inl ⟨h.1, C, hC, xhas_in h2.1, of_decide_eq_true h2.2⟩
    · simp only [Bool.and_eq_true, decide_eq_true_eq] at h2
      exact Or.inr ⟨h2.1.1, xhas_in h2.1.2, h2.2⟩
    · cases h2
  · exact xhas_in h
  · simp only [Bool.and_eq_true, decide_eq_true_eq] at h
    exact ⟨xhas_in h.1.1, h.1.2, xhas_in h.2⟩
  · split <;> first | trivial | (exfalso; simp_all; done)
def xckt (ins : Instr) (r0 pc : Nat) : Bool := match ins with
  | .goto off => decide ((pc : Int) + off = (r0 : Int))
  | .ifCond _ off => decide ((pc : Int) + off = (r0 : Int))
  | .if_icmp _ off => decide ((pc : Int) + off = (r0 : Int))
  | .ifnull off => decide ((pc : Int) + off = (r0 : Int))
  | .ifnonnull off => decide ((pc : Int) + off = (r0 : Int))
  | _ => true
theorem xckt_ok {ins : Instr} {r0 pc : Nat} (h : xckt ins r0 pc = true) : xbt ins r0 pc := by
  cases ins <;> first | trivial | (simpa [xckt, xbt] using h)
def xpar (y : MethodName) : Option Nat := (parseMethodDescriptor y.desc).map (fun d => d.parameters.length)
def xck2 (xY : Nat → MethodName) (P : Nat → Option xMe) (own : String) (en : xEn) (hs : List Nat) : Bool := match en.1, en.2.2.2.2.1 with
  | .invokestatic i, 1 => xhas (.methodLink own i (xY en.2.2.1)) (xph hs 0) && xhas (.static (xY en.2.2.1)) (xph hs 1) && xhas (.initialized (xY en.2.2.1).cls) (xph hs 2) && decide (xpar (xY en.2.2.1) = some en.2.2.2.1)
  | .invokevirtual i, 2 => xhas (.methodLink own i (xY en.2.2.1)) (xph hs 0) && xhas (.instanceMethod (xY en.2.2.1)) (xph hs 1) && xhas (.selects (xY en.2.2.1).cls (xY en.2.2.1) (xY en.2.2.1)) (xph hs 2) && xhas (.initialized (xY en.2.2.1).cls) (xph hs 3) && ((List.range 17).any (fun ci => decide (en.2.2.2.2.2 = .int (Int32.ofNat ci)) && match vwCl[ci]? with
      | some q => decide (q.1 = (xY en.2.2.1).cls)
      | none => false)) && decide (1 ≤ en.2.2.2.1) && decide (xpar (xY en.2.2.1) = some (en.2.2.2.1 - 1))
  | .invokevirtual i, 8 => xhas (.methodLink own i (xY en.2.2.1)) (xph hs 0) && xhas (.sameMethod (xY en.2.2.1).cls (xY en.2.2.1).cls (xY en.2.2.1).name (xY en.2.2.1).desc) (xph hs 1) && xhas (.instanceMethod (xY en.2.2.1)) (xph hs 2) && xhas (.initialized (xY en.2.2.1).cls) (xph hs 3) && ((List.range 17).any (fun ci => decide (en.2.2.2.2.2 = .int (Int32.ofNat ci)) && match vwCl[ci]? with
      | some q => xhas (.selects q.1 (xY en.2.2.1) (xY en.2.2.1)) (xph hs 4)
      | none => false)) && decide (1 ≤ en.2.2.2.1) && decide (xpar (xY en.2.2.1) = some (en.2.2.2.1 - 1))
  | .invokevirtual i, 9 => xhas (.methodLink own i (⟨"java/lang/AbstractStringBuilder", (xY en.2.2.1).name, (xY en.2.2.1).desc⟩ : MethodName)) (xph hs 0) && xhas (.sameMethod "java/lang/AbstractStringBuilder" "java/lang/AbstractStringBuilder" (xY en.2.2.1).name (xY en.2.2.1).desc) (xph hs 1) && xhas (.instanceMethod (⟨"java/lang/AbstractStringBuilder", (xY en.2.2.1).name, (xY en.2.2.1).desc⟩ : MethodName)) (xph hs 2) && xhas (.instanceMethod (xY en.2.2.1)) (xph hs 3) && xhas (.initialized (xY en.2.2.1).cls) (xph hs 4) && xhasC (⟨"java/lang/AbstractStringBuilder", (xY en.2.2.1).name, (xY en.2.2.1).desc⟩ : MethodName) (xph hs 5) && ((List.range 17).any (fun ci => decide (en.2.2.2.2.2 = .int (Int32.ofNat ci)) && match vwCl[ci]? with
      | some q => xhas (.selects q.1 (⟨"java/lang/AbstractStringBuilder", (xY en.2.2.1).name, (xY en.2.2.1).desc⟩ : MethodName) (xY en.2.2.1)) (xph hs 6)
      | none => false)) && decide (1 ≤ en.2.2.2.1) && decide (xpar (xY en.2.2.1) = some (en.2.2.2.1 - 1))
  | .invokespecial i, 7 => xhas (.methodLink own i (xY en.2.2.1)) (xph hs 0) && xhas (.sameMethod (xY en.2.2.1).cls (xY en.2.2.1).cls (xY en.2.2.1).name (xY en.2.2.1).desc) (xph hs 1) && xhas (.superclass own (xY en.2.2.1).cls) (xph hs 2) && xhas (.instanceMethod (xY en.2.2.1)) (xph hs 3) && xhas (.initialized (xY en.2.2.1).cls) (xph hs 4) && ((List.range 17).any (fun ci => decide (en.2.2.2.2.2 = .int (Int32.ofNat ci)) && (vwCl[ci]?).isSome)) && decide ((xY en.2.2.1).name ≠ "<init>") && decide (1 ≤ en.2.2.2.1) && decide (xpar (xY en.2.2.1) = some (en.2.2.2.1 - 1))
  | .invokespecial i, 3 => xhas (.methodLink own i (xY en.2.2.1)) (xph hs 0) && xhas (.instanceMethod (xY en.2.2.1)) (xph hs 1) && xhas (.initialized (xY en.2.2.1).cls) (xph hs 2) && decide ((xY en.2.2.1).name = "<init>") && (match P en.2.2.1 with
      | some me => decide (me.2.2 = none)
      | none => true) && decide (1 ≤ en.2.2.2.1) && decide (xpar (xY en.2.2.1) = some (en.2.2.2.1 - 1))
  | .invokespecial i, 4 => decide (Jvm.Cond.methodLinkNest own i (xY en.2.2.1) "CalendarhallLaw" ∈ xNw) && xhas (.instanceMethod (xY en.2.2.1)) (xph hs 1) && xhas (.initialized (xY en.2.2.1).cls) (xph hs 2) && decide ((xY en.2.2.1).name = "<init>") && (match P en.2.2.1 with
      | some me => decide (me.2.2 = none)
      | none => true) && decide (1 ≤ en.2.2.2.1) && decide (xpar (xY en.2.2.1) = some (en.2.2.2.1 - 1))
  | .invokespecial i, 5 => xhas (.methodLink own i Lib.objectInit) (xph hs 0) && xhas (.instanceMethod Lib.objectInit) (xph hs 1) && xhas (.code Lib.objectInit ⟨#[0xb1]⟩ 1 none) (xph hs 2)
  | .invokevirtual i, 10 => xhas (.methodLink own i ⟨"[B", "clone", "()Ljava/lang/Object;"⟩) (xph hs 0) && xhas (.sameMethod "[B" "java/lang/Object" "clone" "()Ljava/lang/Object;") (xph hs 1) && xhas (.native ⟨"java/lang/Object", "clone", "()Ljava/lang/Object;"⟩) (xph hs 2) && xhas (.instanceMethod ⟨"java/lang/Object", "clone", "()Ljava/lang/Object;"⟩) (xph hs 3) && xhas (.selects "[B" ⟨"[B", "clone", "()Ljava/lang/Object;"⟩ ⟨"java/lang/Object", "clone", "()Ljava/lang/Object;"⟩) (xph hs 4) && decide (Jvm.Cond.castable "[B" "java/lang/Cloneable" ∈ xNw)
  | .invokestatic i, 6 => xhas (.methodLink own i arraycopyName) (xph hs 0) && xhas (.native arraycopyName) (xph hs 1) && xhas (.static arraycopyName) (xph hs 2) && xhas (.initialized "java/lang/System") (xph hs 3)
  | _, _ => true
theorem xck2_ok {xY : Nat → MethodName} {P : Nat → Option xMe} {own : String} {en : xEn} {hs : List Nat} (h : xck2 xY P own en hs = true) : xvc xY P own en := by
  unfold xck2 at h
  unfold xvc
  split at h
  · rename_i i e1 e3
    rw [e1, e3]
    simp only [Bool.and_eq_true, decide_eq_true_eq] at h
    exact ⟨xhas_in h.1.1.1, xhas_in h.1.1.2, xhas_in h.1.2, h.2⟩
  · rename_i i e1 e3
    rw [e1, e3]
    simp only [Bool.and_eq_true, decide_eq_true_eq] at h
    obtain ⟨⟨⟨⟨⟨⟨h1, h2⟩, h3⟩, h4⟩, h5⟩, h6⟩, h7⟩ := h
    have h3' := xhas_in h3
    obtain ⟨ci, g1, g2⟩ := List.any_eq_true.mp h5
    rw [Bool.and_eq_true, decide_eq_true_eq] at g2
    refine ⟨xhas_in h1, xhas_in h2, xW_in h3', xW_gw h3', xhas_in h4, ⟨ci, List.mem_range.mp g1, g2.1, ?_⟩, _, (Nat.sub_add_cancel h6).symm, h7⟩
    have g3 := g2.2
    split at g3
    · rename_i q hq
      exact ⟨q, hq, of_decide_eq_true g3⟩
    · cases g3
  · rename_i i e1 e3
    rw [e1, e3]
    simp only [Bool.and_eq_true, decide_eq_true_eq] at h
    obtain ⟨⟨⟨⟨⟨⟨h1, h2⟩, h3⟩, h4⟩, h5⟩, h6⟩, h7⟩ := h
    obtain ⟨ci, g1, g2⟩ := List.any_eq_true.mp h5
    rw [Bool.and_eq_true, decide_eq_true_eq] at g2
    refine ⟨xhas_in h1, xhas_in h2, xhas_in h3, xhas_in h4, ⟨ci, List.mem_range.mp g1, g2.1, ?_⟩, _, (Nat.sub_add_cancel h6).symm, h7⟩
    have g3 := g2.2
    split at g3
    · rename_i q hq
      exact ⟨q, hq, xhas_in g3⟩
    · cases g3
  · rename_i i e1 e3
    rw [e1, e3]
    simp only [Bool.and_eq_true, decide_eq_true_eq] at h
    obtain ⟨⟨⟨⟨⟨⟨⟨⟨h1, h2⟩, h3⟩, h4⟩, h4'⟩, h4''⟩, h5⟩, h6⟩, h7⟩ := h
    obtain ⟨ci, g1, g2⟩ := List.any_eq_true.mp h5
    rw [Bool.and_eq_true, decide_eq_true_eq] at g2
    refine ⟨xhas_in h1, xhas_in h2, xhas_in h3, xhas_in h4, xhas_in h4', xhasC_in h4'', ⟨ci, List.mem_range.mp g1, g2.1, ?_⟩, _, (Nat.sub_add_cancel h6).symm, h7⟩
    have g3 := g2.2
    split at g3
    · rename_i q hq
      exact ⟨q, hq, xhas_in g3⟩
    · cases g3
  · rename_i i e1 e3
    rw [e1, e3]
    simp only [Bool.and_eq_true, decide_eq_true_eq] at h
    obtain ⟨⟨⟨⟨⟨⟨⟨⟨h1, h2⟩, h3⟩, h4⟩, h4'⟩, h5⟩, h5'⟩, h6⟩, h7⟩ := h
    obtain ⟨ci, g1, g2⟩ := List.any_eq_true.mp h5
    rw [Bool.and_eq_true, decide_eq_true_eq] at g2
    exact ⟨xhas_in h1, xhas_in h2, xhas_in h3, xhas_in h4, xhas_in h4', ⟨ci, List.mem_range.mp g1, g2.1, Option.isSome_iff_exists.mp g2.2⟩, h5', _, (Nat.sub_add_cancel h6).symm, h7⟩
  · rename_i i e1 e3
    rw [e1, e3]
    simp only [Bool.and_eq_true, decide_eq_true_eq] at h
    obtain ⟨⟨⟨⟨⟨⟨h1, h2⟩, h3⟩, h4⟩, h5⟩, h6⟩, h7⟩ := h
    refine ⟨xhas_in h1, xhas_in h2, xhas_in h3, h4, fun me hme => ?_, _, (Nat.sub_add_cancel h6).symm, h7⟩
    rw [hme] at h5
    exact of_decide_eq_true h5
  · rename_i i e1 e3
    rw [e1, e3]
    simp only [Bool.and_eq_true, decide_eq_true_eq] at h
    obtain ⟨⟨⟨⟨⟨⟨h1, h2⟩, h3⟩, h4⟩, h5⟩, h6⟩, h7⟩ := h
    refine ⟨⟨_, h1⟩, xhas_in h2, xhas_in h3, h4, fun me hme => ?_, _, (Nat.sub_add_cancel h6).symm, h7⟩
    rw [hme] at h5
    exact of_decide_eq_true h5
  · rename_i i e1 e3
    rw [e1, e3]
    simp only [Bool.and_eq_true] at h
    exact ⟨xhas_in h.1.1, xhas_in h.1.2, xhas_in h.2⟩
  · rename_i i e1 e3
    rw [e1, e3]
    simp only [Bool.and_eq_true, decide_eq_true_eq] at h
    exact ⟨xhas_in h.1.1.1.1.1, xhas_in h.1.1.1.1.2, xhas_in h.1.1.1.2, xhas_in h.1.1.2, xhas_in h.1.2, h.2⟩
  · rename_i i e1 e3
    rw [e1, e3]
    simp only [Bool.and_eq_true] at h
    exact ⟨xhas_in h.1.1.1, xhas_in h.1.1.2, xhas_in h.1.2, xhas_in h.2⟩
  · rename_i n1 n2 n7 n9 n8 n3 n4 n5 n10 n6
    split
    · rename_i e1 e3; exact (n1 _ e1 e3).elim
    · rename_i e1 e3; exact (n2 _ e1 e3).elim
    · rename_i e1 e3; exact (n7 _ e1 e3).elim
    · rename_i e1 e3; exact (n9 _ e1 e3).elim
    · rename_i e1 e3; exact (n8 _ e1 e3).elim
    · rename_i e1 e3; exact (n3 _ e1 e3).elim
    · rename_i e1 e3; exact (n4 _ e1 e3).elim
    · rename_i e1 e3; exact (n5 _ e1 e3).elim
    · rename_i e1 e3; exact (n10 _ e1 e3).elim
    · rename_i e1 e3; exact (n6 _ e1 e3).elim
    · trivial
def xckE (xY : Nat → MethodName) (P : Nat → Option xMe) (bs : ByteArray) (y : MethodName) (q : Nat × xEn) (hs : List Nat) : Bool :=
  (match decode bs q.1 with
    | .ok z => decide (z.1 = q.2.1) && decide (z.2 = q.2.2.1)
    | .error _ => false) && xckt q.2.1 q.2.2.2.1 q.1 && xck1 y.cls (y.name == "<init>") q.2.1 q.2.2.2.1 q.2.2.2.2.1 q.2.2.2.2.2.2 hs && xck2 xY P y.cls q.2 hs
def xckL (xY : Nat → MethodName) (P : Nat → Option xMe) (bs : ByteArray) (y : MethodName) : List (Nat × xEn) → List (List Nat) → Bool
  | [], _ => true
  | q :: t, [] => xckE xY P bs y q [] && xckL xY P bs y t []
  | q :: t, hs :: u => xckE xY P bs y q hs && xckL xY P bs y t u
theorem xckE_ok {xY : Nat → MethodName} {P : Nat → Option xMe} {bs : ByteArray} {y : MethodName} {q : Nat × xEn} {hs : List Nat} (h : xckE xY P bs y q hs = true) : decode bs q.1 = .ok (q.2.1, q.2.2.1) ∧ xbt q.2.1 q.2.2.2.1 q.1 ∧ xvh y.cls (y.name == "<init>") q.2.1 q.2.2.2.1 q.2.2.2.2.1 q.2.2.2.2.2.2 ∧ xvc xY P y.cls q.2 := by
  unfold xckE at h
  rw [Bool.and_eq_true, Bool.and_eq_true, Bool.and_eq_true] at h
  refine ⟨?_, xckt_ok h.1.1.2, xck1_ok h.1.2, xck2_ok h.2⟩
  have h1 := h.1.1.1
  split at h1
  · rename_i z hz
    simp only [Bool.and_eq_true, decide_eq_true_eq] at h1
    rw [hz, ← h1.1, ← h1.2]
  · cases h1
theorem xckL_ok {xY : Nat → MethodName} {P : Nat → Option xMe} {bs : ByteArray} {y : MethodName} : ∀ {l : List (Nat × xEn)} {hs : List (List Nat)}, xckL xY P bs y l hs = true → ∀ q ∈ l, decode bs q.1 = .ok (q.2.1, q.2.2.1) ∧ xbt q.2.1 q.2.2.2.1 q.1 ∧ xvh y.cls (y.name == "<init>") q.2.1 q.2.2.2.1 q.2.2.2.2.1 q.2.2.2.2.2.2 ∧ xvc xY P y.cls q.2
  | [], _, _, q, hq => by cases hq
  | a :: t, [], h, q, hq => by
    unfold xckL at h
    rw [Bool.and_eq_true] at h
    rcases List.mem_cons.mp hq with rfl | z
    · exact xckE_ok h.1
    · exact xckL_ok h.2 q z
  | a :: t, hs :: u, h, q, hq => by
    unfold xckL at h
    rw [Bool.and_eq_true] at h
    rcases List.mem_cons.mp hq with rfl | z
    · exact xckE_ok h.1
    · exact xckL_ok h.2 q z
/-- a piece of a method's table -/
def xckP (xY : Nat → MethodName) (P : Nat → Option xMe) (bs : ByteArray) (y : MethodName) (l : List (Nat × xEn)) (a n : Nat) (hs : List (List Nat)) : Bool := xckL xY P bs y ((l.drop a).take n) hs
/-- a method's table, checked: its own words; its entries come in pieces -/
def xckM (xY : Nat → MethodName) (xB : Nat → ByteArray) (m : Nat) (me : xMe) (hc : Nat) : Bool :=
  xhas (.code (xY m) (xB m) me.2.1 me.2.2) hc && plainFor (xY m) && decide ((xY m).cls ≠ "java/lang/invoke/MethodHandle" ∧ (xY m).cls ≠ "java/lang/invoke/VarHandle") && decide (me.2.1 ≤ 150)
theorem xck_cut {α : Type} {p : α → Prop} {l : List α} {a n : Nat} (h1 : ∀ q ∈ (l.drop a).take n, p q) (h2 : ∀ q ∈ l.drop (a + n), p q) : ∀ q ∈ l.drop a, p q := fun q hq => by
  rw [← List.take_append_drop n (l.drop a), List.drop_drop] at hq
  rcases List.mem_append.mp hq with z | z
  · exact h1 q z
  · exact h2 q z
theorem xck_end {α : Type} {p : α → Prop} {l : List α} {a : Nat} (h : l.length ≤ a) : ∀ q ∈ l.drop a, p q := fun q hq => by
  rw [List.drop_eq_nil_of_le h] at hq
  cases hq
theorem xckM_ok {xY : Nat → MethodName} {xB : Nat → ByteArray} {P : Nat → Option xMe} {m : Nat} {me : xMe} {hc : Nat} (h : xckM xY xB m me hc = true) (he : ∀ q ∈ me.1.drop 0, decode (xB m) q.1 = .ok (q.2.1, q.2.2.1) ∧ xbt q.2.1 q.2.2.2.1 q.1 ∧ xvh (xY m).cls ((xY m).name == "<init>") q.2.1 q.2.2.2.1 q.2.2.2.2.1 q.2.2.2.2.2.2 ∧ xvc xY P (xY m).cls q.2) : xVm xY xB P m me := by
  unfold xckM at h
  simp only [Bool.and_eq_true, decide_eq_true_eq] at h
  exact ⟨fun _ => xhas_in h.1.1.1, h.1.1.2, h.1.2, h.2, he⟩
