/-! ===== a row of rows of ints, made at once ===== -/
/-- the outer row when i inner ones lie behind it -/
def ymC (cA : ClassId) (N h0 i : Nat) : Cell := arrV cA N (fun j => if j < i then .ref (h0 + 1 + j) else .null)
def ymI (cI : ClassId) (M : Nat) : Cell := arrV cI M (fun _ => .int 0)
def ymF (s : State) (cA cI : ClassId) (N M : Nat) : Nat → State
  | 0 => s.pushCell (ymC cA N s.heap.size 0)
  | i + 1 => ((ymF s cA cI N M i).pushCell (ymI cI M)).setCell s.heap.size (ymC cA N s.heap.size (i + 1))
theorem ymC_set (cA : ClassId) (N h0 i : Nat) : (ymC cA N h0 i).setSlot i (.ref (h0 + 1 + i)) = ymC cA N h0 (i + 1) := by
  unfold ymC
  rw [arrV_store]
  congr 1
  funext j
  unfold updV
  by_cases hj : j = i
  · subst hj
    rw [if_pos rfl, if_pos (Nat.lt_succ_self j)]
  · rw [if_neg hj]
    dsimp only
    by_cases h2 : j < i
    · rw [if_pos h2, if_pos (by omega)]
    · rw [if_neg h2, if_neg (by omega)]
theorem ymF_at (s : State) (cA cI : ClassId) (N M : Nat) : ∀ i, (ymF s cA cI N M i).heap.size = s.heap.size + 1 + i ∧ (ymF s cA cI N M i).heap[s.heap.size]? = some (ymC cA N s.heap.size i) ∧ (ymF s cA cI N M i).vm = s.vm ∧ (ymF s cA cI N M i).slotsUsed = s.slotsUsed + N + i * M
  | 0 => ⟨by simp [ymF], by simp [ymF], rfl, by simp [ymF, ymC, arrV_size]⟩
  | i + 1 => by
    obtain ⟨a, b, c, u⟩ := ymF_at s cA cI N M i
    have b2 : ((ymF s cA cI N M i).pushCell (ymI cI M)).heap[s.heap.size]? = some (ymC cA N s.heap.size i) := by
      have hlt : s.heap.size < (ymF s cA cI N M i).heap.size := by omega
      rw [State.heap_pushCell_of_lt (h := hlt)]
      exact b
    refine ⟨?_, State.heap_setCell_self b2, by simp [ymF, c], ?_⟩
    · simp [ymF, State.setCell, a]
      omega
    · simp [ymF, u, ymI, arrV_size, Nat.succ_mul]
      omega
theorem ymF_top (s : State) (f : JFrame) (cA cI : ClassId) (N M : Nat) : ∀ i, ymF (s.setTop f) cA cI N M i = (ymF s cA cI N M i).setTop f
  | 0 => rfl
  | i + 1 => by simp only [ymF, ymF_top s f cA cI N M i, State.heap_setTop, State.pushCell_setTop, State.setCell_setTop]
theorem ymF_old (s : State) (cA cI : ClassId) (N M : Nat) {a : Addr} (ha : a < s.heap.size) : ∀ i, (ymF s cA cI N M i).heap[a]? = s.heap[a]?
  | 0 => State.heap_pushCell_of_lt _ _ ha
  | i + 1 => by
    have q := (ymF_at s cA cI N M i).1
    show (((ymF s cA cI N M i).pushCell (ymI cI M)).setCell s.heap.size _).heap[a]? = _
    have hlt : a < (ymF s cA cI N M i).heap.size := Nat.lt_of_lt_of_le ha (by rw [q]; omega)
    rw [State.heap_setCell_other (Nat.ne_of_gt ha), State.heap_pushCell_of_lt (h := hlt)]
    exact ymF_old s cA cI N M ha i
theorem ymF_in (s : State) (cA cI : ClassId) (N M : Nat) : ∀ i j, j < i → (ymF s cA cI N M i).heap[s.heap.size + 1 + j]? = some (ymI cI M)
  | 0, _, h => absurd h (Nat.not_lt_zero _)
  | i + 1, j, h => by
    have q := (ymF_at s cA cI N M i).1
    show (((ymF s cA cI N M i).pushCell (ymI cI M)).setCell s.heap.size _).heap[s.heap.size + 1 + j]? = _
    rw [State.heap_setCell_other (show s.heap.size ≠ s.heap.size + 1 + j by omega)]
    by_cases hj : j < i
    · have hlt : s.heap.size + 1 + j < (ymF s cA cI N M i).heap.size := by omega
      rw [State.heap_pushCell_of_lt (h := hlt)]
      exact ymF_in s cA cI N M i j hj
    · have e : j = i := by omega
      subst e
      rw [← q]
      exact State.heap_pushCell_size _ _
section YMS
variable {p : Program} {l : Launch} {e : Env} {R : Room} {s : State} {m : MethodId} {args : Array Value} {below : List Frame} {meth : Method} {c : Code} {T : State} {locs : List Loc} {cells slots : Nat}
theorem ymF_stand (X : Stand p l e R s m args below meth c T locs cells slots) (cA cI : ClassId) (N M : Nat) : ∀ i, Stand p l e R s m args below meth c (ymF T cA cI N M i) (locs ++ (List.range i).map fun j => ⟨T.heap.size, j⟩) (cells + 1 + i) (slots + N + i * M)
  | 0 => by
    have h := X.pushed (ymC cA N T.heap.size 0)
    rw [show (ymC cA N T.heap.size 0).slots.size = N from arrV_size ..] at h
    simpa [ymF] using h
  | i + 1 => by
    have Xi := ymF_stand X cA cI N M i
    obtain ⟨f1, f2, -, -⟩ := ymF_at T cA cI N M i
    have hc : ((ymF T cA cI N M i).pushCell (ymI cI M)).heap[T.heap.size]? = some (ymC cA N T.heap.size i) := by
      have hlt : T.heap.size < (ymF T cA cI N M i).heap.size := by omega
      rw [State.heap_pushCell_of_lt (h := hlt)]
      exact f2
    have h := (Xi.pushed (ymI cI M)).stored hc i (.ref (T.heap.size + 1 + i))
    rw [show (ymI cI M).slots.size = M from arrV_size .., ymC_set] at h
    have e2 : (locs ++ (List.range (i + 1)).map fun j => (⟨T.heap.size, j⟩ : Loc)) = (locs ++ (List.range i).map fun j => (⟨T.heap.size, j⟩ : Loc)) ++ [⟨T.heap.size, i⟩] := by simp [List.range_succ, List.append_assoc]
    have e3 : slots + N + (i + 1) * M = slots + N + i * M + M := by rw [Nat.succ_mul]; omega
    rw [e2, e3]
    exact h
end YMS
section YMW
variable {E : CtlPost} {e : Env} {d : Bool} {acts : List Action} {s : State}
theorem ym_new {cA comp : ClassId} {k : Class} {type : FieldType} {len : Nat} {init : Value} (hk : s.vm.classes[cA]? = some k) (hkind : k.kind = .array comp type)
    (hl : ¬ len > e.platform.arrayLengthLimit) (hh : ¬ len * componentBytes type > e.platform.maxHeapBytes) (hfit : fits type init = true) (hdef : init.isDefault = true) {Q : Addr → Pre}
    (h1 : s.heap.size < e.platform.maxCells) (h2 : s.slotsUsed + len ≤ e.platform.maxSlots) (hq : Q s.heap.size d acts (s.pushCell (arrV cA len (fun _ => init)))) : wp (Jvm.newArray cA len init) Q E e d acts s := by
  have hfits : ∀ i v, (Array.replicate len init)[i]? = some v → s.fitsSlot cA .none i v = true := by
    intro i v hv
    rw [Array.getElem?_replicate] at hv
    split at hv
    · cases hv
      simp [State.fitsSlot, State.slotType?, hk, hkind, hfit]
    · cases hv
  have hda : allocActs (Array.replicate len init) s.heap.size acts = acts := by
    have hall : ((Array.replicate len init).all (·.isDefault)) = true := by
      rw [Array.all_replicate]
      split <;> simp [hdef]
    unfold allocActs
    rw [if_pos hall]
  rw [← arrV_new] at hq
  simp only [Jvm.newArray, Jvm.arrayFits, wp_bind', W.ask, W.ite, hl, if_false, wp_pure', W.theClass, hk, hkind, hh, W.alloc, W.stop, Option.some.injEq, exists_eq_left', Array.size_replicate, hda]
  rw [if_neg (by omega)]
  exact ⟨h1, h2, hfits, hq⟩
theorem ym_ref {t : FieldType} (h : t.isReference = true) (v : Value) (hv : v = .null ∨ ∃ a, v = .ref a) : fits t v = true := by
  rcases hv with rfl | ⟨a, rfl⟩ <;> cases t <;> simp [FieldType.isReference] at h <;> rfl
theorem ym_one {comp cc : ClassId} {kc : Class} {m : Int32} (hkc : s.vm.classes[comp]? = some kc) (hkind : kc.kind = .array cc .int) (hm : ¬ m < 0)
    (hl : ¬ m.toNatClampNeg > e.platform.arrayLengthLimit) (hh : ¬ m.toNatClampNeg * componentBytes .int > e.platform.maxHeapBytes)
    (h1 : s.heap.size < e.platform.maxCells) (h2 : s.slotsUsed + m.toNatClampNeg ≤ e.platform.maxSlots) {Q : Addr → Pre} (hq : Q s.heap.size d acts (s.pushCell (ymI comp m.toNatClampNeg))) : wp (multianewarray.make comp [m]) Q E e d acts s := by
  rw [multianewarray.make]
  simp only [wp_bind', W.ite, hm, if_false, wp_pure', W.theClass, hkc, hkind, Option.some.injEq, exists_eq_left']
  exact ym_new hkc hkind hl hh rfl rfl h1 h2 hq
theorem ym_two {cA comp cc : ClassId} {k kc : Class} {n m : Int32} (hk : s.vm.classes[cA]? = some k) (hkind : k.kind = .array comp (.array .int)) (hkc : s.vm.classes[comp]? = some kc) (hkindc : kc.kind = .array cc .int) (hn : ¬ n < 0) (hm : ¬ m < 0)
    (hl1 : ¬ n.toNatClampNeg > e.platform.arrayLengthLimit) (hh1 : ¬ n.toNatClampNeg * componentBytes (.array .int) > e.platform.maxHeapBytes) (hl2 : ¬ m.toNatClampNeg > e.platform.arrayLengthLimit) (hh2 : ¬ m.toNatClampNeg * componentBytes .int > e.platform.maxHeapBytes)
    (hc : s.heap.size + 1 + n.toNatClampNeg ≤ e.platform.maxCells) (hs : s.slotsUsed + n.toNatClampNeg + n.toNatClampNeg * m.toNatClampNeg ≤ e.platform.maxSlots)
    {Q : Addr → Pre} (hq : ∀ d' acts', Q s.heap.size d' acts' (ymF s cA comp n.toNatClampNeg m.toNatClampNeg n.toNatClampNeg)) : wp (multianewarray.make cA [n, m]) Q E e d acts s := by
  have hfind : ([m].find? (· < 0)) = none := by simp [hm]
  have e0 : arrV cA n.toNatClampNeg (fun _ => Value.null) = ymC cA n.toNatClampNeg s.heap.size 0 := by
    unfold ymC
    congr 1
  rw [multianewarray.make]
  simp only [wp_bind', W.ite, hn, if_false, wp_pure', W.theClass, hk, hkind, Option.some.injEq, exists_eq_left']
  refine ym_new hk hkind hl1 hh1 (ym_ref rfl _ (Or.inl rfl)) rfl (by omega) (by have := Nat.zero_le (n.toNatClampNeg * m.toNatClampNeg); omega) ?_
  rw [e0]
  simp only [hfind]
  rw [ite_self, wp_bind', Std.Legacy.Range.forIn_eq_forIn_range']
  have hsz : ([:n.toNatClampNeg] : Std.Legacy.Range).size = n.toNatClampNeg := by simp [Std.Legacy.Range.size]
  rw [hsz]
  show wp (forIn (List.range' 0 n.toNatClampNeg 1) PUnit.unit _) _ E e d acts _
  refine wp_forIn_inv (fun rest s' => ∃ i, i ≤ n.toNatClampNeg ∧ rest = List.range' i (n.toNatClampNeg - i) ∧ s' = ymF s cA comp n.toNatClampNeg m.toNatClampNeg i) _ _ ⟨0, Nat.zero_le _, rfl, rfl⟩ ?_ ?_
  · rintro x rest s' d' acts' Q' ⟨i, hi, hl, rfl⟩ hnext
    have hlt : i < n.toNatClampNeg := by
      by_cases h : i < n.toNatClampNeg
      · exact h
      · rw [show n.toNatClampNeg - i = 0 by omega] at hl
        simp at hl
    obtain ⟨rfl, hrest⟩ : x = i ∧ rest = List.range' (i + 1) (n.toNatClampNeg - (i + 1)) := by
      rw [show n.toNatClampNeg - i = (n.toNatClampNeg - (i + 1)) + 1 by omega, List.range'_succ] at hl
      exact ⟨(List.cons.inj hl).1, (List.cons.inj hl).2⟩
    obtain ⟨f1, f2, f3, f4⟩ := ymF_at s cA comp n.toNatClampNeg m.toNatClampNeg x
    have hmul : x * m.toNatClampNeg + m.toNatClampNeg ≤ n.toNatClampNeg * m.toNatClampNeg := by
      have := Nat.mul_le_mul_right m.toNatClampNeg (show x + 1 ≤ n.toNatClampNeg from hlt)
      rw [Nat.succ_mul] at this
      exact this
    simp only [wp_bind']
    refine ym_one (by rw [f3]; exact hkc) hkindc hm hl2 hh2 (by rw [f1]; omega) (by rw [f4]; omega) ?_
    have hlt0 : s.heap.size < (ymF s cA comp n.toNatClampNeg m.toNatClampNeg x).heap.size := by rw [f1]; omega
    simp only [wp_bind', W.writeLoc, wp_pure']
    refine ⟨ymC cA n.toNatClampNeg s.heap.size x, by rw [State.heap_pushCell_of_lt (h := hlt0)]; exact f2, by simp [ymC, arrV], by rw [show (ymC cA n.toNatClampNeg s.heap.size x).slots.size = n.toNatClampNeg from arrV_size ..]; exact hlt, ?_, hnext _ _ _ ⟨x + 1, hlt, hrest, ?_⟩⟩
    · show (State.fitsSlot _ cA .none x _) = true
      simp [State.fitsSlot, State.slotType?, f3, hk, hkind, ym_ref (t := .array .int) rfl _ (Or.inr ⟨_, rfl⟩)]
    · show _ = ((ymF s cA comp n.toNatClampNeg m.toNatClampNeg x).pushCell (ymI comp m.toNatClampNeg)).setCell s.heap.size (ymC cA n.toNatClampNeg s.heap.size (x + 1))
      rw [← ymC_set, f1]
  · rintro s' d' acts' ⟨i, hi, hl, rfl⟩
    have hiN : i = n.toNatClampNeg := by
      by_cases h : i < n.toNatClampNeg
      · rw [show n.toNatClampNeg - i = (n.toNatClampNeg - (i + 1)) + 1 by omega, List.range'_succ] at hl
        cases hl
      · omega
    subst hiN
    simp only [wp_pure']
    exact hq _ _
end YMW
/-- the picture's heap behind it -/
def xmk (h : Nat × Nat × (Nat → va_E)) (n k : Nat) : Nat × Nat × (Nat → va_E) := (h.1 + (1 + n), h.2.1 + (n + n * k), fun j => if j = h.1 then .inl (5, n, .inr (.inr (.inr (.inr (fun i => if i < n then some (h.1 + 1 + i) else none))))) else if h.1 < j ∧ j < h.1 + (1 + n) then .inl (0, k, .inl (fun _ => 0)) else h.2.2 j)
section YMR
variable {p : Program} {l : Launch} {e : Env} {R : Room} {s : State} {m : MethodId} {args : Array Value} {below : List Frame} {meth : Method} {c : Code} {H : Heap} {locs : List Loc} {cells slots : Nat} {Q : State → Prop}
variable {cc : ByteArray} {pc : Nat} {ls : Array Slot} {rest : List Value} {Ts : List Jvm.Cond} {own : String}
variable {B : Nat} {ad : Nat → Nat} {dA : Nat → ClassId} {D : va_G} {H0 : Heap} {h : Nat × Nat × (Nat → va_E)} {O : Nat → Option va_E}
theorem XR.mk2 (XRh : XR B ad dA D H0 h H) (n k : Nat) (hl : h.1 + (1 + n) < 1000000000) {H1 : Heap} (z : H1.size = H.size + (1 + n)) (oq : ∀ q : Nat, q < H.size → H1[q]? = H[q]?) (e0 : H1[H.size]? = some (ymC (dA 5) n H.size n)) (e1 : ∀ j, j < n → H1[H.size + 1 + j]? = some (ymI (dA 0) k)) : XR B ad dA D H0 (xmk h n k) H1 := by
  obtain ⟨r1, r2, r3, r4, r5⟩ := XRh
  refine ⟨hl, r2, ?_, fun q hq => (oq q (by omega)).trans (r4 q hq), fun j hj => ?_⟩
  · show H1.size = B + (h.1 + (1 + n))
    omega
  have hj' : j < h.1 + (1 + n) := hj
  unfold xmk
  dsimp only
  by_cases c1 : j = h.1
  · subst c1
    rw [if_pos rfl, ← r3]
    show H1[H.size]? = some (vp_cell _ _)
    rw [e0, vp_cell_q]
    unfold ymC
    congr 2
    funext i
    by_cases hi : i < n
    · rw [if_pos hi]
      dsimp only
      rw [if_pos hi]
      show _ = Value.ref (xr B ad (h.1 + 1 + i))
      rw [xr_new (by omega)]
      exact congrArg Value.ref (show (H.size + 1 + i : Nat) = B + (h.1 + 1 + i) by omega)
    · rw [if_neg hi]
      dsimp only
      rw [if_neg hi]
      rfl
  · rw [if_neg c1]
    by_cases c2 : h.1 < j ∧ j < h.1 + (1 + n)
    · rw [if_pos c2]
      have q := e1 (j - h.1 - 1) (by omega)
      rw [show H.size + 1 + (j - h.1 - 1) = B + j by omega] at q
      show H1[B + j]? = some (vp_cell _ _)
      rw [q]
      rfl
    · rw [if_neg c2]
      exact (r5 j (by omega)).kept (oq (B + j) (by omega))
theorem xr_mm (hx : p.tables.exec = Jvm.exec) (hb : c.code = cc) (hts : ∀ w ∈ Ts, w.before args s = true) (hown : s.vm.findClass own = some m.cls) (hK : va_K D vwCl (xtys dA) s) (XRh : XR B ad dA D H0 h H) (hlocs : ∀ q ∈ locs, B ≤ q.base) {index : Nat} (hcl : Jvm.Cond.classLink own index "[[I" ∈ Ts) (hover : (Jvm.Cond.arrayOver (.array .int)).before args s = true) (harr : (Jvm.Cond.arrayClass .int).before args s = true)
    {n k : Int32} (hn : ¬ n < 0) (hk : ¬ k < 0) (hb1 : n.toNatClampNeg * 4 ≤ 536870912) (hb2 : k.toNatClampNeg * 4 ≤ 536870912) (hl : h.1 + (1 + n.toNatClampNeg) < 1000000000) (hcells : cells + (1 + n.toNatClampNeg) ≤ R.cells) (hslots : slots + (n.toNatClampNeg + n.toNatClampNeg * k.toNatClampNeg) ≤ R.slots) (hdg : decode cc pc = .ok (.multianewarray index 2, 4))
    (kk : ∀ (H1 : Heap) (locs1 : List Loc), XR B ad dA D H0 (xmk h n.toNatClampNeg k.toNatClampNeg) H1 → (∀ q ∈ locs1, B ≤ q.base) → W p l e R s m args below meth c H1 locs1 (cells + (1 + n.toNatClampNeg)) (slots + (n.toNatClampNeg + n.toNatClampNeg * k.toNatClampNeg)) Q (F0 m (pc + 4) ls (.ref (xr B ad h.1) :: rest))) : W p l e R s m args below meth c H locs cells slots Q (F0 m pc ls (.int k :: .int n :: rest)) := by
  intro T hT X
  subst hT; subst hb
  have hpl : e.platform.magicAccessors = ({} : Platform).magicAccessors := by rw [X.admits.platform]
  obtain ⟨comp, cA, kA, hcomp, -, hkA, hkindA, hnameA⟩ := arrayOverA_spec hover
  obtain ⟨comp', kC, cc', hcomp', hkC, hkindC⟩ := Cond.arrayClass_spec harr
  have ecomp : comp' = comp := Option.some.inj (hcomp'.symm.trans hcomp)
  subst ecomp
  have hd0 : comp' = dA 0 := Option.some.inj (hcomp'.symm.trans (hK.2 0 _ (xtys_at dA (by omega))).2)
  have hd5 : cA = dA 5 := Option.some.inj (hnameA.symm.trans (hK.2 5 _ (xtys_at dA (by omega))).2)
  obtain ⟨c0, hfc0, hlk⟩ := Cond.classLink_spec hown (hts _ hcl) e.platform hpl
  cases hnameA.symm.trans hfc0
  obtain ⟨hg₁, hwarm₁, hready₁⟩ := State.classEntry (e := e) X.warmed hlk
  generalize T.vm.noted m.cls index (.cls cA) = vm₁ at hg₁ hwarm₁ hready₁
  have hal : s.vm.Alike vm₁ := hwarm₁.alike
  obtain ⟨kA₁, hkA₁, heA⟩ := hal.2.2 _ _ hkA
  obtain ⟨kC₁, hkC₁, heC⟩ := hal.2.2 _ _ hkC
  have hkindA₁ : kA₁.kind = .array comp' (.array .int) := by rw [heA]; exact hkindA
  have hkindC₁ : kC₁.kind = .array cc' .int := by rw [heC]; exact hkindC
  have X₁ := X.noted hwarm₁
  obtain ⟨hr1, hr2⟩ := X.roomAbove hcells hslots
  have hl1 : ¬ n.toNatClampNeg > e.platform.arrayLengthLimit := by rw [Launch.admits_arrayLengthLimit X.admits]; omega
  have hh1 : ¬ n.toNatClampNeg * componentBytes (.array .int) > e.platform.maxHeapBytes := by
    rw [Launch.admits_maxHeapBytes X.admits]; show ¬ n.toNatClampNeg * 4 > 536870912; omega
  have hl2 : ¬ k.toNatClampNeg > e.platform.arrayLengthLimit := by rw [Launch.admits_arrayLengthLimit X.admits]; omega
  have hh2 : ¬ k.toNatClampNeg * componentBytes .int > e.platform.maxHeapBytes := by
    rw [Launch.admits_maxHeapBytes X.admits]; show ¬ k.toNatClampNeg * 4 > 536870912; omega
  have XF := ymF_stand X₁ cA comp' n.toNatClampNeg k.toNatClampNeg n.toNatClampNeg
  obtain ⟨f1, f2, -, -⟩ := ymF_at (T.setVm vm₁) cA comp' n.toNatClampNeg k.toNatClampNeg n.toNatClampNeg
  have f3 := fun j hj => ymF_in (T.setVm vm₁) cA comp' n.toNatClampNeg k.toNatClampNeg n.toNatClampNeg j hj
  have f4 := fun a ha => ymF_old (T.setVm vm₁) cA comp' n.toNatClampNeg k.toNatClampNeg (a := a) ha n.toNatClampNeg
  subst hd0 hd5
  have hsz : (T.setVm vm₁).heap.size = T.heap.size := rfl
  rw [hsz] at f1 f2 f3 f4 XF
  have hxr : xr B ad h.1 = T.heap.size := by rw [xr_new (by omega), XRh.2.2.1]
  rw [show cells + 1 + n.toNatClampNeg = cells + (1 + n.toNatClampNeg) by omega, show slots + n.toNatClampNeg + n.toNatClampNeg * k.toNatClampNeg = slots + (n.toNatClampNeg + n.toNatClampNeg * k.toNatClampNeg) by omega] at XF
  obtain ⟨t, a1, b1⟩ := kk _ _ (XRh.mk2 n.toNatClampNeg k.toNatClampNeg hl (H1 := (ymF (T.setVm vm₁) (dA 5) (dA 0) n.toNatClampNeg k.toNatClampNeg n.toNatClampNeg).heap) (by rw [f1]; omega) (fun q hq => f4 q hq) f2 f3) (fun q hq => by
    rcases List.mem_append.mp hq with z | z
    · exact hlocs q z
    · obtain ⟨j, -, rfl⟩ := List.mem_map.mp z
      show B ≤ T.heap.size
      rw [XRh.2.2.1]
      omega) _ rfl XF
  refine ⟨t, ?_, b1⟩
  rw [hxr] at a1
  jvm_step X.here [hx, hdg]
  simp only [multianewarray.sem, wp_bind', W.resolveClassAt_links (State.method?_setTop (F0 m pc ls (.int k :: .int n :: rest)) X.here.top) hg₁]
  rw [W.popN, if_neg (by decide)]
  refine ⟨F0 m pc ls (.int k :: .int n :: rest), State.topJava?_setTop' (s := T.setVm vm₁) _ X.here.top, [.int n, .int k], rest, rfl, rfl, ?_⟩
  simp only [List.mapM_cons, List.mapM_nil, wp_bind', wp_pure']
  refine ym_two (k := kA₁) (kc := kC₁) (comp := dA 0) (cc := cc') hkA₁ hkindA₁ hkC₁ hkindC₁ hn hk hl1 hh1 hl2 hh2 (by show T.heap.size + 1 + _ ≤ _; omega) (by show T.slotsUsed + _ + _ ≤ _; omega) (fun d' acts' => ?_)
  have eS : ((T.setTop (F0 m pc ls (.int k :: .int n :: rest))).setVm vm₁).setTop (F0 m pc ls rest) = (T.setVm vm₁).setTop (F0 m pc ls rest) := by
    show ((T.setVm vm₁).setTop (F0 m pc ls (.int k :: .int n :: rest))).setTop _ = _
    rw [State.setTop_setTop]
  rw [eS, ymF_top]
  simp only [wp_bind', W.mark, W.pushRef, State.topJava?_setTop' _ XF.here.top, Option.some.injEq, exists_eq_left', State.setTop_setTop, State.heap_setTop]
  intro acts
  simp [jvm, XF.here.top]
  exact a1
theorem xr_mkr (hx : p.tables.exec = Jvm.exec) (hb : c.code = cc) (hts : ∀ w ∈ Ts, w.before args s = true) (hown : s.vm.findClass own = some m.cls) (hK : va_K D vwCl (xtys dA) s) (XRh : XR B ad dA D H0 h H) {index : Nat} (hcl : Jvm.Cond.classLink own index "[I" ∈ Ts) (hover : (Jvm.Cond.arrayOver (.array .int)).before args s = true)
    {n : Int32} (hn : ¬ n < 0) (hbytes : n.toNatClampNeg * 4 ≤ 536870912) (hl : h.1 + 1 < 1000000000) (hcells : cells + 1 ≤ R.cells) (hslots : slots + n.toNatClampNeg ≤ R.slots) (hdg : decode cc pc = .ok (.anewarray index, 3))
    (kk : ∀ (H1 : Heap), XR B ad dA D H0 (xnw h n.toNatClampNeg (.inl (5, n.toNatClampNeg, .inr (.inr (.inr (.inr (fun _ => none))))))) H1 → W p l e R s m args below meth c H1 locs (cells + 1) (slots + n.toNatClampNeg) Q (F0 m (pc + 3) ls (.ref (xr B ad h.1) :: rest))) : W p l e R s m args below meth c H locs cells slots Q (F0 m pc ls (.int n :: rest)) := by
  refine W.anewA (t := .int) hx hb hown (hts _ hcl) hover rfl hdg rfl hn hbytes hcells hslots fun cA kA comp f1 f2 f3 f4 => ?_
  have hcA : cA = dA 5 := Option.some.inj (f1.symm.trans (hK.2 5 _ (xtys_at dA (by omega))).2)
  subst hcA
  have z1 : (H.push ({ cls := dA 5, slots := Array.replicate n.toNatClampNeg .null, vm := .none } : Cell)).size = H.size + 1 := Array.size_push ..
  have h4 := kk _ (XRh.nw n.toNatClampNeg hl (show va_at D vwCl (H.size, xc B ad dA (.inl (5, n.toNatClampNeg, .inr (.inr (.inr (.inr (fun _ => none))))))) (H.push ({ cls := dA 5, slots := Array.replicate n.toNatClampNeg .null, vm := .none } : Cell)) from by
    show (H.push _)[H.size]? = some (vp_cell _ _)
    rw [Array.getElem?_push_size, vp_cell_q, ← arrV_new]
    rfl) z1 (fun q hq => by rw [Array.getElem?_push, if_neg (Nat.ne_of_lt hq)]))
  rw [xr_new (by omega), ← XRh.2.2.1] at h4
  exact h4
end YMR
