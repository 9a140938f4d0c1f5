/-! ===== clone of a row of bytes, over the picture ===== -/
section XCN
variable {p : Program} {l : Launch} {e : Env} {R : Room} {s : State} {m : MethodId} {args : Array Value} {below : List Frame} {meth : Method} {c : Code} {H : Heap} {locs : List Loc} {cells slots : Nat} {Q : State → Prop}
variable {cc : ByteArray} {pc : Nat} {ls : Array Slot} {rest : List Value} {own : String}
variable {B : Nat} {ad : Nat → Nat} {dA : Nat → ClassId} {D : va_G} {H0 : Heap} {h : Nat × Nat × (Nat → va_E)}
theorem xr_cln (hx : p.tables.exec = Jvm.exec) (hb : c.code = cc) (hml : c.maxLocals = ls.size) {index : Nat} (hown : s.vm.findClass own = some m.cls)
    (hlink : (Jvm.Cond.methodLink own index ⟨"[B", "clone", "()Ljava/lang/Object;"⟩).before args s = true) (hsame : (Jvm.Cond.sameMethod "[B" "java/lang/Object" "clone" "()Ljava/lang/Object;").before args s = true)
    (hnat : (Jvm.Cond.native ⟨"java/lang/Object", "clone", "()Ljava/lang/Object;"⟩).before args s = true) (hinst : (Jvm.Cond.instanceMethod ⟨"java/lang/Object", "clone", "()Ljava/lang/Object;"⟩).before args s = true)
    (hsel : (Jvm.Cond.selects "[B" ⟨"[B", "clone", "()Ljava/lang/Object;"⟩ ⟨"java/lang/Object", "clone", "()Ljava/lang/Object;"⟩).before args s = true) (hcl : va_Nw (.castable "[B" "java/lang/Cloneable") s)
    (hK : va_K D vwCl (xtys dA) s) (XRh : XR B ad dA D H0 h H) {k n : Nat} {f : Nat → Int32} (k1 : k < 1000000000) (k2 : k < h.1) (hk : h.2.2 k = .inl (3, n, .inl f)) (hf : ∀ i, i < n → xfit .byte (.int (f i)) = true)
    (hframes : 1 ≤ R.frames) (hlocals : (rest.map fun v => v.category).sum + 14 ≤ R.locals) (hl : h.1 + 1 < 1000000000) (hcells : cells + 1 ≤ R.cells) (hslots : slots + n ≤ R.slots) (hdg : decode cc pc = .ok (.invokevirtual index, 3))
    (kk : ∀ H1 : Heap, XR B ad dA D H0 (xnw h n (.inl (3, n, .inl f))) H1 → W p l e R s m args below meth c H1 locs (cells + 1) (slots + n) Q (F0 m (pc + 3) ls (.ref (xr B ad h.1) :: rest))) : W p l e R s m args below meth c H locs cells slots Q (F0 m pc ls (.ref (xr B ad k) :: rest)) := by
  have hat := XRh.2.2.2.2 k k2
  rw [hk] at hat
  have hnm : s.vm.findClass "[B" = some (dA 3) := (hK.2 3 _ (xtys_at dA (by omega))).2
  obtain ⟨c0, t0', f1, f2, f3⟩ := Cond.castable_spec (va_Nw.use (A := args) rfl hcl)
  cases hnm.symm.trans f1
  have hsz : (vp_cell (dA 3) (n, .inl f)).slots.size = n := arrV_size _ _ _
  intro T hT X
  have hcellT : T.heap[B + k]? = some (vp_cell (dA 3) (n, .inl f)) := by rw [hT]; exact hat
  have hA3 := (hK.2 3 _ (xtys_at dA (by omega))).1
  obtain ⟨-, kA, hkA, comp, hkind⟩ := State.isArrayOf_alike X.warmed.alike (hA3 0 (fun _ => .null))
  obtain ⟨-, kS, hkS, compS, hkindS⟩ := hA3 0 (fun _ => .null)
  rw [xr_new k1]
  obtain ⟨vm', X', st⟩ := X.cloneArray hx hown hlink hsame hnat hinst hsel (a := B + k) (cell := vp_cell (dA 3) (n, .inl f)) hcellT (fun q z => by cases z) (fun z => by cases z) hnm f2 f3
    (fun i v hv => by
      have hk' : T.vm.classes[dA 3]? = some kA := hkA
      have hfv : fits .byte v = true := va_fit (F := fun i => .int (f i)) (fun i hi => xfit_nar _ _ (hf i hi)) i v hv
      show State.fitsSlot T (dA 3) .none i v = true
      have hkind3 : kA.kind = .array comp .byte := hkind
      simpa [State.fitsSlot, State.slotType?, hk', hkind3] using hfv)
    (g := F0 m pc ls (.ref (B + k) :: rest)) rfl (by rw [hml]) rfl (by rw [hb]; exact hdg) hframes (by show 2 * 0 + _ + 14 ≤ _; omega) hcells (by rw [hsz]; exact hslots) (hloader := Vm.clonesLoader_of_array hkS hkindS)
  rw [hsz] at X'
  have z1 : (H.push (vp_cell (dA 3) (n, .inl f))).size = H.size + 1 := Array.size_push ..
  obtain ⟨t, b1, b2⟩ := kk (H.push (vp_cell (dA 3) (n, .inl f))) (XRh.nw n hl (show va_at D vwCl (H.size, xc B ad dA (.inl (3, n, .inl f))) _ from by
    show (H.push _)[H.size]? = some (vp_cell _ _)
    rw [Array.getElem?_push_size]) z1 (fun q hq => by rw [Array.getElem?_push, if_neg (Nat.ne_of_lt hq)])) ((T.setVm vm').pushCell (vp_cell (dA 3) (n, .inl f))) (by rw [← hT]; rfl) X'
  refine ⟨t, st t ?_, b2⟩
  rw [xr_new (by omega), ← XRh.2.2.1] at b1
  rw [hT]
  exact b1
end XCN
