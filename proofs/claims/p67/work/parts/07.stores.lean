/-! ===== rows of the heap: stores into rows, and what is made ===== -/
section XST
variable {p : Program} {l : Launch} {e : Env} {R : Room} {s : State} {m : MethodId} {args : Array Value} {below : List Frame} {meth : Method} {c : Code} {H : Heap} {locs : List Loc} {cells slots : Nat} {Q : State → Prop}
variable {cc : ByteArray} {pc : Nat} {ls : Array Slot} {rest : List Value} {Ts : List Jvm.Cond} {own : String}
variable {B : Nat} {ad : Nat → Nat} {dA : Nat → ClassId} {D : va_G} {H0 : Heap} {h : Nat × Nat × (Nat → va_E)} {O : Nat → Option va_E}
theorem xl_put {a k : Nat} (hlocs : ∀ q ∈ locs, B ≤ q.base) (ha : B ≤ a) : ∀ q ∈ locs ++ [(⟨a, k⟩ : Loc)], B ≤ q.base := fun q hq => by
  rcases List.mem_append.mp hq with z | z
  · exact hlocs q z
  · rw [List.mem_singleton.mp z]
    exact ha
/-- a row of ints of the picture, as the machine's cell -/
theorem xr_cell (XRh : XR B ad dA D H0 h H) {k t n : Nat} {f : Nat → Int32} (hk1 : k < 1000000000) (hk2 : k < h.1) (hk : h.2.2 k = .inl (t, n, .inl f)) : H[xr B ad k]? = some (arrV (dA t) n (fun j => .int (f j))) := by
  have h3 := XRh.2.2.2.2 k hk2
  rw [hk] at h3
  rw [xr_new hk1]
  exact h3
theorem xr_iast (hx : p.tables.exec = Jvm.exec) (hb : c.code = cc) (hK : va_K D vwCl (xtys dA) s) (XRh : XR B ad dA D H0 h H) (hlocs : ∀ q ∈ locs, B ≤ q.base) {k n : Nat} {f : Nat → Int32} (hk1 : k < 1000000000) (hk2 : k < h.1) (hk : h.2.2 k = .inl (0, n, .inl f)) {i x : Int32} (hi : ¬ (i < 0 ∨ n ≤ i.toNatClampNeg)) (hdg : decode cc pc = .ok (.iastore, 1))
    (kk : ∀ (H1 : Heap) (locs1 : List Loc), XR B ad dA D H0 (xup h k (.inl (0, n, .inl (upd f i.toNatClampNeg x)))) H1 → (∀ q ∈ locs1, B ≤ q.base) → W p l e R s m args below meth c H1 locs1 cells slots Q (F0 m (pc + 1) ls rest)) : W p l e R s m args below meth c H locs cells slots Q (F0 m pc ls (.int x :: .int i :: .ref (xr B ad k) :: rest)) := by
  have h3 := xr_cell XRh hk1 hk2 hk
  refine W.iast hx hb h3 ((hK.2 0 _ (xtys_at dA (by decide))).1 n (fun j => .int (f j))) (fun q => by cases q) (by rw [arrV_size]; exact hi) rfl rfl hdg fun H1 e z oq => ?_
  rw [xr_new hk1] at e oq ⊢
  refine kk H1 _ (XRh.up hk2 ?_ z oq) (xl_put hlocs (Nat.le_add_right _ _))
  show H1[B + k]? = some (vp_cell _ _)
  rw [e, vp_cell_i, arrV_store]
  congr 2
  funext q
  by_cases hq : q = i.toNatClampNeg
  · subst hq
    simp [updV, upd]
  · simp [updV, upd, hq]
theorem xr_bast (hx : p.tables.exec = Jvm.exec) (hb : c.code = cc) (hK : va_K D vwCl (xtys dA) s) (XRh : XR B ad dA D H0 h H) (hlocs : ∀ q ∈ locs, B ≤ q.base) {k n : Nat} {f : Nat → Int32} (hk1 : k < 1000000000) (hk2 : k < h.1) (hk : h.2.2 k = .inl (3, n, .inl f)) {i x : Int32} (hi : ¬ (i < 0 ∨ n ≤ i.toNatClampNeg)) (hdg : decode cc pc = .ok (.bastore, 1))
    (kk : ∀ (H1 : Heap) (locs1 : List Loc), XR B ad dA D H0 (xup h k (.inl (3, n, .inl (upd f i.toNatClampNeg (vp_nar .byte x))))) H1 → (∀ q ∈ locs1, B ≤ q.base) → W p l e R s m args below meth c H1 locs1 cells slots Q (F0 m (pc + 1) ls rest)) : W p l e R s m args below meth c H locs cells slots Q (F0 m pc ls (.int x :: .int i :: .ref (xr B ad k) :: rest)) := by
  have h3 := xr_cell XRh hk1 hk2 hk
  refine W.bast hx hb h3 ((hK.2 3 _ (xtys_at dA (by decide))).1 n (fun j => .int (f j))) (fun q => by cases q) (by rw [arrV_size]; exact hi) rfl rfl hdg fun H1 e z oq => ?_
  rw [xr_new hk1] at e oq ⊢
  refine kk H1 _ (XRh.up hk2 ?_ z oq) (xl_put hlocs (Nat.le_add_right _ _))
  show H1[B + k]? = some (vp_cell _ _)
  rw [e, vp_cell_i, arrV_store]
  congr 2
  funext q
  by_cases hq : q = i.toNatClampNeg
  · subst hq
    simp [updV, upd, vp_nar, narrow]
  · simp [updV, upd, hq]
theorem xr_zast (hx : p.tables.exec = Jvm.exec) (hb : c.code = cc) (hK : va_K D vwCl (xtys dA) s) (XRh : XR B ad dA D H0 h H) (hlocs : ∀ q ∈ locs, B ≤ q.base) {k n : Nat} {f : Nat → Int32} (hk1 : k < 1000000000) (hk2 : k < h.1) (hk : h.2.2 k = .inl (2, n, .inl f)) {i x : Int32} (hi : ¬ (i < 0 ∨ n ≤ i.toNatClampNeg)) (hdg : decode cc pc = .ok (.bastore, 1))
    (kk : ∀ (H1 : Heap) (locs1 : List Loc), XR B ad dA D H0 (xup h k (.inl (2, n, .inl (upd f i.toNatClampNeg (vp_nar .boolean x))))) H1 → (∀ q ∈ locs1, B ≤ q.base) → W p l e R s m args below meth c H1 locs1 cells slots Q (F0 m (pc + 1) ls rest)) : W p l e R s m args below meth c H locs cells slots Q (F0 m pc ls (.int x :: .int i :: .ref (xr B ad k) :: rest)) := by
  have h3 := xr_cell XRh hk1 hk2 hk
  refine W.zast hx hb h3 ((hK.2 2 _ (xtys_at dA (by decide))).1 n (fun j => .int (f j))) (fun q => by cases q) (by rw [arrV_size]; exact hi) rfl rfl hdg fun H1 e z oq => ?_
  rw [xr_new hk1] at e oq ⊢
  refine kk H1 _ (XRh.up hk2 ?_ z oq) (xl_put hlocs (Nat.le_add_right _ _))
  show H1[B + k]? = some (vp_cell _ _)
  rw [e, vp_cell_i, arrV_store]
  congr 2
  funext q
  by_cases hq : q = i.toNatClampNeg
  · subst hq
    simp [updV, upd, vp_nar, narrow]
  · simp [updV, upd, hq]
theorem xr_cast (hx : p.tables.exec = Jvm.exec) (hb : c.code = cc) (hK : va_K D vwCl (xtys dA) s) (XRh : XR B ad dA D H0 h H) (hlocs : ∀ q ∈ locs, B ≤ q.base) {k n : Nat} {f : Nat → Int32} (hk1 : k < 1000000000) (hk2 : k < h.1) (hk : h.2.2 k = .inl (4, n, .inl f)) {i x : Int32} (hi : ¬ (i < 0 ∨ n ≤ i.toNatClampNeg)) (hdg : decode cc pc = .ok (.castore, 1))
    (kk : ∀ (H1 : Heap) (locs1 : List Loc), XR B ad dA D H0 (xup h k (.inl (4, n, .inl (upd f i.toNatClampNeg (vp_nar .char x))))) H1 → (∀ q ∈ locs1, B ≤ q.base) → W p l e R s m args below meth c H1 locs1 cells slots Q (F0 m (pc + 1) ls rest)) : W p l e R s m args below meth c H locs cells slots Q (F0 m pc ls (.int x :: .int i :: .ref (xr B ad k) :: rest)) := by
  have h3 := xr_cell XRh hk1 hk2 hk
  refine W.cast hx hb h3 ((hK.2 4 _ (xtys_at dA (by decide))).1 n (fun j => .int (f j))) (fun q => by cases q) (by rw [arrV_size]; exact hi) rfl rfl hdg fun H1 e z oq => ?_
  rw [xr_new hk1] at e oq ⊢
  refine kk H1 _ (XRh.up hk2 ?_ z oq) (xl_put hlocs (Nat.le_add_right _ _))
  show H1[B + k]? = some (vp_cell _ _)
  rw [e, vp_cell_i, arrV_store]
  congr 2
  funext q
  by_cases hq : q = i.toNatClampNeg
  · subst hq
    simp [updV, upd, vp_nar, narrow]
  · simp [updV, upd, hq]
theorem xr_last (hx : p.tables.exec = Jvm.exec) (hb : c.code = cc) (hK : va_K D vwCl (xtys dA) s) (XRh : XR B ad dA D H0 h H) (hlocs : ∀ q ∈ locs, B ≤ q.base) {k n : Nat} {f : Nat → Int64} (hk1 : k < 1000000000) (hk2 : k < h.1) (hk : h.2.2 k = .inl (1, n, .inr (.inl f))) {i : Int32} {x : Int64} (hi : ¬ (i < 0 ∨ n ≤ i.toNatClampNeg)) (hdg : decode cc pc = .ok (.lastore, 1))
    (kk : ∀ (H1 : Heap) (locs1 : List Loc), XR B ad dA D H0 (xup h k (.inl (1, n, .inr (.inl (vp_updL f i.toNatClampNeg x))))) H1 → (∀ q ∈ locs1, B ≤ q.base) → W p l e R s m args below meth c H1 locs1 cells slots Q (F0 m (pc + 1) ls rest)) : W p l e R s m args below meth c H locs cells slots Q (F0 m pc ls (.long x :: .int i :: .ref (xr B ad k) :: rest)) := by
  have h3 := XRh.2.2.2.2 k hk2
  rw [hk] at h3
  rw [xr_new hk1]
  refine W.last hx hb h3 ((hK.2 1 _ (xtys_at dA (by decide))).1 n (fun j => .long (f j))) (fun q => by cases q) (by show ¬ (i < 0 ∨ (arrV _ _ _).slots.size ≤ _); rw [arrV_size]; exact hi) rfl rfl hdg fun H1 e z oq => ?_
  refine kk H1 _ (XRh.up hk2 ?_ z oq) (xl_put hlocs (Nat.le_add_right _ _))
  show H1[B + k]? = some (vp_cell _ _)
  rw [e]
  show some ((vp_cell (dA 1) (n, .inr (.inl f))).setSlot _ _) = _
  rw [vp_cell_l, vp_cell_l, arrV_store]
  congr 2
  funext q
  by_cases hq : q = i.toNatClampNeg
  · subst hq
    simp [updV, vp_updL]
  · simp [updV, vp_updL, hq]
/-- a reference to an object of the row's own class -/
theorem xr_aast (hx : p.tables.exec = Jvm.exec) (hb : c.code = cc) (hK : va_K D vwCl (xtys dA) s) (XRh : XR B ad dA D H0 h H) (hO : xO ad B dA D O s H0) (hlocs : ∀ q ∈ locs, B ≤ q.base) {k t n ci v : Nat} {f : Nat → Option Nat} {vs : List Value} {r : vw_C} (ht : t < 12) (hc : vwCl[ci]? = some r) (htc : xT.getD t .int = .object r.1) (hk1 : k < 1000000000) (hk2 : k < h.1) (hk : h.2.2 k = .inl (t, n, .inr (.inr (.inr (.inr f))))) (hv : xrd O h v = some (.inr (ci, vs))) {i : Int32} (hi : ¬ (i < 0 ∨ n ≤ i.toNatClampNeg)) (hdg : decode cc pc = .ok (.aastore, 1))
    (kk : ∀ (H1 : Heap) (locs1 : List Loc), XR B ad dA D H0 (xup h k (.inl (t, n, .inr (.inr (.inr (.inr (va_up f i.toNatClampNeg (some v)))))))) H1 → (∀ q ∈ locs1, B ≤ q.base) → W p l e R s m args below meth c H1 locs1 cells slots Q (F0 m (pc + 1) ls rest)) : W p l e R s m args below meth c H locs cells slots Q (F0 m pc ls (.ref (xr B ad v) :: .int i :: .ref (xr B ad k) :: rest)) := by
  have hlt : i.toNatClampNeg < n := Nat.not_le.mp fun q => hi (Or.inr q)
  have h0 : ¬ i < 0 := fun q => hi (Or.inl q)
  obtain ⟨cellV, g1, g3, g2⟩ := XRh.recv hO hK hc hv
  have hcls := (hK.1 ci r hc).2
  have g2 : cellV.cls = D.1 ci := Option.some.inj (g2.symm.trans hcls.1)
  have hty := (hK.2 t _ (xtys_at dA ht)).2
  rw [htc] at hty
  obtain ⟨kA, comp, k1, k2, k3, -⟩ := hty
  have hcomp : comp = D.1 ci := Option.some.inj (k3.symm.trans hcls.1)
  subst hcomp
  obtain ⟨kC, hkC, -⟩ := hcls.2
  have h3 := XRh.2.2.2.2 k hk2
  rw [hk] at h3
  rw [xr_new hk1]
  refine W.aast hx hb h3 (fun q h => by cases h) (fun h => by cases h) k1 k2 rfl hkC ⟨h0, by show _ < (arrV _ _ _).slots.size; rw [arrV_size]; exact hlt⟩ g1 (fun q h => by rw [h] at g3; cases g3) (by rw [g2]; exact hkC) (by rw [g2]; exact va_assign hcls) rfl rfl hdg fun H1 e z oq => ?_
  refine kk H1 _ (XRh.up hk2 ?_ z oq) (xl_put hlocs (Nat.le_add_right _ _))
  show H1[B + k]? = some (vp_cell _ _)
  rw [e]
  show some ((vp_cell (dA t) (n, .inr (.inr (.inr (.inr _))))).setSlot _ _) = _
  rw [vp_cell_q, vp_cell_q, arrV_store]
  congr 2
  funext q
  by_cases hq : q = i.toNatClampNeg
  · subst hq
    simp [updV, va_up, va_rf]
  · simp [updV, va_up, hq]
/-- a row of ints into a row of such rows -/
theorem xr_aasti (hx : p.tables.exec = Jvm.exec) (hb : c.code = cc) (hK : va_K D vwCl (xtys dA) s) (hq5 : ∃ (kA : Class), s.vm.classes[dA 5]? = some kA ∧ kA.kind = .array (dA 0) (.array .int)) (XRh : XR B ad dA D H0 h H) (hlocs : ∀ q ∈ locs, B ≤ q.base) {k n v n2 : Nat} {f : Nat → Option Nat} {g : Nat → Int32} (hk1 : k < 1000000000) (hk2 : k < h.1) (hk : h.2.2 k = .inl (5, n, .inr (.inr (.inr (.inr f))))) (hv1 : v < 1000000000) (hv2 : v < h.1) (hv : h.2.2 v = .inl (0, n2, .inl g)) {i : Int32} (hi : ¬ (i < 0 ∨ n ≤ i.toNatClampNeg)) (hdg : decode cc pc = .ok (.aastore, 1))
    (kk : ∀ (H1 : Heap) (locs1 : List Loc), XR B ad dA D H0 (xup h k (.inl (5, n, .inr (.inr (.inr (.inr (va_up f i.toNatClampNeg (some v)))))))) H1 → (∀ q ∈ locs1, B ≤ q.base) → W p l e R s m args below meth c H1 locs1 cells slots Q (F0 m (pc + 1) ls rest)) : W p l e R s m args below meth c H locs cells slots Q (F0 m pc ls (.ref (xr B ad v) :: .int i :: .ref (xr B ad k) :: rest)) := by
  have hlt : i.toNatClampNeg < n := Nat.not_le.mp fun q => hi (Or.inr q)
  have h0 : ¬ i < 0 := fun q => hi (Or.inl q)
  have g1 := xr_cell XRh hv1 hv2 hv
  obtain ⟨kA, k1, k2⟩ := hq5
  obtain ⟨-, k0, hk0, -⟩ := (hK.2 0 _ (xtys_at dA (by decide))).1 0 (fun _ => .null)
  have h3 := XRh.2.2.2.2 k hk2
  rw [hk] at h3
  rw [xr_new hk1]
  refine W.aast hx hb h3 (fun q h => by cases h) (fun h => by cases h) k1 k2 rfl hk0 ⟨h0, by show _ < (arrV _ _ _).slots.size; rw [arrV_size]; exact hlt⟩ g1 (fun q h => by cases h) hk0 (va_asg _ _) rfl rfl hdg fun H1 e z oq => ?_
  refine kk H1 _ (XRh.up hk2 ?_ z oq) (xl_put hlocs (Nat.le_add_right _ _))
  show H1[B + k]? = some (vp_cell _ _)
  rw [e]
  show some ((vp_cell (dA 5) (n, .inr (.inr (.inr (.inr _))))).setSlot _ _) = _
  rw [vp_cell_q, vp_cell_q, arrV_store]
  congr 2
  funext q
  by_cases hq : q = i.toNatClampNeg
  · subst hq
    simp [updV, va_up, va_rf]
  · simp [updV, va_up, hq]
theorem xr_mk (hx : p.tables.exec = Jvm.exec) (hb : c.code = cc) (hts : ∀ w ∈ Ts, w.before args s = true) (hown : s.vm.findClass own = some m.cls) (hK : va_K D vwCl (xtys dA) s) (XRh : XR B ad dA D H0 h H)
    {ci index N : Nat} {C : String} {T : u_T} {ty : Nat → FieldType} (hF : xcf Ts ci C T N ty) (hcl : Jvm.Cond.classLink own index C ∈ Ts) (hinst : Jvm.Cond.instantiable C N ∈ Ts) (hini : Jvm.Cond.initialized C ∈ Ts) {fs : List Value} (hfs : ∀ j, j < N → defaultValue (ty j) = vp_V (fs.map (xv B ad)) j) (hl : h.1 + 1 < 1000000000) (hcells : cells + 1 ≤ R.cells) (hslots : slots + N ≤ R.slots) (hdg : decode cc pc = .ok (.new index, 3))
    (kk : ∀ (H1 : Heap), XR B ad dA D H0 (xnw h N (.inr (ci, fs))) H1 → W p l e R s m args below meth c H1 locs (cells + 1) (slots + N) Q (F0 m (pc + 3) ls (.ref (xr B ad h.1) :: rest))) : W p l e R s m args below meth c H locs cells slots Q (F0 m pc ls rest) := by
  have hKn := hK.1 ci _ hF.1
  refine W.newcK hx hb hown (hts _ hcl) (hts _ hinst) (hts _ hini) rfl hdg hcells hslots hKn.2.1 rfl fun H1 kC hkC e1 z1 o1 => ?_
  have h4 := kk H1 (XRh.nw N hl (show va_at D vwCl (H.size, .inr (ci, fs.map (xv B ad))) H1 from ⟨_, hF.1, (u_born ty hts hF.2.1 hKn hkC e1 hF.2.2.1).to hfs⟩) z1 o1)
  rw [xr_new (by omega), ← XRh.2.2.1] at h4
  exact h4
theorem xr_mka (hx : p.tables.exec = Jvm.exec) (hb : c.code = cc) (hK : va_K D vwCl (xtys dA) s) (XRh : XR B ad dA D H0 h H) {atype : ArrayType} {t N : Nat} {y : (Nat → Int32) ⊕ (Nat → Int64) ⊕ (Nat → UInt32) ⊕ (Nat → UInt64) ⊕ (Nat → Option Nat)} (ht : t < 5) (htt : xT.getD t .int = newarray.typeOf atype) (harr : (Jvm.Cond.arrayClass (newarray.typeOf atype)).before args s = true) (hy : ∀ cA : ClassId, vp_cell cA (N, y) = arrV cA N (fun _ => defaultValue (newarray.typeOf atype))) (hyc : xc B ad dA (.inl (t, N, y)) = .inl (dA t, N, y))
    {n : Int32} (hn : ¬ n < 0) (hN : n.toNatClampNeg = N) (hbytes : N * componentBytes (newarray.typeOf atype) ≤ 536870912) (hl : h.1 + 1 < 1000000000) (hcells : cells + 1 ≤ R.cells) (hslots : slots + N ≤ R.slots) (hdg : decode cc pc = .ok (.newarray atype, 2))
    (kk : ∀ (H1 : Heap), XR B ad dA D H0 (xnw h N (.inl (t, N, y))) H1 → W p l e R s m args below meth c H1 locs (cells + 1) (slots + N) Q (F0 m (pc + 2) ls (.ref (xr B ad h.1) :: rest))) : W p l e R s m args below meth c H locs cells slots Q (F0 m pc ls (.int n :: rest)) := by
  refine va_newaK hx hb harr rfl hdg rfl hn hN hbytes hcells hslots rfl fun H1 cA e1 z1 o1 hAr hNm => ?_
  have hcA : cA = dA t := by
    have h5 := (hK.2 t _ (xtys_at dA (by omega))).2
    rw [htt] at h5
    have h6 : s.vm.findClass ("[" ++ (newarray.typeOf atype).toString) = some (dA t) := by cases atype <;> exact h5
    exact Option.some.inj (hNm.symm.trans h6)
  subst hcA
  have h4 := kk H1 (XRh.nw N hl (show va_at D vwCl (H.size, xc B ad dA (.inl (t, N, y))) H1 from by rw [hyc]; show H1[H.size]? = some (vp_cell _ _); rw [hy]; exact e1) z1 o1)
  rw [xr_new (by omega), ← XRh.2.2.1] at h4
  exact h4
theorem xr_mkq (hx : p.tables.exec = Jvm.exec) (hb : c.code = cc) (hts : ∀ w ∈ Ts, w.before args s = true) (hown : s.vm.findClass own = some m.cls) (hK : va_K D vwCl (xtys dA) s) (XRh : XR B ad dA D H0 h H) {index t : Nat} {C : String} (ht : t < 12) (htt : xT.getD t .int = .object C) (hcl : Jvm.Cond.classLink own index C ∈ Ts) (hover : (Jvm.Cond.arrayOver (.object C)).before args s = true)
    {n : Int32} (hn : ¬ n < 0) (hbytes : n.toNatClampNeg * 4 ≤ 536870912) (hl : h.1 + 1 < 1000000000) (hcells : cells + 1 ≤ R.cells) (hslots : slots + n.toNatClampNeg ≤ R.slots) (hdg : decode cc pc = .ok (.anewarray index, 3))
    (kk : ∀ (H1 : Heap), XR B ad dA D H0 (xnw h n.toNatClampNeg (.inl (t, n.toNatClampNeg, .inr (.inr (.inr (.inr (fun _ => none))))))) H1 → W p l e R s m args below meth c H1 locs (cells + 1) (slots + n.toNatClampNeg) Q (F0 m (pc + 3) ls (.ref (xr B ad h.1) :: rest))) : W p l e R s m args below meth c H locs cells slots Q (F0 m pc ls (.int n :: rest)) := by
  refine W.anew hx hb hown (hts _ hcl) hover rfl hdg rfl hn hbytes hcells hslots fun cA kA comp f1 f2 f3 f4 => ?_
  have hcA : cA = dA t := by
    have h5 := (hK.2 t _ (xtys_at dA ht)).2
    rw [htt] at h5
    obtain ⟨_, _, -, -, -, h6⟩ := h5
    exact Option.some.inj (f1.symm.trans h6)
  subst hcA
  have z1 : (H.push ({ cls := dA t, slots := Array.replicate n.toNatClampNeg .null, vm := .none } : Cell)).size = H.size + 1 := Array.size_push ..
  have h4 := kk _ (XRh.nw n.toNatClampNeg hl (show va_at D vwCl (H.size, xc B ad dA (.inl (t, n.toNatClampNeg, .inr (.inr (.inr (.inr (fun _ => none))))))) (H.push ({ cls := dA t, slots := Array.replicate n.toNatClampNeg .null, vm := .none } : Cell)) from by
    show (H.push _)[H.size]? = some (vp_cell _ _)
    rw [Array.getElem?_push_size, vp_cell_q, ← arrV_new]
    rfl) z1 (fun q hq => by rw [Array.getElem?_push, if_neg (Nat.ne_of_lt hq)]))
  rw [xr_new (by omega), ← XRh.2.2.1] at h4
  exact h4
end XST
