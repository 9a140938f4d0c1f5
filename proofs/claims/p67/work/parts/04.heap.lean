/-! ===== the picture's heap, and how it lies in the machine's ===== -/
def xT : List FieldType := [.int, .long, .boolean, .byte, .char, .array .int, .object "Calendarhall$Hall", .object "Calendarhall$Zone", .object "Calendarhall$Person", .object "Calendarhall$Series", .object "Calendarhall$Device", .object "java/lang/String"]
def xtys (dA : Nat → ClassId) : List (ClassId × FieldType) := (List.range 12).map (fun t => (dA t, xT.getD t .int))
theorem xtys_at (dA : Nat → ClassId) {t : Nat} (h : t < 12) : (xtys dA)[t]? = some (dA t, xT.getD t .int) := by
  unfold xtys
  rw [List.getElem?_map, List.getElem?_range h]
  rfl
/-- a cell of the picture as one of the kit's -/
def xc (B : Nat) (ad : Nat → Nat) (dA : Nat → ClassId) : va_E → va_E
  | .inl (t, n, .inr (.inr (.inr (.inr f)))) => .inl (dA t, n, .inr (.inr (.inr (.inr (fun i => (f i).map (xr B ad))))))
  | .inl (t, x) => .inl (dA t, x)
  | .inr (ci, fs) => .inr (ci, fs.map (xv B ad))
/-- what lay there before: arrays of ints, and objects -/
def xO (ad : Nat → Nat) (B : Nat) (dA : Nat → ClassId) (D : va_G) (O : Nat → Option va_E) (s : State) (H0 : Heap) : Prop :=
  ∀ (j : Nat) (x : va_E), O j = some x → ad j < B ∧ match x with
    | .inl (t, n, .inl f) => t < 12 ∧ ∃ cell : Cell, H0[ad j]? = some cell ∧ s.isArrayOf cell (xT.getD t .int) ∧ cell.vm ≠ .unknown ∧ cell.slots.size = n ∧ ∀ i, i < n → cell.slots[i]? = some (.int (f i))
    | .inl _ => False
    | .inr o => ∃ (C : String) (T : u_T) (N : Nat), vwCl[o.1]? = some (C, T, N) ∧ (∃ cell : Cell, H0[ad j]? = some cell ∧ cell.vm.isStatics = false ∧ s.vm.findClass C = some cell.cls) ∧ ∀ (i : Nat) (v : Value), o.2[i]? = some v → va_OF (T i).1 (T i).2.1 (T i).2.2.1 (xv B ad v) (ad j) (fun q => B ≤ q) s H0
def XR (B : Nat) (ad : Nat → Nat) (dA : Nat → ClassId) (D : va_G) (H0 : Heap) (h : Nat × Nat × (Nat → va_E)) (H : Heap) : Prop :=
  h.1 < 1000000000 ∧ H0.size = B ∧ H.size = B + h.1 ∧ (∀ q, q < B → H[q]? = H0[q]?) ∧ ∀ k, k < h.1 → va_at D vwCl (B + k, xc B ad dA (h.2.2 k)) H
def xrd (O : Nat → Option va_E) (h : Nat × Nat × (Nat → va_E)) (k : Nat) : Option va_E :=
  if k < 1000000000 then (if k < h.1 then some (h.2.2 k) else none) else O (k - 1000000000)
def xup (h : Nat × Nat × (Nat → va_E)) (k : Nat) (x : va_E) : Nat × Nat × (Nat → va_E) := (h.1, h.2.1, fun j => if j = k then x else h.2.2 j)
def xnw (h : Nat × Nat × (Nat → va_E)) (w : Nat) (x : va_E) : Nat × Nat × (Nat → va_E) := (h.1 + 1, h.2.1 + w, fun j => if j = h.1 then x else h.2.2 j)
section XR1
variable {B : Nat} {ad : Nat → Nat} {dA : Nat → ClassId} {D : va_G} {H0 H : Heap} {h : Nat × Nat × (Nat → va_E)} {O : Nat → Option va_E} {s : State}
theorem xr_new {k : Nat} (h : k < 1000000000) : xr B ad k = B + k := if_pos h
theorem xr_old {k : Nat} (h : ¬ k < 1000000000) : xr B ad k = ad (k - 1000000000) := if_neg h
theorem XR.up (R : XR B ad dA D H0 h H) {k : Nat} {x : va_E} (hk : k < h.1) {H1 : Heap} (e1 : va_at D vwCl (B + k, xc B ad dA x) H1) (z : H1.size = H.size) (oq : ∀ q : Nat, q ≠ B + k → H1[q]? = H[q]?) : XR B ad dA D H0 (xup h k x) H1 := by
  obtain ⟨r1, r2, r3, r4, r5⟩ := R
  refine ⟨r1, r2, z.trans r3, fun q hq => (oq q (by omega)).trans (r4 q hq), fun j hj => ?_⟩
  show va_at D vwCl (B + j, xc B ad dA (if j = k then x else h.2.2 j)) H1
  by_cases e : j = k
  · subst e
    rw [if_pos rfl]
    exact e1
  · rw [if_neg e]
    exact (r5 j hj).kept (oq (B + j) (by omega))
theorem XR.nw (R : XR B ad dA D H0 h H) (w : Nat) {x : va_E} (hl : h.1 + 1 < 1000000000) {H1 : Heap} (e1 : va_at D vwCl (H.size, xc B ad dA x) H1) (z : H1.size = H.size + 1) (oq : ∀ q : Nat, q < H.size → H1[q]? = H[q]?) : XR B ad dA D H0 (xnw h w x) H1 := by
  obtain ⟨r1, r2, r3, r4, r5⟩ := R
  refine ⟨hl, r2, ?_, fun q hq => (oq q (by omega)).trans (r4 q hq), fun j hj => ?_⟩
  · show H1.size = B + (h.1 + 1)
    omega
  show va_at D vwCl (B + j, xc B ad dA (if j = h.1 then x else h.2.2 j)) H1
  have hj' : j < h.1 + 1 := hj
  by_cases e : j = h.1
  · subst e
    rw [if_pos rfl, ← r3]
    exact e1
  · rw [if_neg e]
    exact (r5 j (by omega)).kept (oq (B + j) (by omega))
theorem XR.recv (R : XR B ad dA D H0 h H) (hO : xO ad B dA D O s H0) (hK : va_K D vwCl (xtys dA) s) {k ci : Nat} {fs : List Value} {r : vw_C} (hc : vwCl[ci]? = some r) (hk : xrd O h k = some (.inr (ci, fs))) : ∃ cell : Cell, H[xr B ad k]? = some cell ∧ cell.vm.isStatics = false ∧ s.vm.findClass r.1 = some cell.cls := by
  obtain ⟨r1, r2, r3, r4, r5⟩ := R
  unfold xrd at hk
  split at hk
  · rename_i h1
    split at hk
    · rename_i h2
      have h3 := r5 k h2
      rw [Option.some.inj hk] at h3
      rw [xr_new h1]
      obtain ⟨q', e1, cell, g1, g2, g3, -⟩ := h3
      have eq : q' = r := Option.some.inj (e1.symm.trans hc)
      subst eq
      exact ⟨cell, g1, by rw [g3]; rfl, by rw [g2]; exact (hK.1 ci q' hc).2.1⟩
    · cases hk
  · rename_i h1
    obtain ⟨h2, C, T, N, e1, ⟨cell, g1, g2, g3⟩, -⟩ := hO _ _ hk
    have eq : (C, T, N) = r := Option.some.inj (e1.symm.trans hc)
    subst eq
    rw [xr_old h1]
    exact ⟨cell, (r4 _ h2).trans g1, g2, g3⟩
/-- a field of an object, new or old -/
theorem XR.fld (R : XR B ad dA D H0 h H) (hO : xO ad B dA D O s H0) (hK : va_K D vwCl (xtys dA) s) {Ts : List Jvm.Cond} {args : Array Value} (hts : ∀ w ∈ Ts, w.before args s = true) {k ci j N : Nat} {fs : List Value} {C : String} {T : u_T} (hc : vwCl[ci]? = some (C, T, N)) (hin : ∀ w ∈ u_ws C T N, w ∈ Ts) (hj : j < N) (hk : xrd O h k = some (.inr (ci, fs))) {v : Value} (hv : fs[j]? = some v) :
    ∃ (cf : ClassId) (kf : Class) (fi : Nat) (f : Field) (cell : Cell), s.fieldFound? (T j).1 (T j).2.1 (T j).2.2.1 = some (cf, kf, fi, f) ∧ f.isStatic = false ∧ H[xr B ad k]? = some cell ∧ cell.vm ≠ .unknown ∧ cell.slots[f.slot]? = some (xv B ad v) := by
  obtain ⟨r1, r2, r3, r4, r5⟩ := R
  unfold xrd at hk
  split at hk
  · rename_i h1
    split at hk
    · rename_i h2
      have h3 := r5 k h2
      rw [Option.some.inj hk] at h3
      rw [xr_new h1]
      obtain ⟨q', e1, cell, q1, q2, q3, q4⟩ := h3
      have eq : q' = (C, T, N) := Option.some.inj (e1.symm.trans hc)
      subst eq
      obtain ⟨hS, hfc, kC, hkC, hkind⟩ := hK.1 ci _ hc
      obtain ⟨cf, kf, fi, f, hi, hsl⟩ := hS j hj
      refine ⟨cf, kf, fi, f, cell, hi, (u_facts hfc hkC (u_lays hts hin hj) hi).1, q1, (by rw [q3]; exact (fun h => by cases h)), ?_⟩
      rw [hsl, q4 j hj]
      simp [vp_V, hv]
    · cases hk
  · rename_i h1
    obtain ⟨h2, C', T', N', e1, -, h5⟩ := hO _ _ hk
    have eq : (C', T', N') = (C, T, N) := Option.some.inj (e1.symm.trans hc)
    cases eq
    obtain ⟨cf, kf, fi, f, cell, g1, g2, g3, g4, g5, -⟩ := h5 j v hv
    rw [xr_old h1]
    exact ⟨cf, kf, fi, f, cell, g1, g2, (r4 _ h2).trans g3, g4, g5⟩
theorem XR.ints (R : XR B ad dA D H0 h H) (hO : xO ad B dA D O s H0) (hK : va_K D vwCl (xtys dA) s) {k t n : Nat} {f : Nat → Int32} (ht : t < 12) (hk : xrd O h k = some (.inl (t, n, .inl f))) :
    ∃ cell : Cell, H[xr B ad k]? = some cell ∧ s.isArrayOf cell (xT.getD t .int) ∧ cell.vm ≠ .unknown ∧ cell.slots.size = n ∧ ∀ i, i < n → cell.slots[i]? = some (.int (f i)) := by
  obtain ⟨r1, r2, r3, r4, r5⟩ := R
  unfold xrd at hk
  split at hk
  · rename_i h1
    split at hk
    · rename_i h2
      have h3 := r5 k h2
      rw [Option.some.inj hk] at h3
      rw [xr_new h1]
      refine ⟨arrV (dA t) n (fun j => .int (f j)), h3, (hK.2 t _ (xtys_at dA ht)).1 n (fun j => .int (f j)), (fun q => by cases q), arrV_size .., fun i hi => arrV_read _ _ hi⟩
    · cases hk
  · rename_i h1
    obtain ⟨h2, h3, cell, c1, c2⟩ := hO _ _ hk
    rw [xr_old h1]
    exact ⟨cell, (r4 _ h2).trans c1, c2⟩
theorem XR.longs (R : XR B ad dA D H0 h H) (hO : xO ad B dA D O s H0) (hK : va_K D vwCl (xtys dA) s) {k n : Nat} {f : Nat → Int64} (hk : xrd O h k = some (.inl (1, n, .inr (.inl f)))) :
    ∃ cell : Cell, H[xr B ad k]? = some cell ∧ s.isArrayOf cell .long ∧ cell.vm ≠ .unknown ∧ cell.slots.size = n ∧ ∀ i, i < n → cell.slots[i]? = some (.long (f i)) := by
  obtain ⟨r1, r2, r3, r4, r5⟩ := R
  unfold xrd at hk
  split at hk
  · rename_i h1
    split at hk
    · rename_i h2
      have h3 := r5 k h2
      rw [Option.some.inj hk] at h3
      rw [xr_new h1]
      refine ⟨arrV (dA 1) n (fun j => .long (f j)), h3, (hK.2 1 _ (xtys_at dA (by decide))).1 n (fun j => .long (f j)), (fun q => by cases q), arrV_size .., fun i hi => arrV_read _ _ hi⟩
    · cases hk
  · exact (hO _ _ hk).2.elim
theorem XR.refs (R : XR B ad dA D H0 h H) (hO : xO ad B dA D O s H0) (hK : va_K D vwCl (xtys dA) s) {k t n : Nat} {f : Nat → Option Nat} (ht : t < 12) (hk : xrd O h k = some (.inl (t, n, .inr (.inr (.inr (.inr f)))))) :
    k < 1000000000 ∧ k < h.1 ∧ ∃ cell : Cell, H[xr B ad k]? = some cell ∧ cell = arrV (dA t) n (fun j => va_rf ((f j).map (xr B ad))) ∧ s.isArrayOf cell (xT.getD t .int) ∧ cell.vm ≠ .unknown := by
  obtain ⟨r1, r2, r3, r4, r5⟩ := R
  unfold xrd at hk
  split at hk
  · rename_i h1
    split at hk
    · rename_i h2
      have h3 := r5 k h2
      rw [Option.some.inj hk] at h3
      rw [xr_new h1]
      refine ⟨h1, h2, arrV (dA t) n (fun j => va_rf ((f j).map (xr B ad))), h3, rfl, (hK.2 t _ (xtys_at dA ht)).1 n (fun j => va_rf ((f j).map (xr B ad))), (fun q => by cases q)⟩
    · cases hk
  · exact (hO _ _ hk).2.elim
end XR1
