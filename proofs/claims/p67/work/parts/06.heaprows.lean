/-! ===== rows of the heap, over the picture ===== -/
/-- what is known of a class's cells: its row, its layout among the words, its fields' types -/
def xcf (Ts : List Jvm.Cond) (ci : Nat) (C : String) (T : u_T) (N : Nat) (ty : Nat → FieldType) : Prop :=
  vwCl[ci]? = some (C, T, N) ∧ (∀ w ∈ u_ws C T N, w ∈ Ts) ∧ (∀ k, k < N → parseFieldDescriptor (T k).2.2.1 = some (ty k)) ∧ ∀ a, a < N → ∀ b, b < N → a ≠ b → (T a).2.1 ≠ (T b).2.1
def xfit : FieldType → Value → Bool
  | .int, .int _ => true
  | .long, .long _ => true
  | .boolean, .int x => x == 0 || x == 1
  | .byte, .int x => decide (-128 ≤ x) && decide (x ≤ 127)
  | .char, .int x => decide (0 ≤ x) && decide (x ≤ 65535)
  | .object _, .null => true
  | .object _, .ref _ => true
  | .array _, .null => true
  | .array _, .ref _ => true
  | _, _ => false
theorem xfit_nar (ty : FieldType) (v : Value) (h : xfit ty v = true) : fits ty v = true := by
  cases ty <;> cases v <;> first | rfl | (simp [xfit] at h; done) | (simpa [xfit, fits] using h)
theorem xfit_conv (B : Nat) (ad : Nat → Nat) (ty : FieldType) (v : Value) (h : xfit ty v = true) : xfit ty (xv B ad v) = true := by
  cases v <;> first | exact h | (cases ty <;> first | rfl | (simp [xfit] at h; done))
section XHR
variable {p : Program} {l : Launch} {e : Env} {R : Room} {s : State} {m : MethodId} {args : Array Value} {below : List Frame} {meth : Method} {c : Code} {H : Heap} {locs : List Loc} {cells slots : Nat} {Q : State → Prop}
variable {cc : ByteArray} {pc : Nat} {ls : Array Slot} {rest : List Value} {Ts : List Jvm.Cond} {own : String}
variable {B : Nat} {ad : Nat → Nat} {dA : Nat → ClassId} {D : va_G} {H0 : Heap} {h : Nat × Nat × (Nat → va_E)} {O : Nat → Option va_E}
theorem xr_one {a : Nat} {x : va_E} (h : va_at D vwCl (a, x) H) : va_P D vwCl [(a, x)] H := fun k q hq => by
  cases k with
  | zero => cases hq; exact h
  | succ k => cases hq
theorem xr_get (hx : p.tables.exec = Jvm.exec) (hb : c.code = cc) (hts : ∀ w ∈ Ts, w.before args s = true) (hown : s.vm.findClass own = some m.cls) (hK : va_K D vwCl (xtys dA) s) (XRh : XR B ad dA D H0 h H) (hO : xO ad B dA D O s H0)
    {ci j index N : Nat} {C : String} {T : u_T} {ty : Nat → FieldType} (hF : xcf Ts ci C T N ty) (hj : j < N) (hlink : Jvm.Cond.fieldLink own index (T j).1 (T j).2.1 (T j).2.2.1 ∈ Ts ∨ ∃ host, (Jvm.Cond.fieldLinkNest own index (T j).1 (T j).2.1 (T j).2.2.1 host).before args s = true)
    {k : Nat} {fs : List Value} (hk : xrd O h k = some (.inr (ci, fs))) {v : Value} (hv : fs[j]? = some v) (hdg : decode cc pc = .ok (.getfield index, 3))
    (kk : W p l e R s m args below meth c H locs cells slots Q (F0 m (pc + 3) ls (xv B ad v :: rest))) : W p l e R s m args below meth c H locs cells slots Q (F0 m pc ls (.ref (xr B ad k) :: rest)) := by
  obtain ⟨cf, kf, fi, f, cell, g1, g2, g3, g4, g5⟩ := XRh.fld hO hK hts hF.1 hF.2.1 hj hk hv
  rcases hlink with q | ⟨host, q⟩
  · exact W.getf hx hb hown (hts _ q) g1 g2 g3 g4 g5 rfl rfl hdg kk
  · exact va_Wgetf hx hb hown q g1 g2 g3 g4 g5 rfl rfl hdg kk
theorem xr_put (hx : p.tables.exec = Jvm.exec) (hb : c.code = cc) (hts : ∀ w ∈ Ts, w.before args s = true) (hown : s.vm.findClass own = some m.cls) (hK : va_K D vwCl (xtys dA) s) (XRh : XR B ad dA D H0 h H) (hlocs : ∀ q ∈ locs, B ≤ q.base)
    {ci j index N : Nat} {C : String} {T : u_T} {ty : Nat → FieldType} (hF : xcf Ts ci C T N ty) (hj : j < N) (hlink : Jvm.Cond.fieldLink own index (T j).1 (T j).2.1 (T j).2.2.1 ∈ Ts) (hfin : (T j).2.2.2 = false ∨ ((T j).2.2.2 = true ∧ meth.name = "<init>" ∧ (T j).1 = own))
    {k : Nat} (hk1 : k < 1000000000) (hk2 : k < h.1) {fs : List Value} (hk : h.2.2 k = .inr (ci, fs)) (hl : j < fs.length) {v : Value} (hfit : xfit (ty j) v = true) (hdg : decode cc pc = .ok (.putfield index, 3))
    (kk : ∀ (H1 : Heap) (locs1 : List Loc), XR B ad dA D H0 (xup h k (.inr (ci, fs.set j v))) H1 → (∀ q ∈ locs1, B ≤ q.base) → W p l e R s m args below meth c H1 locs1 cells slots Q (F0 m (pc + 3) ls rest)) : W p l e R s m args below meth c H locs cells slots Q (F0 m pc ls (xv B ad v :: .ref (xr B ad k) :: rest)) := by
  have hap := va_apart (own := own) hts hF.2.1 ty hF.2.2.1 hF.2.2.2 hK hF.1
  have hat := XRh.2.2.2.2 k hk2
  rw [hk] at hat
  have hfit2 := xfit_conv B ad (ty j) v hfit
  have hfits := xfit_nar _ _ hfit2
  have hn : narrow (ty j) (xv B ad v) = xv B ad v := narrow_of_fits hfits
  obtain ⟨r, h1, cell, q1, q2, q3, q4⟩ := hat
  have hr : r = (C, T, N) := Option.some.inj (h1.symm.trans hF.1)
  subst hr
  obtain ⟨hS, hfc, kC, hkC, hkind⟩ := hK.1 ci _ hF.1
  obtain ⟨cf, kf, fi, f, hi, hsl⟩ := hS j hj
  have hst := (u_facts hfc hkC (u_lays hts hF.2.1 hj) hi).1
  have hlt : f.slot < cell.slots.size := by rw [hsl]; exact k2_hasslot (q4 j hj)
  have fin : ∀ H' : Heap, H'[B + k]? = some (cell.setSlot f.slot (xv B ad v)) → H'.size = H.size → (∀ q, q ≠ B + k → H'[q]? = H[q]?) → W p l e R s m args below meth c H' (locs ++ [⟨B + k, f.slot⟩]) cells slots Q (F0 m (pc + 3) ls rest) := fun H' e1 e2 e3 => by
    rw [hsl] at e1
    refine kk H' _ (XRh.up hk2 ?_ e2 e3) (fun q hq => ?_)
    · show va_at D vwCl (B + k, .inr (ci, (fs.set j v).map (xv B ad))) H'
      rw [List.map_set]
      exact ⟨_, hF.1, t_OB.to (V := updV (vp_V (fs.map (xv B ad))) j (xv B ad v)) ⟨_, e1, q2, q3, t_set q4 hap hj _⟩ (fun i _ => vp_updV_set (by rw [List.length_map]; exact hl) _ i)⟩
    · rcases List.mem_append.mp hq with q | q
      · exact hlocs _ q
      · rw [List.mem_singleton.mp q]
        exact Nat.le_add_right _ _
  rw [xr_new hk1]
  rcases hfin with hfin | ⟨hfin, hin2, hdecl⟩
  · have hlay := hts _ (hF.2.1 _ (u_in_lay hj))
    unfold u_lay at hlay
    rw [if_neg (by rw [hfin]; decide)] at hlay
    have h6 := u_store hfc hkC hkind hlay hi (hF.2.2.1 j hj) hn hfits
    exact W.putK hx hb (f := f) ⟨hown, hts _ hlink, ⟨_, _, _, hi⟩, hst⟩ (by rw [q2]; exact h6) q1 q3 hlt rfl rfl hdg fin
  · have hlay := hts _ (hF.2.1 _ (u_in_lay hj))
    unfold u_lay at hlay
    rw [if_pos hfin] at hlay
    have hcf : m.cls = cf := by
      obtain ⟨_, _, c', _, _, _, -, -, hf', -, -, -, hown2, -⟩ := Cond.laysFinal_spec hlay
      have e1 : c' = cf := by have := hi.symm.trans hf'; simp at this; exact this.1.symm
      rw [hdecl] at hown2
      rw [← e1]; exact Option.some.inj (hown.symm.trans hown2)
    have h6 := u_fits hfc hkC hkind (Or.inr hlay) hi (hF.2.2.1 j hj) hn hfits
    exact W.putFinK hx hb hown (hts _ hlink) hi hst hcf hin2 (by rw [q2]; exact h6) q1 q3 hlt rfl rfl hdg fin
theorem xr_iald (hx : p.tables.exec = Jvm.exec) (hb : c.code = cc) (hK : va_K D vwCl (xtys dA) s) (XRh : XR B ad dA D H0 h H) (hO : xO ad B dA D O s H0) {k n : Nat} {f : Nat → Int32} (hk : xrd O h k = some (.inl (0, n, .inl f))) {i : Int32} (hi : ¬ (i < 0 ∨ n ≤ i.toNatClampNeg)) (hdg : decode cc pc = .ok (.iaload, 1))
    (kk : W p l e R s m args below meth c H locs cells slots Q (F0 m (pc + 1) ls (.int (f i.toNatClampNeg) :: rest))) : W p l e R s m args below meth c H locs cells slots Q (F0 m pc ls (.int i :: .ref (xr B ad k) :: rest)) := by
  obtain ⟨cell, c1, c2, c3, c4, c5⟩ := XRh.ints hO hK (by decide) hk
  have hlt : i.toNatClampNeg < n := Nat.not_le.mp fun q => hi (Or.inr q)
  exact W.iald (v := .int (f i.toNatClampNeg)) hx hb c1 c2 c3 (by rw [c4]; exact hi) (c5 _ hlt) rfl rfl hdg kk
theorem xr_bald (hx : p.tables.exec = Jvm.exec) (hb : c.code = cc) (hK : va_K D vwCl (xtys dA) s) (XRh : XR B ad dA D H0 h H) (hO : xO ad B dA D O s H0) {k n : Nat} {f : Nat → Int32} (hk : xrd O h k = some (.inl (3, n, .inl f))) {i : Int32} (hi : ¬ (i < 0 ∨ n ≤ i.toNatClampNeg)) (hdg : decode cc pc = .ok (.baload, 1))
    (kk : W p l e R s m args below meth c H locs cells slots Q (F0 m (pc + 1) ls (.int (f i.toNatClampNeg) :: rest))) : W p l e R s m args below meth c H locs cells slots Q (F0 m pc ls (.int i :: .ref (xr B ad k) :: rest)) := by
  obtain ⟨cell, c1, c2, c3, c4, c5⟩ := XRh.ints hO hK (by decide) hk
  have hlt : i.toNatClampNeg < n := Nat.not_le.mp fun q => hi (Or.inr q)
  exact W.bald (v := .int (f i.toNatClampNeg)) hx hb c1 c2 c3 (by rw [c4]; exact hi) (c5 _ hlt) rfl rfl hdg kk
theorem xr_zald (hx : p.tables.exec = Jvm.exec) (hb : c.code = cc) (hK : va_K D vwCl (xtys dA) s) (XRh : XR B ad dA D H0 h H) (hO : xO ad B dA D O s H0) {k n : Nat} {f : Nat → Int32} (hk : xrd O h k = some (.inl (2, n, .inl f))) {i : Int32} (hi : ¬ (i < 0 ∨ n ≤ i.toNatClampNeg)) (hdg : decode cc pc = .ok (.baload, 1))
    (kk : W p l e R s m args below meth c H locs cells slots Q (F0 m (pc + 1) ls (.int (f i.toNatClampNeg) :: rest))) : W p l e R s m args below meth c H locs cells slots Q (F0 m pc ls (.int i :: .ref (xr B ad k) :: rest)) := by
  obtain ⟨cell, c1, c2, c3, c4, c5⟩ := XRh.ints hO hK (by decide) hk
  have hlt : i.toNatClampNeg < n := Nat.not_le.mp fun q => hi (Or.inr q)
  exact W.zald (v := .int (f i.toNatClampNeg)) hx hb c1 c2 c3 (by rw [c4]; exact hi) (c5 _ hlt) rfl rfl hdg kk
theorem xr_cald (hx : p.tables.exec = Jvm.exec) (hb : c.code = cc) (hK : va_K D vwCl (xtys dA) s) (XRh : XR B ad dA D H0 h H) (hO : xO ad B dA D O s H0) {k n : Nat} {f : Nat → Int32} (hk : xrd O h k = some (.inl (4, n, .inl f))) {i : Int32} (hi : ¬ (i < 0 ∨ n ≤ i.toNatClampNeg)) (hdg : decode cc pc = .ok (.caload, 1))
    (kk : W p l e R s m args below meth c H locs cells slots Q (F0 m (pc + 1) ls (.int (f i.toNatClampNeg) :: rest))) : W p l e R s m args below meth c H locs cells slots Q (F0 m pc ls (.int i :: .ref (xr B ad k) :: rest)) := by
  obtain ⟨cell, c1, c2, c3, c4, c5⟩ := XRh.ints hO hK (by decide) hk
  have hlt : i.toNatClampNeg < n := Nat.not_le.mp fun q => hi (Or.inr q)
  exact W.cald (v := .int (f i.toNatClampNeg)) hx hb c1 c2 c3 (by rw [c4]; exact hi) (c5 _ hlt) rfl rfl hdg kk
theorem xr_lald (hx : p.tables.exec = Jvm.exec) (hb : c.code = cc) (hK : va_K D vwCl (xtys dA) s) (XRh : XR B ad dA D H0 h H) (hO : xO ad B dA D O s H0) {k n : Nat} {f : Nat → Int64} (hk : xrd O h k = some (.inl (1, n, .inr (.inl f)))) {i : Int32} (hi : ¬ (i < 0 ∨ n ≤ i.toNatClampNeg)) (hdg : decode cc pc = .ok (.laload, 1))
    (kk : W p l e R s m args below meth c H locs cells slots Q (F0 m (pc + 1) ls (.long (f i.toNatClampNeg) :: rest))) : W p l e R s m args below meth c H locs cells slots Q (F0 m pc ls (.int i :: .ref (xr B ad k) :: rest)) := by
  obtain ⟨cell, c1, c2, c3, c4, c5⟩ := XRh.longs hO hK hk
  have hlt : i.toNatClampNeg < n := Nat.not_le.mp fun q => hi (Or.inr q)
  exact W.lald (v := .long (f i.toNatClampNeg)) hx hb c1 c2 c3 (by rw [c4]; exact hi) (c5 _ hlt) rfl rfl hdg kk
theorem xr_aald (hx : p.tables.exec = Jvm.exec) (hb : c.code = cc) (hK : va_K D vwCl (xtys dA) s) (XRh : XR B ad dA D H0 h H) (hO : xO ad B dA D O s H0) {k t n : Nat} {f : Nat → Option Nat} (ht : t < 12) (href : (xT.getD t .int).isReference = true) (hk : xrd O h k = some (.inl (t, n, .inr (.inr (.inr (.inr f)))))) {i : Int32} (hi : ¬ (i < 0 ∨ n ≤ i.toNatClampNeg)) (hdg : decode cc pc = .ok (.aaload, 1))
    (kk : W p l e R s m args below meth c H locs cells slots Q (F0 m (pc + 1) ls (xv B ad (va_rf (f i.toNatClampNeg)) :: rest))) : W p l e R s m args below meth c H locs cells slots Q (F0 m pc ls (.int i :: .ref (xr B ad k) :: rest)) := by
  obtain ⟨-, -, cell, c1, rfl, c2, c3⟩ := XRh.refs hO hK ht hk
  have hlt : i.toNatClampNeg < n := Nat.not_le.mp fun q => hi (Or.inr q)
  have ev : xv B ad (va_rf (f i.toNatClampNeg)) = va_rf ((f i.toNatClampNeg).map (xr B ad)) := by cases f i.toNatClampNeg <;> rfl
  rw [ev] at kk
  exact W.aald (v := va_rf ((f i.toNatClampNeg).map (xr B ad))) hx hb c1 c2 href c3 (by rw [arrV_size]; exact hi) (arrV_read _ _ hlt) rfl rfl hdg kk
/-- a length: of any row -/
theorem xr_alen (hx : p.tables.exec = Jvm.exec) (hb : c.code = cc) (hK : va_K D vwCl (xtys dA) s) (XRh : XR B ad dA D H0 h H) (hO : xO ad B dA D O s H0) {k t n : Nat} {y : (Nat → Int32) ⊕ (Nat → Int64) ⊕ (Nat → UInt32) ⊕ (Nat → UInt64) ⊕ (Nat → Option Nat)} (ht : t < 12) (hk : xrd O h k = some (.inl (t, n, y))) (hdg : decode cc pc = .ok (.arraylength, 1))
    (kk : W p l e R s m args below meth c H locs cells slots Q (F0 m (pc + 1) ls (.int (Int32.ofNat n) :: rest))) : W p l e R s m args below meth c H locs cells slots Q (F0 m pc ls (.ref (xr B ad k) :: rest)) := by
  have key : ∃ cell : Cell, H[xr B ad k]? = some cell ∧ s.isArrayOf cell (xT.getD t .int) ∧ cell.slots.size = n := by
    have hr := XRh
    obtain ⟨r1, r2, r3, r4, r5⟩ := hr
    have hk' := hk
    unfold xrd at hk'
    split at hk'
    · rename_i h1
      split at hk'
      · rename_i h2
        have h3 := r5 k h2
        rw [Option.some.inj hk'] at h3
        rw [xr_new h1]
        have hA := (hK.2 t _ (xtys_at dA ht)).1
        match y, h3 with
        | .inl f, h3 => exact ⟨_, h3, hA n _, arrV_size ..⟩
        | .inr (.inl f), h3 => exact ⟨_, h3, hA n _, arrV_size ..⟩
        | .inr (.inr (.inl f)), h3 => exact ⟨_, h3, hA n _, arrV_size ..⟩
        | .inr (.inr (.inr (.inl f))), h3 => exact ⟨_, h3, hA n _, arrV_size ..⟩
        | .inr (.inr (.inr (.inr f))), h3 => exact ⟨_, h3, hA n _, arrV_size ..⟩
      · cases hk'
    · match y with
      | .inl f =>
        obtain ⟨cell, c1, c2, c3, c4, c5⟩ := XRh.ints hO hK ht hk
        exact ⟨cell, c1, c2, c4⟩
      | .inr g => exact (hO _ _ hk').2.elim
  obtain ⟨cell, c1, c2, c3⟩ := key
  exact W.alen hx hb c1 c2 (by rw [c3]) rfl rfl hdg kk
end XHR
