/-! ===== what a method's entry must say, and that the picture's heap steps are the machine's ===== -/
def xW : List Jvm.Cond := lw_tbx.filter goodWord
theorem xW_in {w : Jvm.Cond} (h : w ∈ xW) : w ∈ lw_tbx := (List.mem_filter.mp h).1
theorem xW_gw {w : Jvm.Cond} (h : w ∈ xW) : goodWord w = true := (List.mem_filter.mp h).2
/-- the words and facts behind an instruction that reads or writes the heap, makes, or loads a constant -/
def xvh (own : String) (ini : Bool) (ins : Instr) (r0 r1 : Nat) (cv : Value) : Prop := match ins with
  | .ldc i => (∃ v, cv = .int v ∧ Jvm.Cond.constant own i v ∈ xW) ∨ ∃ q ∈ xStr, q.1 = own ∧ q.2.1 = i ∧ cv = .ref (1000000000 + q.2.2.2)
  | .ldc_w i => ∃ v, cv = .int v ∧ Jvm.Cond.constant own i v ∈ xW
  | .ldc2_w i => ∃ v, cv = .long v ∧ Jvm.Cond.constantLong own i v ∈ xW
  | .getstatic i => ∃ q ∈ xSta, cv = q.2.2.2 ∧ Jvm.Cond.fieldLink own i q.1 q.2.1 q.2.2.1 ∈ xW
  | .getfield i => ∃ (C : String) (T : u_T) (N : Nat), vwCl[r0]? = some (C, T, N) ∧ r1 < N ∧ (Jvm.Cond.fieldLink own i (T r1).1 (T r1).2.1 (T r1).2.2.1 ∈ xW ∨ ∃ host, Jvm.Cond.fieldLinkNest own i (T r1).1 (T r1).2.1 (T r1).2.2.1 host ∈ xNw)
  | .putfield i => ∃ (C : String) (T : u_T) (N : Nat), vwCl[r0]? = some (C, T, N) ∧ r1 < N ∧ Jvm.Cond.fieldLink own i (T r1).1 (T r1).2.1 (T r1).2.2.1 ∈ xW ∧ ((T r1).2.2.2 = false ∨ ((T r1).2.2.2 = true ∧ ini = true ∧ (T r1).1 = own))
  | .new i => ∃ (C : String) (T : u_T), vwCl[r0]? = some (C, T, r1) ∧ Jvm.Cond.classLink own i C ∈ xW ∧ Jvm.Cond.instantiable C r1 ∈ xW ∧ Jvm.Cond.initialized C ∈ xW
  | .newarray a => Jvm.Cond.arrayClass (newarray.typeOf a) ∈ xW
  | .anewarray i => (r0 < 12 ∧ ∃ C, xT.getD r0 .int = .object C ∧ Jvm.Cond.classLink own i C ∈ xW ∧ Jvm.Cond.arrayOver (.object C) ∈ xNw) ∨ (r0 = 5 ∧ Jvm.Cond.classLink own i "[I" ∈ xW ∧ Jvm.Cond.arrayOver (.array .int) ∈ xNw)
  | .checkcast i => Jvm.Cond.classLink own i "[B" ∈ xW
  | .multianewarray i _ => Jvm.Cond.classLink own i "[[I" ∈ xW ∧ Jvm.Cond.arrayOver (.array .int) ∈ xNw ∧ Jvm.Cond.arrayClass .int ∈ xW
  | _ => True
theorem xdv_ok (ty : FieldType) : defaultValue ty = xdv ty := by cases ty <;> rfl
theorem xot_ok (t : Nat) (h1 : 5 < t) (h2 : t < 12) : ∃ r : vw_C, vwCl[xot t]? = some r ∧ xT.getD t .int = .object r.1 := by
  rcases (show t = 6 ∨ t = 7 ∨ t = 8 ∨ t = 9 ∨ t = 10 ∨ t = 11 by omega) with rfl | rfl | rfl | rfl | rfl | rfl <;> exact ⟨_, rfl, rfl⟩
theorem xref_ok (t : Nat) (h1 : 5 ≤ t) (h2 : t < 12) : (xT.getD t .int).isReference = true := by
  rcases (show t = 5 ∨ t = 6 ∨ t = 7 ∨ t = 8 ∨ t = 9 ∨ t = 10 ∨ t = 11 by omega) with rfl | rfl | rfl | rfl | rfl | rfl | rfl <;> rfl
section XHS
variable {p : Program} {l : Launch} {e : Env} {R : Room} {s : State} {m : MethodId} {args : Array Value} {below : List Frame} {meth : Method} {c : Code} {H : Heap} {locs : List Loc} {cells slots : Nat} {Q : State → Prop}
variable {cc : ByteArray} {pc : Nat} {ls : Array Slot} {own : String}
variable {B : Nat} {ad : Nat → Nat} {dA : Nat → ClassId} {D : va_G} {H0 : Heap} {h : Nat × Nat × (Nat → va_E)} {O : Nat → Option va_E}
set_option maxHeartbeats 4000000 in
theorem xhs_ok (hcf : ∀ (ci N : Nat) (C : String) (T : u_T), vwCl[ci]? = some (C, T, N) → xcf xW ci C T N (xTy ci)) (hx : p.tables.exec = Jvm.exec) (hb : c.code = cc) (hts : ∀ w ∈ xW, w.before args s = true) (hown : s.vm.findClass own = some m.cls) (hKK : xKK B ad dA D H0 O s) (XRh : XR B ad dA D H0 h H) (hlocs : ∀ q ∈ locs, B ≤ q.base)
    {ini : Bool} (hini : ini = true → meth.name = "<init>") {ins : Instr} {len r0 r1 : Nat} {cv : Value} (hv : xvh own ini ins r0 r1 cv) (hdg : decode cc pc = .ok (ins, len)) {st st' : List Value} {h' : Nat × Nat × (Nat → va_E)} (hh : xhs O ins len r0 r1 cv st h = some (st', h'))
    {mc ms : Nat} (hm1 : h'.1 = h.1 + mc) (hm2 : h'.2.1 = h.2.1 + ms) (hcells : cells + mc ≤ R.cells) (hslots : slots + ms ≤ R.slots)
    (k : ∀ (H1 : Heap) (locs1 : List Loc), XR B ad dA D H0 h' H1 → (∀ q ∈ locs1, B ≤ q.base) → W p l e R s m args below meth c H1 locs1 (cells + mc) (slots + ms) Q (F0 m (pc + len) ls (st'.map (xv B ad)))) : W p l e R s m args below meth c H locs cells slots Q (F0 m pc ls (st.map (xv B ad))) := by
  obtain ⟨hK, hO, hq5, hstr, hsta, hnw⟩ := id hKK
  have same : ∀ {h' : Nat × Nat × (Nat → va_E)}, h'.1 = h.1 → h'.2.1 = h.2.1 → h'.1 = h.1 + mc → h'.2.1 = h.2.1 + ms → mc = 0 ∧ ms = 0 := fun a b c d => by omega
  unfold xhs at hh
  split at hh
  · -- ldc
    cases hh
    obtain ⟨rfl, rfl⟩ := same rfl rfl hm1 hm2
    rcases hv with ⟨v, rfl, hw⟩ | ⟨q, hq, q1, q2, rfl⟩
    · exact lv_ldc hx hb hown (hts _ hw) hdg (k H locs XRh hlocs)
    · have hz := hstr q hq
      rw [q1, q2] at hz
      have k2 := k H locs XRh hlocs
      have ez : xv B ad (.ref (1000000000 + q.2.2.2)) = .ref (ad q.2.2.2) := by
        show Value.ref (xr B ad (1000000000 + q.2.2.2)) = _
        rw [xr_old (by omega), Nat.add_sub_cancel_left]
      rw [List.map_cons, ez] at k2
      exact va_ldcS hx hb hown hz hdg k2
  · -- ldc_w
    cases hh
    obtain ⟨rfl, rfl⟩ := same rfl rfl hm1 hm2
    obtain ⟨v, rfl, hw⟩ := hv
    exact lv_ldcw hx hb hown (hts _ hw) hdg (k H locs XRh hlocs)
  · -- ldc2_w
    cases hh
    obtain ⟨rfl, rfl⟩ := same rfl rfl hm1 hm2
    obtain ⟨v, rfl, hw⟩ := hv
    exact lv_ldc2 hx hb hown (hts _ hw) hdg (k H locs XRh hlocs)
  · -- getstatic
    cases hh
    obtain ⟨rfl, rfl⟩ := same rfl rfl hm1 hm2
    obtain ⟨q, hq, rfl, hw⟩ := hv
    exact xr_gets hx hb (hsta q hq) XRh hown (hts _ hw) hdg (k H locs XRh hlocs)
  · -- getfield
    split at hh
    · split at hh
      · rename_i hk
        split at hh
        · rename_i hc
          subst hc
          split at hh
          · rename_i v hvv
            cases hh
            obtain ⟨rfl, rfl⟩ := same rfl rfl hm1 hm2
            obtain ⟨C, T, N, e1, e2, e3⟩ := hv
            exact xr_get hx hb hts hown hK XRh hO (hcf _ _ _ _ e1) e2 (e3.imp id (fun z => z.imp (fun host q => va_Nw.use rfl (hnw _ q)))) hk hvv hdg (k H locs XRh hlocs)
          · cases hh
        · cases hh
      · cases hh
    · cases hh
  · -- putfield
    split at hh
    · split at hh
      · rename_i hk1
        split at hh
        · rename_i hk
          split at hh
          · rename_i hc
            obtain ⟨hc, hl, hfit⟩ := hc
            subst hc
            cases hh
            obtain ⟨rfl, rfl⟩ := same rfl rfl hm1 hm2
            obtain ⟨C, T, N, e1, e2, e3, e4⟩ := hv
            exact xr_put hx hb hts hown hK XRh hlocs (hcf _ _ _ _ e1) e2 e3 (e4.imp id (fun q => ⟨q.1, hini q.2.1, q.2.2⟩)) hk1.1 hk1.2 hk hl hfit hdg (fun H1 locs1 a b => k H1 locs1 a b)
          · cases hh
        · cases hh
      · cases hh
    · cases hh
  · -- arraylength
    split at hh
    · split at hh
      · rename_i hk
        split at hh
        · rename_i ht
          cases hh
          obtain ⟨rfl, rfl⟩ := same rfl rfl hm1 hm2
          exact xr_alen hx hb hK XRh hO ht hk hdg (k H locs XRh hlocs)
        · cases hh
      · cases hh
    · cases hh
  · -- iaload
    split at hh
    · split at hh
      · rename_i hk
        split at hh
        · rename_i ht
          subst ht
          split at hh
          · cases hh
          · rename_i hi
            cases hh
            obtain ⟨rfl, rfl⟩ := same rfl rfl hm1 hm2
            exact xr_iald hx hb hK XRh hO hk hi hdg (k H locs XRh hlocs)
        · cases hh
      · cases hh
    · cases hh
  · -- baload
    split at hh
    · split at hh
      · rename_i hk
        split at hh
        · rename_i ht
          split at hh
          · cases hh
          · rename_i hi
            cases hh
            obtain ⟨rfl, rfl⟩ := same rfl rfl hm1 hm2
            rcases ht with ht | ht
            · subst ht
              exact xr_zald hx hb hK XRh hO hk hi hdg (k H locs XRh hlocs)
            · subst ht
              exact xr_bald hx hb hK XRh hO hk hi hdg (k H locs XRh hlocs)
        · cases hh
      · cases hh
    · cases hh
  · -- caload
    split at hh
    · split at hh
      · rename_i hk
        split at hh
        · rename_i ht
          subst ht
          split at hh
          · cases hh
          · rename_i hi
            cases hh
            obtain ⟨rfl, rfl⟩ := same rfl rfl hm1 hm2
            exact xr_cald hx hb hK XRh hO hk hi hdg (k H locs XRh hlocs)
        · cases hh
      · cases hh
    · cases hh
  · -- laload
    split at hh
    · split at hh
      · rename_i hk
        split at hh
        · rename_i ht
          subst ht
          split at hh
          · cases hh
          · rename_i hi
            cases hh
            obtain ⟨rfl, rfl⟩ := same rfl rfl hm1 hm2
            exact xr_lald hx hb hK XRh hO hk hi hdg (k H locs XRh hlocs)
        · cases hh
      · cases hh
    · cases hh
  · -- aaload
    split at hh
    · split at hh
      · rename_i hk
        split at hh
        · rename_i ht
          split at hh
          · cases hh
          · rename_i hi
            cases hh
            obtain ⟨rfl, rfl⟩ := same rfl rfl hm1 hm2
            exact xr_aald hx hb hK XRh hO ht.2 (xref_ok _ ht.1 ht.2) hk hi hdg (k H locs XRh hlocs)
        · cases hh
      · cases hh
    · cases hh
  · -- iastore
    split at hh
    · split at hh
      · rename_i hk1
        split at hh
        · rename_i hk
          split at hh
          · rename_i ht
            subst ht
            split at hh
            · cases hh
            · rename_i hi
              cases hh
              obtain ⟨rfl, rfl⟩ := same rfl rfl hm1 hm2
              exact xr_iast hx hb hK XRh hlocs hk1.1 hk1.2 hk hi hdg (fun H1 locs1 a b => k H1 locs1 a b)
          · cases hh
        · cases hh
      · cases hh
    · cases hh
  · -- bastore
    split at hh
    · split at hh
      · rename_i hk1
        split at hh
        · rename_i hk
          split at hh
          · rename_i ht
            subst ht
            split at hh
            · cases hh
            · rename_i hi
              cases hh
              obtain ⟨rfl, rfl⟩ := same rfl rfl hm1 hm2
              exact xr_zast hx hb hK XRh hlocs hk1.1 hk1.2 hk hi hdg (fun H1 locs1 a b => k H1 locs1 a b)
          · split at hh
            · rename_i ht
              subst ht
              split at hh
              · cases hh
              · rename_i hi
                cases hh
                obtain ⟨rfl, rfl⟩ := same rfl rfl hm1 hm2
                exact xr_bast hx hb hK XRh hlocs hk1.1 hk1.2 hk hi hdg (fun H1 locs1 a b => k H1 locs1 a b)
            · cases hh
        · cases hh
      · cases hh
    · cases hh
  · -- castore
    split at hh
    · split at hh
      · rename_i hk1
        split at hh
        · rename_i hk
          split at hh
          · rename_i ht
            subst ht
            split at hh
            · cases hh
            · rename_i hi
              cases hh
              obtain ⟨rfl, rfl⟩ := same rfl rfl hm1 hm2
              exact xr_cast hx hb hK XRh hlocs hk1.1 hk1.2 hk hi hdg (fun H1 locs1 a b => k H1 locs1 a b)
          · cases hh
        · cases hh
      · cases hh
    · cases hh
  · -- lastore
    split at hh
    · split at hh
      · rename_i hk1
        split at hh
        · rename_i hk
          split at hh
          · rename_i ht
            subst ht
            split at hh
            · cases hh
            · rename_i hi
              cases hh
              obtain ⟨rfl, rfl⟩ := same rfl rfl hm1 hm2
              exact xr_last hx hb hK XRh hlocs hk1.1 hk1.2 hk hi hdg (fun H1 locs1 a b => k H1 locs1 a b)
          · cases hh
        · cases hh
      · cases hh
    · cases hh
  · -- aastore
    split at hh
    · split at hh
      · rename_i hk1
        split at hh
        · rename_i hk
          split at hh
          · cases hh
          · rename_i hi
            split at hh
            · rename_i hv2
              split at hh
              · rename_i ht
                obtain ⟨e1, e2, e3⟩ := ht
                cases hh
                obtain ⟨rfl, rfl⟩ := same rfl rfl hm1 hm2
                obtain ⟨r, g1, g2⟩ := xot_ok _ e2 e3
                rw [← e1] at g1
                exact xr_aast hx hb hK XRh hO hlocs e3 g1 g2 hk1.1 hk1.2 hk hv2 hi hdg (fun H1 locs1 a b => k H1 locs1 a b)
              · cases hh
            · rename_i hv2
              split at hh
              · rename_i ht
                obtain ⟨e1, e2, e3⟩ := ht
                subst e1
                subst e2
                cases hh
                obtain ⟨rfl, rfl⟩ := same rfl rfl hm1 hm2
                have hv3 := hv2
                unfold xrd at hv3
                rw [if_pos e3] at hv3
                split at hv3
                · rename_i e4
                  exact xr_aasti hx hb hK hq5 XRh hlocs hk1.1 hk1.2 hk e3 e4 (Option.some.inj hv3) hi hdg (fun H1 locs1 a b => k H1 locs1 a b)
                · cases hv3
              · cases hh
            · cases hh
        · cases hh
      · cases hh
    · cases hh
  · -- new
    split at hh
    · rename_i hl
      cases hh
      have e1 : mc = 1 := by have : h.1 + 1 = h.1 + mc := hm1; omega
      have e2 : ms = r1 := by have : h.2.1 + r1 = h.2.1 + ms := hm2; omega
      subst e1
      subst e2
      obtain ⟨C, T, g1, g2, g3, g4⟩ := hv
      refine xr_mk hx hb hts hown hK XRh (hcf _ _ _ _ g1) g2 g3 g4 (fun j hj => ?_) hl hcells hslots hdg (fun H1 a => k H1 locs a hlocs)
      rw [List.map_map]
      unfold vp_V
      rw [List.getD_eq_getElem?_getD, List.getElem?_map, List.getElem?_range hj]
      show defaultValue _ = xv B ad (xdv _)
      rw [xdv_ok]
      cases xTy r0 j <;> rfl
    · cases hh
  · -- newarray
    split at hh
    · rename_i n r
      split at hh
      · rename_i a hat
        split at hh
        · cases hh
        · rename_i hn
          cases hh
          have hn1 : ¬ _ := fun q => hn (Or.inl q)
          have hn2 : ¬ _ := fun q => hn (Or.inr (Or.inl q))
          have hn3 : ¬ ¬ _ := fun q => hn (Or.inr (Or.inr q))
          have e1 : mc = 1 := by have : h.1 + 1 = h.1 + mc := hm1; omega
          subst e1
          have e2 : ms = n.toNatClampNeg := by have : h.2.1 + n.toNatClampNeg = h.2.1 + ms := hm2; exact (Nat.add_left_cancel this).symm
          subst e2
          unfold xat at hat
          split at hat
          · cases hat
            exact xr_mka (atype := .int) hx hb hK XRh (by decide) rfl (hts _ hv) (fun cA => rfl) rfl hn1 rfl (by show _ * 4 ≤ _; omega) (Classical.not_not.mp hn3) hcells hslots hdg (fun H1 a => k H1 locs a hlocs)
          · cases hat
            exact xr_mka (atype := .long) hx hb hK XRh (by decide) rfl (hts _ hv) (fun cA => rfl) rfl hn1 rfl (by show _ * 8 ≤ _; omega) (Classical.not_not.mp hn3) hcells hslots hdg (fun H1 a => k H1 locs a hlocs)
          · cases hat
            exact xr_mka (atype := .boolean) hx hb hK XRh (by decide) rfl (hts _ hv) (fun cA => rfl) rfl hn1 rfl (by show _ * 1 ≤ _; omega) (Classical.not_not.mp hn3) hcells hslots hdg (fun H1 a => k H1 locs a hlocs)
          · cases hat
            exact xr_mka (atype := .byte) hx hb hK XRh (by decide) rfl (hts _ hv) (fun cA => rfl) rfl hn1 rfl (by show _ * 1 ≤ _; omega) (Classical.not_not.mp hn3) hcells hslots hdg (fun H1 a => k H1 locs a hlocs)
          · cases hat
            exact xr_mka (atype := .char) hx hb hK XRh (by decide) rfl (hts _ hv) (fun cA => rfl) rfl hn1 rfl (by show _ * 2 ≤ _; omega) (Classical.not_not.mp hn3) hcells hslots hdg (fun H1 a => k H1 locs a hlocs)
          · cases hat
      · cases hh
    · cases hh
  · -- anewarray
    split at hh
    · rename_i n r
      split at hh
      · cases hh
      · rename_i hn
        cases hh
        have hn1 : ¬ _ := fun q => hn (Or.inl q)
        have hn2 : ¬ _ := fun q => hn (Or.inr (Or.inl q))
        have hn3 : ¬ ¬ _ := fun q => hn (Or.inr (Or.inr q))
        have e1 : mc = 1 := by have : h.1 + 1 = h.1 + mc := hm1; omega
        subst e1
        have e2 : ms = n.toNatClampNeg := by have : h.2.1 + n.toNatClampNeg = h.2.1 + ms := hm2; exact (Nat.add_left_cancel this).symm
        subst e2
        rcases hv with ⟨g1, C, g2, g3, g4⟩ | ⟨rfl, g3, g4⟩
        · exact xr_mkq hx hb hts hown hK XRh g1 g2 g3 (va_AO.use (hnw _ g4)) hn1 (by omega) (Classical.not_not.mp hn3) hcells hslots hdg (fun H1 a => k H1 locs a hlocs)
        · exact xr_mkr hx hb hts hown hK XRh g3 (show (Jvm.Cond.arrayOver (.array .int)).before args s = true from hnw _ g4) hn1 (by omega) (Classical.not_not.mp hn3) hcells hslots hdg (fun H1 a => k H1 locs a hlocs)
    · cases hh
  · -- checkcast
    split at hh
    · split at hh
      · rename_i k2 r0 hc
        split at hh
        · rename_i t n f hk
          split at hh
          · rename_i ht
            subst ht
            cases hh
            obtain ⟨rfl, rfl⟩ := same rfl rfl hm1 hm2
            have hat := XRh.2.2.2.2 k2 hc.2
            rw [hk] at hat
            have hxr : xr B ad k2 = B + k2 := xr_new hc.1
            have kk := k H locs XRh hlocs
            show W p l e R s m args below meth c H locs cells slots Q (F0 m pc ls (.ref (xr B ad k2) :: r0.map (xv B ad)))
            have kk2 : W p l e R s m args below meth c H locs (cells + 0) (slots + 0) Q (F0 m (pc + 3) ls (.ref (xr B ad k2) :: r0.map (xv B ad))) := kk
            rw [hxr] at kk2 ⊢
            exact va_castA hx hb hown (hts _ hv) (xr_one hat) 0 rfl (hK.2 3 _ (xtys_at dA (by omega))).2 hdg kk2
          · cases hh
        · cases hh
      · cases hh
    · cases hh
  · -- multianewarray
    split at hh
    · rename_i k2 n r
      split at hh
      · cases hh
      · rename_i hn
        cases hh
        have hn1 : ¬ _ := fun q => hn (Or.inl q)
        have hn2 : ¬ _ := fun q => hn (Or.inr (Or.inl q))
        have hn3 : ¬ _ := fun q => hn (Or.inr (Or.inr (Or.inl q)))
        have hn4 : ¬ _ := fun q => hn (Or.inr (Or.inr (Or.inr (Or.inl q))))
        have hn5 : ¬ ¬ _ := fun q => hn (Or.inr (Or.inr (Or.inr (Or.inr q))))
        have e1 : mc = 1 + n.toNatClampNeg := by have : h.1 + (1 + n.toNatClampNeg) = h.1 + mc := hm1; exact (Nat.add_left_cancel this).symm
        subst e1
        have e2 : ms = n.toNatClampNeg + n.toNatClampNeg * k2.toNatClampNeg := by have : h.2.1 + (n.toNatClampNeg + n.toNatClampNeg * k2.toNatClampNeg) = h.2.1 + ms := hm2; exact (Nat.add_left_cancel this).symm
        subst e2
        obtain ⟨g1, g2, g3⟩ := hv
        exact xr_mm hx hb hts hown hK XRh hlocs g1 (show (Jvm.Cond.arrayOver (.array .int)).before args s = true from hnw _ g2) (hts _ g3) hn1 hn2 (by omega) (by omega) (Classical.not_not.mp hn5) hcells hslots hdg k
    · cases hh
  · cases hh
end XHS
