section XSM
variable {B : Nat} {ad : Nat → Nat} {dA : Nat → ClassId} {D : va_G} {H0 : Heap} {O : Nat → Option va_E} {P : Nat → Option xMe} {xY : Nat → MethodName} {xB : Nat → ByteArray}
/-- what the picture's run says of the machine: from a point within method m -/
def xAt (B : Nat) (ad : Nat → Nat) (dA : Nat → ClassId) (D : va_G) (H0 : Heap) (O : Nat → Option va_E) (P : Nat → Option xMe) (xY : Nat → MethodName) (xB : Nat → ByteArray) (f : Nat) : Prop :=
  ∀ (d m : Nat) (me : xMe) (pc : Nat) (lv : List (Nat × Value)) (st : List Value) (h : Nat × Nat × (Nat → va_E)) (rv : Option Value) (hF : Nat × Nat × (Nat → va_E)), P m = some me → xgo P O f d m pc lv st h = some (rv, hF) →
  ∀ (p : Program) (l : Launch) (e : Env) (R : Room) (s : State) (mm : MethodId) (args : Array Value) (below : List Frame) (meth : Method) (c : Code) (H : Heap) (locs : List Loc) (cells slots Cf Sf : Nat) (Q : State → Prop) (ls : Array Slot),
  p.tables.exec = Jvm.exec → c.code = xB m → c.maxLocals = me.2.1 → (∀ w ∈ xW, w.before args s = true) → s.vm.findClass (xY m).cls = some mm.cls → ((xY m).name = "<init>" → meth.name = "<init>") → xKK B ad dA D H0 O s → XR B ad dA D H0 h H → (∀ q ∈ locs, B ≤ q.base) → lv_has ls me.2.1 (xL B ad lv) →
  2 * d + 1 ≤ R.frames → (d + 1) * 200 ≤ R.locals → cells + hF.1 = Cf + h.1 → slots + hF.2.1 = Sf + h.2.1 → Cf ≤ R.cells → Sf ≤ R.slots →
  (∀ (pc' : Nat) (ls' : Array Slot) (H' : Heap) (locs' : List Loc) (ins' : Instr) (len' : Nat) (st' : List Value), decode (xB m) pc' = .ok (ins', len') → xre me.2.2 ins' len' st' = some rv → XR B ad dA D H0 hF H' → (∀ q ∈ locs', B ≤ q.base) → W p l e R s mm args below meth c H' locs' Cf Sf Q (F0 mm pc' ls' (st'.map (xv B ad)))) →
  W p l e R s mm args below meth c H locs cells slots Q (F0 mm pc ls (st.map (xv B ad)))
set_option maxHeartbeats 4000000 in
/-- a method's contract, of its picture's run -/
theorem xmet {f : Nat} (hA : xAt B ad dA D H0 O P xY xB f) {m : Nat} {me : xMe} (hP : P m = some me) (hV : xVm xY xB P m me) {d : Nat} {av : List Value} {h hF : Nat × Nat × (Nat → va_E)} {rv : Option Value} (hlen : (lg_sl av).length ≤ me.2.1) (hg : xgo P O f d m 0 (lv_args 0 av) [] h = some (rv, hF)) (l : Launch) {mc ms : Nat} (hm1 : hF.1 = h.1 + mc) (hm2 : hF.2.1 = h.2.1 + ms) :
    Met l (xY m) (xWs xY xB m me) (xrm d mc ms) (xPc B ad dA D H0 O av h) (xQc B ad dA D H0 rv hF) mc ms (fun q => B ≤ q) := by
  refine va_MetF (cc := xB m) (maxL := me.2.1) (ret := me.2.2) hV.2.1 (ws' := xW) rfl ?_
  intro p e s mm args below meth c s₁ Bd hml hv
  obtain ⟨rfl, hXR, hKK⟩ := hv
  have hx := Bd.exec
  have hb := Bd.bytes
  have hr := Bd.returns
  have hts0 := atoms_spec (ws := xWs xY xB m me) Bd.pre
  have hts : ∀ w ∈ xW, w.before (av.map (xv B ad)).toArray s = true := fun w hw => hts0 w (List.mem_cons_of_mem _ hw)
  have hown : s.vm.findClass (xY m).cls = some mm.cls := findClass_of_methodNamed Bd.named
  have hlocks := Bd.notSynchronized
  have hin : meth.name = (xY m).name := (name_of_methodNamed Bd.named Bd.method).1
  rw [lg_entry_eq]
  have hl := lv_entry (av.map (xv B ad)) (n := me.2.1) (by rw [lg_sl_conv]; exact hlen)
  generalize (lg_sl (av.map (xv B ad)) ++ List.replicate (me.2.1 - (lg_sl (av.map (xv B ad))).length) Slot.unset).toArray = ls at hl ⊢
  rw [lv_args_conv] at hl
  refine hA d m me 0 (lv_args 0 av) [] h rv hF hP hg p l e _ s mm _ below meth c s.heap [] 0 0 mc ms _ ls hx hb hml hts hown (fun q => hin.trans q) hKK hXR (fun q hq => by cases hq) hl (Nat.le_refl _) (Nat.le_refl _) (by omega) (by omega) (Nat.le_refl _) (Nat.le_refl _) ?_
  intro pc' ls' H' locs' ins' len' st' hdg hre hXF hlF
  unfold xre at hre
  split at hre
  · split at hre
    · rename_i ty hty
      split at hre
      · rename_i hfit
        cases hre
        exact W.zret hx hb (hr.trans hty) (narrow_of_fits (xfit_nar _ _ hfit)) (fun t ht hW => ⟨rfl, by rw [ht]; exact hXF⟩) hlF hdg
      · cases hre
    · cases hre
  · split at hre
    · rename_i hty
      cases hre
      exact W.lret hx hb (hr.trans hty) (fun t ht hW => ⟨rfl, by rw [ht]; exact hXF⟩) hlF hdg
    · cases hre
  · split at hre
    · rename_i hty
      cases hre
      exact W.dret hx hb (hr.trans hty) (fun t ht hW => ⟨rfl, by rw [ht]; exact hXF⟩) hlF hdg
    · cases hre
  · split at hre
    · rename_i ty hty
      split at hre
      · rename_i hfit
        cases hre
        obtain ⟨hf1, hf2⟩ := hfit
        have hrt : (∃ n, ty = .object n) ∨ ∃ t, ty = .array t := by
          cases ty <;> first | (cases hf1; done) | exact Or.inl ⟨_, rfl⟩ | exact Or.inr ⟨_, rfl⟩
        have hvv : ∀ v : Value, xfit ty v = true → xv B ad v = .null ∨ ∃ a, xv B ad v = .ref a := by
          intro v hv
          cases v <;> first | exact Or.inl rfl | exact Or.inr ⟨_, rfl⟩ | (rcases hrt with ⟨n, rfl⟩ | ⟨t, rfl⟩ <;> cases hv)
        exact W.aret hx hb (hr.trans hty) hrt (hvv _ hf2) (fun t ht hW => ⟨rfl, by rw [ht]; exact hXF⟩) hlF hdg
      · cases hre
    · cases hre
  · split at hre
    · rename_i hty
      cases hre
      exact W.vret hx hb (hr.trans hty) (fun t ht hW => ⟨rfl, by rw [ht]; exact hXF⟩) hlF hdg
    · cases hre
  · cases hre
end XSM
