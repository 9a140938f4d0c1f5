section XGS
variable {p : Program} {l : Launch} {e : Env} {R : Room} {s : State} {m : MethodId} {args : Array Value} {below : List Frame} {meth : Method} {c : Code} {H : Heap} {locs : List Loc} {cells slots : Nat} {Q : State → Prop}
variable {cc : ByteArray} {pc : Nat} {ls : Array Slot} {rest : List Value} {own : String}
variable {B : Nat} {ad : Nat → Nat} {dA : Nat → ClassId} {D : va_G} {H0 : Heap} {h : Nat × Nat × (Nat → va_E)}
/-- a static: its cell lies among the old ones -/
theorem xr_gets (hx : p.tables.exec = Jvm.exec) (hb : c.code = cc) {C n d : String} {v : Value} {index : Nat} (hZ : va_Z C n d v (fun a => B ≤ a) s H0) (XRh : XR B ad dA D H0 h H) (hown : s.vm.findClass own = some m.cls) (hlink : (Jvm.Cond.fieldLink own index C n d).before args s = true) (hdg : decode cc pc = .ok (.getstatic index, 3))
    (kk : W p l e R s m args below meth c H locs cells slots Q (F0 m (pc + 3) ls (v :: rest))) : W p l e R s m args below meth c H locs cells slots Q (F0 m pc ls rest) := by
  obtain ⟨cf, kf, fi, f, a, cell, h1, h2, h3, h4, h5, h6, h7, h8⟩ := hZ
  exact W.gets hx hb hown hlink h1 h2 h3 h4 (by rw [XRh.2.2.2.1 a (Nat.not_le.mp h8)]; exact h5) (fun e => by rw [e] at h6; cases h6) h7 rfl hdg kk
end XGS
