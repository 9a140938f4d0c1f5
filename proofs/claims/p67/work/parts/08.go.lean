/-! ===== the picture's run ===== -/
/-- the class whose objects a row of references may hold, by the row's sort -/
def xot (t : Nat) : Nat := match t with
  | 6 => 4
  | 7 => 11
  | 8 => 6
  | 9 => 10
  | 10 => 3
  | 11 => 0
  | _ => 1000
/-- what the fields of a new object hold, by the class's number: int 0, null .. -/
def xdv : FieldType → Value
  | .long => .long 0
  | .float => .float 0
  | .double => .double 0
  | .object _ => .null
  | .array _ => .null
  | _ => .int 0
def xTy (ci : Nat) : Nat → FieldType := match ci with
  | 0 => tyJ0
  | 1 => tyJ4
  | 2 => tyX0
  | 3 => tyX2
  | 4 => tyX3
  | 5 => tyX4
  | 6 => tyX5
  | 7 => tyX6
  | 8 => tyX7
  | 9 => tyX8
  | 10 => tyX9
  | 11 => tyX10
  | 12 => tyX11
  | 13 => tyX12
  | 14 => tyX13
  | 15 => tyX14
  | _ => tyX15
def xat (a : ArrayType) : Option Nat := match a with
  | .int => some 0
  | .long => some 1
  | .boolean => some 2
  | .byte => some 3
  | .char => some 4
  | _ => none
/-- the content of a new row of numbers -/
def xay (t : Nat) : (Nat → Int32) ⊕ (Nat → Int64) ⊕ (Nat → UInt32) ⊕ (Nat → UInt64) ⊕ (Nat → Option Nat) := if t = 1 then .inr (.inl (fun _ => 0)) else .inl (fun _ => 0)
/-- an instruction that reads or writes the heap -/
def xhs (O : Nat → Option va_E) (ins : Instr) (len r0 r1 : Nat) (cv : Value) (st : List Value) (h : Nat × Nat × (Nat → va_E)) : Option (List Value × (Nat × Nat × (Nat → va_E))) :=
  match ins, len with
  | .ldc _, 2 => some (cv :: st, h)
  | .ldc_w _, 3 => some (cv :: st, h)
  | .ldc2_w _, 3 => some (cv :: st, h)
  | .getstatic _, 3 => some (cv :: st, h)
  | .getfield _, 3 => match st with
    | .ref k :: r => match xrd O h k with
      | some (.inr (ci, fs)) => if ci = r0 then match fs[r1]? with
        | some v => some (v :: r, h)
        | none => none
        else none
      | _ => none
    | _ => none
  | .putfield _, 3 => match st with
    | v :: .ref k :: r => if k < 1000000000 ∧ k < h.1 then match h.2.2 k with
      | .inr (ci, fs) => if ci = r0 ∧ r1 < fs.length ∧ xfit (xTy r0 r1) v = true then some (r, xup h k (.inr (ci, fs.set r1 v))) else none
      | _ => none
      else none
    | _ => none
  | .arraylength, 1 => match st with
    | .ref k :: r => match xrd O h k with
      | some (.inl (t, n, _)) => if t < 12 then some (.int (Int32.ofNat n) :: r, h) else none
      | _ => none
    | _ => none
  | .iaload, 1 => match st with
    | .int i :: .ref k :: r => match xrd O h k with
      | some (.inl (t, n, .inl f)) => if t = 0 then (if i < 0 ∨ n ≤ i.toNatClampNeg then none else some (.int (f i.toNatClampNeg) :: r, h)) else none
      | _ => none
    | _ => none
  | .baload, 1 => match st with
    | .int i :: .ref k :: r => match xrd O h k with
      | some (.inl (t, n, .inl f)) => if t = 2 ∨ t = 3 then (if i < 0 ∨ n ≤ i.toNatClampNeg then none else some (.int (f i.toNatClampNeg) :: r, h)) else none
      | _ => none
    | _ => none
  | .caload, 1 => match st with
    | .int i :: .ref k :: r => match xrd O h k with
      | some (.inl (t, n, .inl f)) => if t = 4 then (if i < 0 ∨ n ≤ i.toNatClampNeg then none else some (.int (f i.toNatClampNeg) :: r, h)) else none
      | _ => none
    | _ => none
  | .laload, 1 => match st with
    | .int i :: .ref k :: r => match xrd O h k with
      | some (.inl (t, n, .inr (.inl f))) => if t = 1 then (if i < 0 ∨ n ≤ i.toNatClampNeg then none else some (.long (f i.toNatClampNeg) :: r, h)) else none
      | _ => none
    | _ => none
  | .aaload, 1 => match st with
    | .int i :: .ref k :: r => match xrd O h k with
      | some (.inl (t, n, .inr (.inr (.inr (.inr f))))) => if 5 ≤ t ∧ t < 12 then (if i < 0 ∨ n ≤ i.toNatClampNeg then none else some (va_rf (f i.toNatClampNeg) :: r, h)) else none
      | _ => none
    | _ => none
  | .iastore, 1 => match st with
    | .int x :: .int i :: .ref k :: r => if k < 1000000000 ∧ k < h.1 then match h.2.2 k with
      | .inl (t, n, .inl f) => if t = 0 then (if i < 0 ∨ n ≤ i.toNatClampNeg then none else some (r, xup h k (.inl (t, n, .inl (upd f i.toNatClampNeg x))))) else none
      | _ => none
      else none
    | _ => none
  | .bastore, 1 => match st with
    | .int x :: .int i :: .ref k :: r => if k < 1000000000 ∧ k < h.1 then match h.2.2 k with
      | .inl (t, n, .inl f) => if t = 2 then (if i < 0 ∨ n ≤ i.toNatClampNeg then none else some (r, xup h k (.inl (t, n, .inl (upd f i.toNatClampNeg (vp_nar .boolean x))))))
        else if t = 3 then (if i < 0 ∨ n ≤ i.toNatClampNeg then none else some (r, xup h k (.inl (t, n, .inl (upd f i.toNatClampNeg (vp_nar .byte x)))))) else none
      | _ => none
      else none
    | _ => none
  | .castore, 1 => match st with
    | .int x :: .int i :: .ref k :: r => if k < 1000000000 ∧ k < h.1 then match h.2.2 k with
      | .inl (t, n, .inl f) => if t = 4 then (if i < 0 ∨ n ≤ i.toNatClampNeg then none else some (r, xup h k (.inl (t, n, .inl (upd f i.toNatClampNeg (vp_nar .char x)))))) else none
      | _ => none
      else none
    | _ => none
  | .lastore, 1 => match st with
    | .long x :: .int i :: .ref k :: r => if k < 1000000000 ∧ k < h.1 then match h.2.2 k with
      | .inl (t, n, .inr (.inl f)) => if t = 1 then (if i < 0 ∨ n ≤ i.toNatClampNeg then none else some (r, xup h k (.inl (t, n, .inr (.inl (vp_updL f i.toNatClampNeg x)))))) else none
      | _ => none
      else none
    | _ => none
  | .aastore, 1 => match st with
    | .ref v :: .int i :: .ref k :: r => if k < 1000000000 ∧ k < h.1 then match h.2.2 k with
      | .inl (t, n, .inr (.inr (.inr (.inr f)))) => if i < 0 ∨ n ≤ i.toNatClampNeg then none else match xrd O h v with
        | some (.inr (ci, _)) => if ci = xot t ∧ 5 < t ∧ t < 12 then some (r, xup h k (.inl (t, n, .inr (.inr (.inr (.inr (va_up f i.toNatClampNeg (some v)))))))) else none
        | some (.inl (t2, _, .inl _)) => if t = 5 ∧ t2 = 0 ∧ v < 1000000000 then some (r, xup h k (.inl (t, n, .inr (.inr (.inr (.inr (va_up f i.toNatClampNeg (some v)))))))) else none
        | _ => none
      | _ => none
      else none
    | _ => none
  | .new _, 3 => if h.1 + 1 < 1000000000 then some (.ref h.1 :: st, xnw h r1 (.inr (r0, (List.range r1).map (fun j => xdv (xTy r0 j))))) else none
  | .newarray a, 2 => match st with
    | .int n :: r => match xat a with
      | some t => if n < 0 ∨ 60000000 < n.toNatClampNeg ∨ ¬ h.1 + 1 < 1000000000 then none else some (.ref h.1 :: r, xnw h n.toNatClampNeg (.inl (t, n.toNatClampNeg, xay t)))
      | none => none
    | _ => none
  | .anewarray _, 3 => match st with
    | .int n :: r => if n < 0 ∨ 60000000 < n.toNatClampNeg ∨ ¬ h.1 + 1 < 1000000000 then none else some (.ref h.1 :: r, xnw h n.toNatClampNeg (.inl (r0, n.toNatClampNeg, .inr (.inr (.inr (.inr (fun _ => none)))))))
    | _ => none
  | .checkcast _, 3 => match st with
    | .ref k :: _ => if k < 1000000000 ∧ k < h.1 then match h.2.2 k with
      | .inl (t, _, .inl _) => if t = 3 then some (st, h) else none
      | _ => none
      else none
    | _ => none
  | .multianewarray _ 2, 4 => match st with
    | .int k :: .int n :: r => if n < 0 ∨ k < 0 ∨ 60000000 < n.toNatClampNeg ∨ 60000000 < k.toNatClampNeg ∨ ¬ h.1 + (1 + n.toNatClampNeg) < 1000000000 then none else some (.ref h.1 :: r, xmk h n.toNatClampNeg k.toNatClampNeg)
    | _ => none
  | _, _ => none
/-- an entry of a method's table: the instruction, its length, three numbers that its operands come to, a constant -/
abbrev xEn : Type := Instr × Nat × Nat × Nat × Nat × Value
/-- one step within a method -/
def xnx (O : Nat → Option va_E) (nL : Nat) (en : xEn) (pc : Nat) (lv : List (Nat × Value)) (st : List Value) (h : Nat × Nat × (Nat → va_E)) : Option (Nat × List (Nat × Value) × List Value × (Nat × Nat × (Nat → va_E))) :=
  match xs1 nL en.1 en.2.1 lv st with
  | some (lv', st') => some (pc + en.2.1, lv', st', h)
  | none => match xhs O en.1 en.2.1 en.2.2.1 en.2.2.2.1 en.2.2.2.2.2 st h with
    | some (st', h') => some (pc + en.2.1, lv, st', h')
    | none => match xbr en.1 en.2.1 en.2.2.1 pc st with
      | some (pc', st') => some (pc', lv, st', h)
      | none => none
/-- a method's end: its answer -/
def xre (ret : Option FieldType) (ins : Instr) (len : Nat) (st : List Value) : Option (Option Value) :=
  match ins, len, st with
  | .ireturn, 1, [.int v] => match ret with
    | some ty => if xfit ty (.int v) = true then some (some (.int v)) else none
    | none => none
  | .lreturn, 1, [.long v] => if ret = some .long then some (some (.long v)) else none
  | .dreturn, 1, [.double v] => if ret = some .double then some (some (.double v)) else none
  | .areturn, 1, [v] => match ret with
    | some ty => if ty.isReference = true ∧ xfit ty v = true then some (some v) else none
    | none => none
  | .return_, 1, [] => if ret = none then some none else none
  | _, _, _ => none
def xcat (l : List Value) : Nat := (l.map fun v => v.category).sum
/-- a call: the callee, its arguments, what stays on the stack. Sorts (r2): 1 static, 2 virtual, 3 a constructor, 4 a nest mate's constructor -/
def xca (O : Nat → Option va_E) (en : xEn) (st : List Value) (h : Nat × Nat × (Nat → va_E)) : Option (Nat × List Value × List Value) :=
  if en.2.1 = 3 ∧ en.2.2.1 < 1000 ∧ en.2.2.2.1 ≤ st.length ∧ xcat (st.drop en.2.2.2.1) ≤ 8 then
    match en.1, en.2.2.2.2.1 with
    | .invokestatic _, 1 => some (en.2.2.1, (st.take en.2.2.2.1).reverse, st.drop en.2.2.2.1)
    | .invokevirtual _, 2 => match (st.take en.2.2.2.1).reverse with
      | .ref k :: as => match xrd O h k with
        | some (.inr (ci, _)) => if .int (Int32.ofNat ci) = en.2.2.2.2.2 ∧ ci < 17 then some (en.2.2.1, .ref k :: as, st.drop en.2.2.2.1) else none
        | _ => none
      | _ => none
    | .invokevirtual _, 8 => match (st.take en.2.2.2.1).reverse with
      | .ref k :: as => match xrd O h k with
        | some (.inr (ci, _)) => if .int (Int32.ofNat ci) = en.2.2.2.2.2 ∧ ci < 17 then some (en.2.2.1, .ref k :: as, st.drop en.2.2.2.1) else none
        | _ => none
      | _ => none
    | .invokevirtual _, 9 => match (st.take en.2.2.2.1).reverse with
      | .ref k :: as => match xrd O h k with
        | some (.inr (ci, _)) => if .int (Int32.ofNat ci) = en.2.2.2.2.2 ∧ ci < 17 then some (en.2.2.1, .ref k :: as, st.drop en.2.2.2.1) else none
        | _ => none
      | _ => none
    | .invokespecial _, 7 => match (st.take en.2.2.2.1).reverse with
      | .ref k :: as => match xrd O h k with
        | some (.inr (ci, _)) => if .int (Int32.ofNat ci) = en.2.2.2.2.2 ∧ ci < 17 then some (en.2.2.1, .ref k :: as, st.drop en.2.2.2.1) else none
        | _ => none
      | _ => none
    | .invokespecial _, 3 => match (st.take en.2.2.2.1).reverse with
      | .ref k :: as => some (en.2.2.1, .ref k :: as, st.drop en.2.2.2.1)
      | _ => none
    | .invokespecial _, 4 => match (st.take en.2.2.2.1).reverse with
      | .ref k :: as => some (en.2.2.1, .ref k :: as, st.drop en.2.2.2.1)
      | _ => none
    | _, _ => none
  else none
/-- a row of bytes copied: from a new row or an old one, into a new one -/
def xcb (O : Nat → Option va_E) (h : Nat × Nat × (Nat → va_E)) (a0 : Nat) (sp : Int32) (a1 : Nat) (dp n : Int32) : Option va_E := match xrd O h a0, h.2.2 a1 with
  | some (.inl (t0, n0, .inl f)), .inl (t1, n1, .inl g) => if t0 = 3 ∧ t1 = 3 ∧ ¬ sp < 0 ∧ ¬ dp < 0 ∧ ¬ n < 0 ∧ sp.toNatClampNeg + n.toNatClampNeg ≤ n0 ∧ dp.toNatClampNeg + n.toNatClampNeg ≤ n1 ∧ ∀ i, i < n.toNatClampNeg → xfit .byte (.int (f (sp.toNatClampNeg + i))) = true then some (.inl (3, n1, .inl (va_cpy f g sp.toNatClampNeg dp.toNatClampNeg n.toNatClampNeg))) else none
  | _, _ => none
/-- what is called but not walked: Object's constructor (5), arraycopy of numbers (6), clone of a row of bytes (10) -/
def xna (O : Nat → Option va_E) (en : xEn) (st : List Value) (h : Nat × Nat × (Nat → va_E)) : Option (List Value × (Nat × Nat × (Nat → va_E))) :=
  match en.1, en.2.1, en.2.2.2.2.1 with
  | .invokespecial _, 3, 5 => match st with
    | .ref _ :: r => if xcat r ≤ 100 then some (r, h) else none
    | _ => none
  | .invokestatic _, 3, 6 => match st with
    | .int n :: .int dp :: .ref a1 :: .int sp :: .ref a0 :: r => match xcb O h a0 sp a1 dp n with
      | some x => if xcat r ≤ 100 ∧ a1 < 1000000000 ∧ a1 < h.1 then some (r, xup h a1 x) else none
      | none => if xcat r ≤ 100 ∧ a0 < 1000000000 ∧ a0 < h.1 ∧ a1 < 1000000000 ∧ a1 < h.1 then (match h.2.2 a0, h.2.2 a1 with
      | .inl (t0, n0, .inl f), .inl (t1, n1, .inl g) => if t0 = t1 ∧ t0 = 0 ∧ ¬ sp < 0 ∧ ¬ dp < 0 ∧ ¬ n < 0 ∧ sp.toNatClampNeg + n.toNatClampNeg ≤ n0 ∧ dp.toNatClampNeg + n.toNatClampNeg ≤ n1 then some (r, xup h a1 (.inl (t1, n1, .inl (va_cpy f g sp.toNatClampNeg dp.toNatClampNeg n.toNatClampNeg)))) else none
      | .inl (t0, n0, .inr (.inl f)), .inl (t1, n1, .inr (.inl g)) => if t0 = t1 ∧ t0 = 1 ∧ ¬ sp < 0 ∧ ¬ dp < 0 ∧ ¬ n < 0 ∧ sp.toNatClampNeg + n.toNatClampNeg ≤ n0 ∧ dp.toNatClampNeg + n.toNatClampNeg ≤ n1 then some (r, xup h a1 (.inl (t1, n1, .inr (.inl (va_cpy f g sp.toNatClampNeg dp.toNatClampNeg n.toNatClampNeg))))) else none
      | _, _ => none) else none
    | _ => none
  | .invokevirtual _, 3, 10 => match st with
    | .ref k :: r => if xcat r ≤ 100 ∧ k < 1000000000 ∧ k < h.1 ∧ h.1 + 1 < 1000000000 then (match h.2.2 k with
      | .inl (t, n, .inl f) => if t = 3 ∧ ∀ i, i < n → xfit .byte (.int (f i)) = true then some (.ref h.1 :: r, xnw h n (.inl (3, n, .inl f))) else none
      | _ => none) else none
    | _ => none
  | _, _, _ => none
/-- a method of the program: its entries by place, how many locals it has, its answer's type -/
abbrev xMe : Type := List (Nat × xEn) × Nat × Option FieldType
def xfd (pc : Nat) : List (Nat × xEn) → Option xEn
  | [] => none
  | q :: t => if q.1 = pc then some q.2 else xfd pc t
def xgo (P : Nat → Option xMe) (O : Nat → Option va_E) : Nat → Nat → Nat → Nat → List (Nat × Value) → List Value → Nat × Nat × (Nat → va_E) → Option (Option Value × (Nat × Nat × (Nat → va_E)))
  | 0, _, _, _, _, _, _ => none
  | f + 1, d, m, pc, lv, st, h => match P m with
    | none => none
    | some me => match xfd pc me.1 with
      | none => none
      | some en => match xnx O me.2.1 en pc lv st h with
        | some (pc', lv', st', h') => xgo P O f d m pc' lv' st' h'
        | none => match xna O en st h with
          | some (st', h') => xgo P O f d m (pc + 3) lv st' h'
          | none => match xca O en st h with
            | some (m', av, rest) => match d with
              | 0 => none
              | d' + 1 => match P m' with
                | none => none
                | some me' => if (lg_sl av).length ≤ me'.2.1 then match xgo P O f d' m' 0 (lv_args 0 av) [] h with
                  | some (rv, h') => xgo P O f (d' + 1) m (pc + 3) lv (rv.toList ++ rest) h'
                  | none => none
                  else none
            | none => match xre me.2.2 en.1 en.2.1 st with
              | some rv => some (rv, h)
              | none => none
