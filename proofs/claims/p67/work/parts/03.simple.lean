/-! ===== A PICTURE OF THE MACHINE THAT A PROGRAM CAN RUN: straight instructions ===== -/
/-- the address of a new object is its number behind B; numbers from 10^9 on are of objects that were there before -/
def xr (B : Nat) (ad : Nat → Nat) (k : Nat) : Nat := if k < 1000000000 then B + k else ad (k - 1000000000)
def xv (B : Nat) (ad : Nat → Nat) : Value → Value
  | .ref k => .ref (xr B ad k)
  | .float x => if x = 7 then (if ad 4 = 0 then .null else .ref (ad 4 - 1)) else .float x
  | v => v
def xL (B : Nat) (ad : Nat → Nat) (lv : List (Nat × Value)) : List (Nat × Value) := lv.map (fun q => (q.1, xv B ad q.2))
def xlk (i : Nat) : List (Nat × Value) → Option Value
  | [] => none
  | q :: t => if q.1 = i then some q.2 else xlk i t
def xs_1 (i : Nat) (v : Value) (lv : List (Nat × Value)) : List (Nat × Value) := (i, v) :: lv.filter (fun q => !(q.1 == i) && !(q.1 + 1 == i && q.2.category == 2))
def xs_2 (i : Nat) (v : Value) (lv : List (Nat × Value)) : List (Nat × Value) := (i, v) :: lv.filter (fun q => !(q.1 == i) && (!(q.1 == i + 1) && !(q.1 + 1 == i && q.2.category == 2)))
theorem xv_cat (B : Nat) (ad : Nat → Nat) (v : Value) : (xv B ad v).category = v.category := by
  cases v <;> first | rfl | (unfold xv; dsimp only; split <;> (try split) <;> rfl)
theorem xlk_mem {B : Nat} {ad : Nat → Nat} {i : Nat} {v : Value} : ∀ {lv : List (Nat × Value)}, xlk i lv = some v → (i, xv B ad v) ∈ xL B ad lv
  | [], h => by cases h
  | q :: t, h => by
    unfold xlk at h
    split at h
    · rename_i e
      cases h
      subst e
      exact List.mem_cons_self
    · exact List.mem_cons_of_mem _ (xlk_mem h)
theorem xlk_has {ls : Array Slot} {nL B : Nat} {ad : Nat → Nat} {lv : List (Nat × Value)} (hl : lv_has ls nL (xL B ad lv)) {i : Nat} {v : Value} (h : xlk i lv = some v) : ls[i]? = some (.val (xv B ad v)) := hl.2.2 (i, xv B ad v) (xlk_mem h)
theorem xs_1_map (B : Nat) (ad : Nat → Nat) (i : Nat) (v : Value) (lv : List (Nat × Value)) : xL B ad (xs_1 i v lv) = (i, xv B ad v) :: (xL B ad lv).filter (fun q => !(q.1 == i) && !(q.1 + 1 == i && q.2.category == 2)) := by
  unfold xs_1 xL
  rw [List.map_cons, List.filter_map]
  congr 3
  funext q
  simp only [Function.comp, xv_cat]
theorem xs_2_map (B : Nat) (ad : Nat → Nat) (i : Nat) (v : Value) (lv : List (Nat × Value)) : xL B ad (xs_2 i v lv) = (i, xv B ad v) :: (xL B ad lv).filter (fun q => !(q.1 == i) && (!(q.1 == i + 1) && !(q.1 + 1 == i && q.2.category == 2))) := by
  unfold xs_2 xL
  rw [List.map_cons, List.filter_map]
  congr 3
  funext q
  simp only [Function.comp, xv_cat]

def xs1 (nL : Nat) (ins : Instr) (len : Nat) (lv : List (Nat × Value)) (st : List Value) : Option (List (Nat × Value) × List Value) :=
  match ins, len with
  | .iconst n, 1 => some (lv, .int (Int32.ofInt n) :: st)
  | .bipush n, 2 => some (lv, .int (Int8.ofInt n).toInt32 :: st)
  | .sipush n, 3 => some (lv, .int (Int16.ofInt n).toInt32 :: st)
  | .lconst n, 1 => some (lv, .long (Int64.ofNat n) :: st)
  | .aconst_null, 1 => some (lv, .null :: st)
  | .iload_n q, 1 => match xlk q lv with
    | some (.int x) => some (lv, .int x :: st)
    | _ => none
  | .iload q, 2 => match xlk q lv with
    | some (.int x) => some (lv, .int x :: st)
    | _ => none
  | .lload_n q, 1 => match xlk q lv with
    | some (.long x) => some (lv, .long x :: st)
    | _ => none
  | .lload q, 2 => match xlk q lv with
    | some (.long x) => some (lv, .long x :: st)
    | _ => none
  | .aload_n q, 1 => match xlk q lv with
    | some (.ref x) => some (lv, .ref x :: st)
    | some .null => some (lv, .null :: st)
    | _ => none
  | .aload q, 2 => match xlk q lv with
    | some (.ref x) => some (lv, .ref x :: st)
    | some .null => some (lv, .null :: st)
    | _ => none
  | .istore_n q, 1 => match st with
    | .int x :: r => if (q : Nat) < nL then some (xs_1 q (.int x) lv, r) else none
    | _ => none
  | .istore q, 2 => match st with
    | .int x :: r => if (q : Nat) < nL then some (xs_1 q (.int x) lv, r) else none
    | _ => none
  | .lstore_n q, 1 => match st with
    | .long x :: r => if (q : Nat) + 1 < nL then some (xs_2 q (.long x) lv, r) else none
    | _ => none
  | .lstore q, 2 => match st with
    | .long x :: r => if q + 1 < nL then some (xs_2 q (.long x) lv, r) else none
    | _ => none
  | .astore_n q, 1 => match st with
    | .ref x :: r => if (q : Nat) < nL then some (xs_1 q (.ref x) lv, r) else none
    | .null :: r => if (q : Nat) < nL then some (xs_1 q .null lv, r) else none
    | _ => none
  | .astore q, 2 => match st with
    | .ref x :: r => if (q : Nat) < nL then some (xs_1 q (.ref x) lv, r) else none
    | .null :: r => if (q : Nat) < nL then some (xs_1 q .null lv, r) else none
    | _ => none
  | .iinc q n, 3 => match xlk q lv with
    | some (.int x) => if q < nL then some (xs_1 q (.int (x + Int32.ofInt n)) lv, st) else none
    | _ => none
  | .iadd, 1 => match st with
    | .int y :: .int x :: r => some (lv, .int (x + y) :: r)
    | _ => none
  | .isub, 1 => match st with
    | .int y :: .int x :: r => some (lv, .int (x - y) :: r)
    | _ => none
  | .imul, 1 => match st with
    | .int y :: .int x :: r => some (lv, .int (x * y) :: r)
    | _ => none
  | .idiv, 1 => match st with
    | .int y :: .int x :: r => if y = 0 then none else some (lv, .int (x / y) :: r)
    | _ => none
  | .irem, 1 => match st with
    | .int y :: .int x :: r => if y = 0 then none else some (lv, .int (x - x / y * y) :: r)
    | _ => none
  | .iand, 1 => match st with
    | .int y :: .int x :: r => some (lv, .int (x &&& y) :: r)
    | _ => none
  | .ior, 1 => match st with
    | .int y :: .int x :: r => some (lv, .int (x ||| y) :: r)
    | _ => none
  | .ixor, 1 => match st with
    | .int y :: .int x :: r => some (lv, .int (x ^^^ y) :: r)
    | _ => none
  | .ishl, 1 => match st with
    | .int y :: .int x :: r => some (lv, .int (x <<< (y &&& 31)) :: r)
    | _ => none
  | .ishr, 1 => match st with
    | .int y :: .int x :: r => some (lv, .int (x >>> (y &&& 31)) :: r)
    | _ => none
  | .iushr, 1 => match st with
    | .int y :: .int x :: r => some (lv, .int ((x.toUInt32 >>> (y.toUInt32 &&& Int32.toUInt32 31)).toInt32) :: r)
    | _ => none
  | .ladd, 1 => match st with
    | .long y :: .long x :: r => some (lv, .long (x + y) :: r)
    | _ => none
  | .lsub, 1 => match st with
    | .long y :: .long x :: r => some (lv, .long (x - y) :: r)
    | _ => none
  | .lmul, 1 => match st with
    | .long y :: .long x :: r => some (lv, .long (x * y) :: r)
    | _ => none
  | .lrem, 1 => match st with
    | .long y :: .long x :: r => if y = 0 then none else some (lv, .long (x - x / y * y) :: r)
    | _ => none
  | .land, 1 => match st with
    | .long y :: .long x :: r => some (lv, .long (x &&& y) :: r)
    | _ => none
  | .lor, 1 => match st with
    | .long y :: .long x :: r => some (lv, .long (x ||| y) :: r)
    | _ => none
  | .lshl, 1 => match st with
    | .int y :: .long x :: r => some (lv, .long (x <<< (y.toInt64 &&& 63)) :: r)
    | _ => none
  | .lshr, 1 => match st with
    | .int y :: .long x :: r => some (lv, .long (x >>> (y.toInt64 &&& 63)) :: r)
    | _ => none
  | .lushr, 1 => match st with
    | .int y :: .long x :: r => some (lv, .long ((x.toUInt64 >>> (y.toInt64.toUInt64 &&& Int64.toUInt64 63)).toInt64) :: r)
    | _ => none
  | .lcmp, 1 => match st with
    | .long y :: .long x :: r => some (lv, .int (lg_cmp x y) :: r)
    | _ => none
  | .ineg, 1 => match st with
    | .int x :: r => some (lv, .int (-x) :: r)
    | _ => none
  | .i2l, 1 => match st with
    | .int x :: r => some (lv, .long (x.toInt64) :: r)
    | _ => none
  | .l2i, 1 => match st with
    | .long x :: r => some (lv, .int (x.toInt32) :: r)
    | _ => none
  | .i2c, 1 => match st with
    | .int x :: r => some (lv, .int ((x.toUInt32 % 65536).toInt32) :: r)
    | _ => none
  | .i2b, 1 => match st with
    | .int x :: r => some (lv, .int (x.toInt8.toInt32) :: r)
    | _ => none
  | .i2d, 1 => match st with
    | .int x :: r => some (lv, .double (FP.i2d x) :: r)
    | _ => none
  | .dconst n, 1 => if n = 0 then some (lv, .double FP.dconst0 :: st) else none
  | .ddiv, 1 => match st with
    | .double y :: .double x :: r => if FP.ddiv x y &&& 0x7fffffffffffffff ≤ 0x7ff0000000000000 then some (lv, .double (FP.ddiv x y) :: r) else none
    | _ => none
  | .dcmp o, 1 => match st with
    | .double y :: .double x :: r => some (lv, .int (Op.cmpValue (FP.dcmp x y) o) :: r)
    | _ => none
  | .dup, 1 => match st with
    | v :: r => if v.category = 1 then some (lv, v :: v :: r) else none
    | _ => none
  | .pop, 1 => match st with
    | v :: r => if v.category = 1 then some (lv, r) else none
    | _ => none
  | .dup_x1, 1 => match st with
    | v :: w :: r => if v.category = 1 ∧ w.category = 1 then some (lv, v :: w :: v :: r) else none
    | _ => none
  | .dup2, 1 => match st with
    | v :: w :: r => if v.category = 1 ∧ w.category = 1 then some (lv, v :: w :: v :: w :: r) else none
    | _ => none
  | _, _ => none
section XS1
variable {p : Program} {l : Launch} {e : Env} {R : Room} {s : State} {m : MethodId} {args : Array Value} {below : List Frame} {meth : Method} {c : Code} {H : Heap} {locs : List Loc} {cells slots : Nat} {Q : State → Prop}
variable {cc : ByteArray} {pc : Nat} {ls : Array Slot}
set_option maxHeartbeats 4000000 in
theorem xs1_ok (hx : p.tables.exec = Jvm.exec) (hb : c.code = cc) (B : Nat) (ad : Nat → Nat) {nL : Nat} {ins : Instr} {len : Nat} (hdg : decode cc pc = .ok (ins, len)) {lv lv' : List (Nat × Value)} {st st' : List Value} (h : xs1 nL ins len lv st = some (lv', st')) (hl : lv_has ls nL (xL B ad lv))
    (k : ∀ ls' : Array Slot, lv_has ls' nL (xL B ad lv') → W p l e R s m args below meth c H locs cells slots Q (F0 m (pc + len) ls' (st'.map (xv B ad)))) : W p l e R s m args below meth c H locs cells slots Q (F0 m pc ls (st.map (xv B ad))) := by
  unfold xs1 at h
  split at h
  · cases h; exact lv_iconst hx hb hdg rfl (k ls hl)
  · cases h; exact lv_bipush hx hb hdg rfl (k ls hl)
  · cases h; exact lv_sipush hx hb hdg rfl (k ls hl)
  · cases h; exact lv_lconst hx hb hdg rfl (k ls hl)
  · cases h; exact lv_null hx hb hdg (k ls hl)
  · split at h
    · rename_i x hq; cases h; exact lv_iload_n hx hb hdg rfl (xlk_has hl hq) (k ls hl)
    · cases h
  · split at h
    · rename_i x hq; cases h; exact lv_iload hx hb hdg (xlk_has hl hq) (k ls hl)
    · cases h
  · split at h
    · rename_i x hq; cases h; exact lv_lload_n hx hb hdg rfl (xlk_has hl hq) (k ls hl)
    · cases h
  · split at h
    · rename_i x hq; cases h; exact lv_lload hx hb hdg (xlk_has hl hq) (k ls hl)
    · cases h
  · split at h
    · rename_i x hq; cases h; exact lv_aload_n hx hb hdg rfl (xlk_has hl hq) (k ls hl)
    · rename_i hq; cases h; exact lv_aload_nN hx hb hdg rfl (xlk_has hl hq) (k ls hl)
    · cases h
  · split at h
    · rename_i x hq; cases h; exact lv_aload hx hb hdg (xlk_has hl hq) (k ls hl)
    · rename_i hq; cases h; exact lv_aloadN hx hb hdg (xlk_has hl hq) (k ls hl)
    · cases h
  · split at h
    · split at h
      · rename_i hq; cases h; exact lv_istore_n hx hb hdg rfl hl hq (xs_1_map B ad _ (.int _) lv).symm (fun ls hl => k ls hl)
      · cases h
    · cases h
  · split at h
    · split at h
      · rename_i hq; cases h; exact lv_istore hx hb hdg hl hq (xs_1_map B ad _ (.int _) lv).symm (fun ls hl => k ls hl)
      · cases h
    · cases h
  · split at h
    · split at h
      · rename_i hq; cases h; exact lv_lstore_n hx hb hdg rfl hl hq (xs_2_map B ad _ (.long _) lv).symm (fun ls hl => k ls hl)
      · cases h
    · cases h
  · split at h
    · split at h
      · rename_i hq; cases h; exact lv_lstore hx hb hdg hl hq (xs_2_map B ad _ (.long _) lv).symm (fun ls hl => k ls hl)
      · cases h
    · cases h
  · split at h
    · split at h
      · rename_i hq; cases h; exact lv_astore_n hx hb hdg rfl hl hq (xs_1_map B ad _ (.ref _) lv).symm (fun ls hl => k ls hl)
      · cases h
    · split at h
      · rename_i hq; cases h; exact lv_astore_nN hx hb hdg rfl hl hq (xs_1_map B ad _ .null lv).symm (fun ls hl => k ls hl)
      · cases h
    · cases h
  · split at h
    · split at h
      · rename_i hq; cases h; exact lv_astore hx hb hdg hl hq (xs_1_map B ad _ (.ref _) lv).symm (fun ls hl => k ls hl)
      · cases h
    · split at h
      · rename_i hq; cases h; exact lv_astoreN hx hb hdg hl hq (xs_1_map B ad _ .null lv).symm (fun ls hl => k ls hl)
      · cases h
    · cases h
  · split at h
    · rename_i x hx2
      split at h
      · rename_i hq; cases h
        obtain ⟨j, hj⟩ := List.getElem?_of_mem (xlk_mem (B := B) (ad := ad) hx2)
        exact lv_iinc hx hb hdg hl hj rfl hq (xs_1_map B ad _ (.int _) lv).symm (fun ls hl => k ls hl)
      · cases h
    · cases h
  · split at h
    · cases h; exact lv_iadd hx hb hdg (k ls hl)
    · cases h
  · split at h
    · cases h; exact lv_isub hx hb hdg (k ls hl)
    · cases h
  · split at h
    · cases h; exact lv_imul hx hb hdg (k ls hl)
    · cases h
  · split at h
    · split at h
      · cases h
      · rename_i hq; cases h; exact lv_idiv hx hb hdg hq (k ls hl)
    · cases h
  · split at h
    · split at h
      · cases h
      · rename_i hq; cases h; exact lv_irem hx hb hdg hq (k ls hl)
    · cases h
  · split at h
    · cases h; exact lv_iand hx hb hdg (k ls hl)
    · cases h
  · split at h
    · cases h; exact lv_ior hx hb hdg (k ls hl)
    · cases h
  · split at h
    · cases h; exact lv_ixor hx hb hdg (k ls hl)
    · cases h
  · split at h
    · cases h; exact lv_ishl hx hb hdg (k ls hl)
    · cases h
  · split at h
    · cases h; exact lv_ishr hx hb hdg (k ls hl)
    · cases h
  · split at h
    · cases h; exact lv_iushr hx hb hdg rfl (k ls hl)
    · cases h
  · split at h
    · cases h; exact lv_ladd hx hb hdg (k ls hl)
    · cases h
  · split at h
    · cases h; exact lv_lsub hx hb hdg (k ls hl)
    · cases h
  · split at h
    · cases h; exact lv_lmul hx hb hdg (k ls hl)
    · cases h
  · split at h
    · split at h
      · cases h
      · rename_i hq; cases h; exact lv_lrem hx hb hdg hq (k ls hl)
    · cases h
  · split at h
    · cases h; exact lv_land hx hb hdg (k ls hl)
    · cases h
  · split at h
    · cases h; exact lv_lor hx hb hdg (k ls hl)
    · cases h
  · split at h
    · cases h; exact lv_lshl hx hb hdg rfl (k ls hl)
    · cases h
  · split at h
    · cases h; exact lv_lshr hx hb hdg rfl (k ls hl)
    · cases h
  · split at h
    · cases h; exact lv_lushr hx hb hdg rfl (k ls hl)
    · cases h
  · split at h
    · cases h; exact W.lcmp hx hb hdg (k ls hl)
    · cases h
  · split at h
    · cases h; exact lv_ineg hx hb hdg (k ls hl)
    · cases h
  · split at h
    · cases h; exact lv_i2l hx hb hdg rfl (k ls hl)
    · cases h
  · split at h
    · cases h; exact lv_l2i hx hb hdg rfl (k ls hl)
    · cases h
  · split at h
    · cases h; exact lv_i2c hx hb hdg rfl (k ls hl)
    · cases h
  · split at h
    · cases h; exact lv_i2b hx hb hdg rfl (k ls hl)
    · cases h
  · split at h
    · cases h; exact lv_i2d hx hb hdg (k ls hl)
    · cases h
  · split at h
    · rename_i hq; subst hq; cases h; exact lv_dconst0 hx hb hdg (k ls hl)
    · cases h
  · split at h
    · split at h
      · rename_i hq; cases h; exact lv_ddiv hx hb hdg hq (k ls hl)
      · cases h
    · cases h
  · split at h
    · cases h; exact lv_dcmp hx hb hdg (k ls hl)
    · cases h
  · split at h
    · split at h
      · rename_i hq; cases h; exact lv_dup hx hb hdg ((xv_cat B ad _).trans hq) (k ls hl)
      · cases h
    · cases h
  · split at h
    · split at h
      · rename_i hq; cases h; exact lv_pop hx hb hdg ((xv_cat B ad _).trans hq) (k ls hl)
      · cases h
    · cases h
  · split at h
    · split at h
      · rename_i hq; cases h; exact lv_dup_x1 hx hb hdg ((xv_cat B ad _).trans hq.1) ((xv_cat B ad _).trans hq.2) (k ls hl)
      · cases h
    · cases h
  · split at h
    · split at h
      · rename_i hq; cases h; exact lv_dup2_11 hx hb hdg ((xv_cat B ad _).trans hq.1) ((xv_cat B ad _).trans hq.2) (k ls hl)
      · cases h
    · cases h
  · cases h
end XS1
