/-! ===== branches ===== -/
def xbr (ins : Instr) (len r0 pc : Nat) (st : List Value) : Option (Nat × List Value) :=
  match ins, len with
  | .goto _, 3 => some (r0, st)
  | .ifCond .eq _, 3 => match st with
    | .int x :: r => some (if x = 0 then r0 else pc + 3, r)
    | _ => none
  | .ifCond .ne _, 3 => match st with
    | .int x :: r => some (if x = 0 then pc + 3 else r0, r)
    | _ => none
  | .ifCond .lt _, 3 => match st with
    | .int x :: r => some (if x < 0 then r0 else pc + 3, r)
    | _ => none
  | .ifCond .ge _, 3 => match st with
    | .int x :: r => some (if 0 ≤ x then r0 else pc + 3, r)
    | _ => none
  | .ifCond .gt _, 3 => match st with
    | .int x :: r => some (if 0 < x then r0 else pc + 3, r)
    | _ => none
  | .ifCond .le _, 3 => match st with
    | .int x :: r => some (if x ≤ 0 then r0 else pc + 3, r)
    | _ => none
  | .if_icmp .eq _, 3 => match st with
    | .int y :: .int x :: r => some (if x = y then r0 else pc + 3, r)
    | _ => none
  | .if_icmp .ne _, 3 => match st with
    | .int y :: .int x :: r => some (if x = y then pc + 3 else r0, r)
    | _ => none
  | .if_icmp .lt _, 3 => match st with
    | .int y :: .int x :: r => some (if x < y then r0 else pc + 3, r)
    | _ => none
  | .if_icmp .ge _, 3 => match st with
    | .int y :: .int x :: r => some (if y ≤ x then r0 else pc + 3, r)
    | _ => none
  | .if_icmp .gt _, 3 => match st with
    | .int y :: .int x :: r => some (if y < x then r0 else pc + 3, r)
    | _ => none
  | .if_icmp .le _, 3 => match st with
    | .int y :: .int x :: r => some (if x ≤ y then r0 else pc + 3, r)
    | _ => none
  | .ifnull _, 3 => match st with
    | .null :: r => some (r0, r)
    | .ref _ :: r => some (pc + 3, r)
    | _ => none
  | .ifnonnull _, 3 => match st with
    | .null :: r => some (pc + 3, r)
    | .ref _ :: r => some (r0, r)
    | _ => none
  | .tableswitch dflt lo hi offs, _ => match st with
    | .int x :: r => if x.toInt < lo ∨ hi < x.toInt then (if 0 ≤ (pc : Int) + dflt then some (((pc : Int) + dflt).toNat, r) else none) else
      match offs[(x.toInt - lo).toNat]? with
      | some o => if 0 ≤ (pc : Int) + o then some (((pc : Int) + o).toNat, r) else none
      | none => none
    | _ => none
  | _, _ => none
/-- the target of a branch, as its row has it -/
def xbt (ins : Instr) (r0 pc : Nat) : Prop := match ins with
  | .goto off => (pc : Int) + off = (r0 : Int)
  | .ifCond _ off => (pc : Int) + off = (r0 : Int)
  | .if_icmp _ off => (pc : Int) + off = (r0 : Int)
  | .ifnull off => (pc : Int) + off = (r0 : Int)
  | .ifnonnull off => (pc : Int) + off = (r0 : Int)
  | _ => True
section XBR
variable {p : Program} {l : Launch} {e : Env} {R : Room} {s : State} {m : MethodId} {args : Array Value} {below : List Frame} {meth : Method} {c : Code} {H : Heap} {locs : List Loc} {cells slots : Nat} {Q : State → Prop}
variable {cc : ByteArray} {pc : Nat} {ls : Array Slot}
set_option maxHeartbeats 4000000 in
theorem xbr_ok (hx : p.tables.exec = Jvm.exec) (hb : c.code = cc) (B : Nat) (ad : Nat → Nat) {ins : Instr} {len r0 : Nat} (hdg : decode cc pc = .ok (ins, len)) (ht : xbt ins r0 pc) {pc' : Nat} {st st' : List Value} (h : xbr ins len r0 pc st = some (pc', st'))
    (k : W p l e R s m args below meth c H locs cells slots Q (F0 m pc' ls (st'.map (xv B ad)))) : W p l e R s m args below meth c H locs cells slots Q (F0 m pc ls (st.map (xv B ad))) := by
  unfold xbr at h
  split at h
  · cases h; exact lv_goto hx hb hdg ht k
  · split at h
    · cases h; exact lv_if_eq hx hb hdg ht (fun z => by rw [if_pos z] at k; exact k) (fun z => by rw [if_neg z] at k; exact k)
    · cases h
  · split at h
    · cases h; exact lv_if_ne hx hb hdg ht (fun z => by rw [if_neg z] at k; exact k) (fun z => by rw [if_pos z] at k; exact k)
    · cases h
  · split at h
    · cases h; exact lv_if_lt hx hb hdg ht (fun z => by rw [if_pos z] at k; exact k) (fun z => by rw [if_neg z] at k; exact k)
    · cases h
  · split at h
    · cases h; exact lv_if_ge hx hb hdg ht (fun z => by rw [if_pos z] at k; exact k) (fun z => by rw [if_neg z] at k; exact k)
    · cases h
  · split at h
    · cases h; exact lv_if_gt hx hb hdg ht (fun z => by rw [if_pos z] at k; exact k) (fun z => by rw [if_neg z] at k; exact k)
    · cases h
  · split at h
    · cases h; exact lv_if_le hx hb hdg ht (fun z => by rw [if_pos z] at k; exact k) (fun z => by rw [if_neg z] at k; exact k)
    · cases h
  · split at h
    · cases h; exact lv_icmp_eq hx hb hdg ht (fun z => by rw [if_pos z] at k; exact k) (fun z => by rw [if_neg z] at k; exact k)
    · cases h
  · split at h
    · cases h; exact lv_icmp_ne hx hb hdg ht (fun z => by rw [if_neg z] at k; exact k) (fun z => by rw [if_pos z] at k; exact k)
    · cases h
  · split at h
    · cases h; exact lv_icmp_lt hx hb hdg ht (fun z => by rw [if_pos z] at k; exact k) (fun z => by rw [if_neg z] at k; exact k)
    · cases h
  · split at h
    · cases h; exact lv_icmp_ge hx hb hdg ht (fun z => by rw [if_pos z] at k; exact k) (fun z => by rw [if_neg z] at k; exact k)
    · cases h
  · split at h
    · cases h; exact lv_icmp_gt hx hb hdg ht (fun z => by rw [if_pos z] at k; exact k) (fun z => by rw [if_neg z] at k; exact k)
    · cases h
  · split at h
    · cases h; exact lv_icmp_le hx hb hdg ht (fun z => by rw [if_pos z] at k; exact k) (fun z => by rw [if_neg z] at k; exact k)
    · cases h
  · split at h
    · cases h; exact lv_ifnullN hx hb hdg ht k
    · cases h; exact lv_ifnull hx hb hdg k
    · cases h
  · split at h
    · cases h; exact lv_ifnonnullN hx hb hdg k
    · cases h; exact lv_ifnonnull hx hb hdg ht k
    · cases h
  · split at h
    · split at h
      · rename_i z
        split at h
        · rename_i z2
          cases h; exact lv_tableOut hx hb hdg z (Int.toNat_of_nonneg z2).symm k
        · cases h
      · rename_i z
        split at h
        · rename_i o ho
          split at h
          · rename_i z2
            cases h; exact lv_tableIn hx hb hdg (fun q => z (Or.inl q)) (fun q => z (Or.inr q)) ho (Int.toNat_of_nonneg z2).symm k
          · cases h
        · cases h
    · cases h
  · cases h
end XBR
