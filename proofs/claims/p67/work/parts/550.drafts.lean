/-! draft 550.rows -/
section
/-! ===== sorted rows ===== -/
def srt (L : List Int) : Prop := L.Pairwise (· < ·)
def ins (x : Int) : List Int → List Int
  | [] => [x]
  | y :: l => if y ≤ x then y :: ins x l else x :: y :: l
theorem mem_ins {x y : Int} : ∀ {L : List Int}, y ∈ ins x L ↔ y = x ∨ y ∈ L
  | [] => by
    unfold ins
    rw [List.mem_singleton]
    constructor
    · exact Or.inl
    · rintro (h | h)
      · exact h
      · cases h
  | z :: l => by
    unfold ins
    split
    · rw [List.mem_cons, mem_ins, List.mem_cons]
      constructor
      · rintro (h | h | h)
        · exact Or.inr (Or.inl h)
        · exact Or.inl h
        · exact Or.inr (Or.inr h)
      · rintro (h | h | h)
        · exact Or.inr (Or.inl h)
        · exact Or.inl h
        · exact Or.inr (Or.inr h)
    · rw [List.mem_cons]
theorem len_ins {x : Int} : ∀ {L : List Int}, (ins x L).length = L.length + 1
  | [] => rfl
  | z :: l => by
    unfold ins
    split
    · rw [List.length_cons, len_ins, List.length_cons]
    · rfl
theorem srt_ins {x : Int} : ∀ {L : List Int}, srt L → x ∉ L → srt (ins x L)
  | [], _, _ => List.pairwise_singleton _ _
  | z :: l, h, hx => by
    unfold srt at h
    rw [List.pairwise_cons] at h
    unfold ins
    have hz : x ≠ z := fun e => hx (by rw [e]; exact List.mem_cons_self)
    split
    · next g =>
      refine List.pairwise_cons.mpr ⟨fun a ha => ?_, srt_ins h.2 (fun q => hx (List.mem_cons_of_mem _ q))⟩
      rcases mem_ins.mp ha with e | e
      · rw [e]
        omega
      · exact h.1 a e
    · next g =>
      refine List.pairwise_cons.mpr ⟨fun a ha => ?_, List.pairwise_cons.mpr h⟩
      rcases List.mem_cons.mp ha with e | e
      · rw [e]
        omega
      · have := h.1 a e
        omega
theorem srt_uniq : ∀ {A B : List Int}, srt A → srt B → (∀ x, x ∈ A ↔ x ∈ B) → A = B
  | [], [], _, _, _ => rfl
  | [], b :: B, _, _, h => by
    have := (h b).mpr List.mem_cons_self
    cases this
  | a :: A, [], _, _, h => by
    have := (h a).mp List.mem_cons_self
    cases this
  | a :: A, b :: B, ha, hb, h => by
    have ha' := List.pairwise_cons.mp ha
    have hb' := List.pairwise_cons.mp hb
    have e : a = b := by
      rcases List.mem_cons.mp ((h a).mp List.mem_cons_self) with e | e
      · exact e
      · rcases List.mem_cons.mp ((h b).mpr List.mem_cons_self) with g | g
        · exact g.symm
        · have := hb'.1 a e
          have := ha'.1 b g
          omega
    subst e
    rw [srt_uniq ha'.2 hb'.2 (fun x => ?_)]
    constructor
    · intro q
      rcases List.mem_cons.mp ((h x).mp (List.mem_cons_of_mem _ q)) with e | e
      · have := ha'.1 x q
        omega
      · exact e
    · intro q
      rcases List.mem_cons.mp ((h x).mpr (List.mem_cons_of_mem _ q)) with e | e
      · have := hb'.1 x q
        omega
      · exact e
theorem srt_lt {L : List Int} (h : srt L) {i j : Nat} (hij : i < j) (hj : j < L.length) : L.getD i 0 < L.getD j 0 := by
  have q := List.pairwise_iff_getElem.mp h i j (by omega) hj hij
  rw [List.getD_eq_getElem?_getD, List.getD_eq_getElem?_getD, List.getElem?_eq_getElem hj, List.getElem?_eq_getElem (by omega : i < L.length)]
  exact q
theorem getD_mem {L : List Int} {i : Nat} (h : i < L.length) : L.getD i 0 ∈ L := by
  rw [List.getD_eq_getElem?_getD, List.getElem?_eq_getElem h]
  exact List.getElem_mem h
theorem mem_getD {L : List Int} {x : Int} (h : x ∈ L) : ∃ i, i < L.length ∧ L.getD i 0 = x := by
  obtain ⟨i, hi, e⟩ := List.getElem_of_mem h
  refine ⟨i, hi, ?_⟩
  rw [List.getD_eq_getElem?_getD, List.getElem?_eq_getElem hi]
  exact e
/-- where a row goes -/
theorem ins_at {x : Int} : ∀ {L : List Int} {k : Nat}, k ≤ L.length → (∀ i, i < k → L.getD i 0 ≤ x) → (k < L.length → x < L.getD k 0) → ∀ i, (ins x L).getD i 0 = if i < k then L.getD i 0 else if i = k then x else L.getD (i - 1) 0
  | [], k, hk, h1, h2, i => by
    have : k = 0 := by simpa using hk
    subst this
    rw [if_neg (Nat.not_lt_zero _)]
    cases i with
    | zero => rfl
    | succ n => rfl
  | z :: l, 0, hk, h1, h2, i => by
    have := h2 (Nat.succ_pos _)
    have hz : x < z := this
    unfold ins
    rw [if_neg (by omega), if_neg (Nat.not_lt_zero _)]
    cases i with
    | zero => rfl
    | succ n => rfl
  | z :: l, k + 1, hk, h1, h2, i => by
    have hz : z ≤ x := h1 0 (Nat.succ_pos _)
    unfold ins
    rw [if_pos hz]
    cases i with
    | zero =>
      rw [if_pos (Nat.succ_pos _)]
      rfl
    | succ n =>
      have q := ins_at (x := x) (L := l) (k := k) (by simpa using hk) (fun i hi => h1 (i + 1) (by omega)) (fun hl => h2 (by simpa using hl)) n
      show (ins x l).getD n 0 = _
      rw [q]
      by_cases g : n < k
      · rw [if_pos g, if_pos (show n + 1 < k + 1 by omega)]
        rfl
      · rw [if_neg g, if_neg (show ¬ n + 1 < k + 1 by omega)]
        by_cases g2 : n = k
        · rw [if_pos g2, if_pos (show n + 1 = k + 1 by omega)]
        · rw [if_neg g2, if_neg (show ¬ n + 1 = k + 1 by omega)]
          obtain ⟨m, rfl⟩ : ∃ m, n = m + 1 := ⟨n - 1, by omega⟩
          rfl
/-! ===== rows as longs ===== -/
def rw' (m n d : Int) : Int := m * 8388608 + n * 524288 + d * 2
theorem yl_natv {a : Int} (h0 : 0 ≤ a) (h1 : a ≤ 9223372036854775807) : (yl a).toBitVec.toNat = a.toNat := by
  have h := yl_to (x := a) ⟨by omega, h1⟩
  have h2 : (yl a).toBitVec.toInt = a := h
  rw [BitVec.toInt_eq_toNat_cond] at h2
  have h3 := (yl a).toBitVec.isLt
  split at h2 <;> omega
theorem toL_nat {x : Int64} {n : Nat} (h : x.toBitVec.toNat = n) (hn : n ≤ 9223372036854775807) : x.toInt = (n : Int) := by
  show x.toBitVec.toInt = _
  rw [BitVec.toInt_eq_toNat_cond, h]
  rw [if_pos (by omega)]
theorem kor_e {a b : Int} (h0 : 0 ≤ a) (h1 : a ≤ 9223372036854775807) (h2 : 0 ≤ b) (h3 : b ≤ 9223372036854775807) : kor a b = ((a.toNat ||| b.toNat : Nat) : Int) := by
  unfold kor
  have hle : a.toNat ||| b.toNat < 2 ^ 63 := Nat.or_lt_two_pow (by omega) (by omega)
  refine toL_nat ?_ (by omega)
  show ((yl a).toBitVec ||| (yl b).toBitVec).toNat = _
  rw [BitVec.toNat_or, yl_natv h0 h1, yl_natv h2 h3]
theorem smod_small {b : BitVec 64} (h : b.toNat < 64) : b.smod 64 = b := by
  have hm : b.msb = false := by
    rw [BitVec.msb_eq_decide, decide_eq_false_iff_not]
    omega
  rw [BitVec.smod_eq, hm]
  show b.umod 64 = b
  apply BitVec.eq_of_toNat_eq
  show b.toNat % 64 = b.toNat
  omega
theorem kshl_e {a c : Int} (h0 : 0 ≤ a) (h2 : 0 ≤ c) (h3 : c < 63) (h4 : a.toNat * 2 ^ c.toNat ≤ 9223372036854775807) : kshl a c = ((a.toNat * 2 ^ c.toNat : Nat) : Int) := by
  have hp : 1 ≤ 2 ^ c.toNat := Nat.one_le_two_pow
  have h1 : a.toNat ≤ a.toNat * 2 ^ c.toNat := Nat.le_mul_of_pos_right _ (by omega)
  unfold kshl
  have hc : (yl c).toBitVec.toNat = c.toNat := yl_natv h2 (by omega)
  have e : (yl a <<< yl c).toBitVec = (yl a).toBitVec <<< (yl c).toBitVec := by
    rw [Int64.toBitVec_shiftLeft, smod_small (by omega)]
  refine toL_nat ?_ h4
  rw [e, BitVec.shiftLeft_eq', BitVec.toNat_shiftLeft, yl_natv h0 (by omega), hc, Nat.shiftLeft_eq]
  exact Nat.mod_eq_of_lt (by omega)
theorem kshr_e {a c : Int} (h0 : 0 ≤ a) (h1 : a ≤ 9223372036854775807) (h2 : 0 ≤ c) (h3 : c < 63) : kshr a c = ((a.toNat / 2 ^ c.toNat : Nat) : Int) := by
  unfold kshr
  have hle : a.toNat / 2 ^ c.toNat ≤ a.toNat := Nat.div_le_self _ _
  have hc : (yl c).toBitVec.toNat = c.toNat := yl_natv h2 (by omega)
  have e : (yl a >>> yl c).toBitVec = (yl a).toBitVec.sshiftRight' (yl c).toBitVec := by
    rw [Int64.toBitVec_shiftRight, smod_small (by omega)]
  refine toL_nat ?_ (by omega)
  have hm : (yl a).toBitVec.msb = false := by
    rw [BitVec.msb_eq_decide, decide_eq_false_iff_not, yl_natv h0 h1]
    omega
  rw [e, BitVec.sshiftRight_eq', BitVec.sshiftRight_eq_of_msb_false hm, BitVec.toNat_ushiftRight, yl_natv h0 h1, hc, Nat.shiftRight_eq_div_pow]
theorem jand_low {a : Int} (h0 : 0 ≤ a) (k : Nat) (hk : k < 31) : jand a ((2 ^ k - 1 : Nat) : Int) = a % ((2 ^ k : Nat) : Int) := by
  have hp : 2 ^ k ≤ 2 ^ 30 := Nat.pow_le_pow_right (by omega) (by omega)
  have hp1 : 1 ≤ 2 ^ k := Nat.one_le_two_pow
  unfold jand
  have e1 : (yw a).toBitVec.toNat = a.toNat % 2 ^ 32 := by
    show (BitVec.ofInt 32 a).toNat = _
    rw [BitVec.toNat_ofInt]
    omega
  have e2 : (yw ((2 ^ k - 1 : Nat) : Int)).toBitVec.toNat = 2 ^ k - 1 := by
    rw [yw_natv (by omega) (by omega)]
    omega
  have hd : (2 : Nat) ^ k ∣ 2 ^ 32 := Nat.pow_dvd_pow 2 (by omega)
  have e3 : (yw a &&& yw ((2 ^ k - 1 : Nat) : Int)).toBitVec.toNat = a.toNat % 2 ^ k := by
    show ((yw a).toBitVec &&& (yw ((2 ^ k - 1 : Nat) : Int)).toBitVec).toNat = _
    rw [BitVec.toNat_and, e1, e2, Nat.and_two_pow_sub_one_eq_mod, Nat.mod_mod_of_dvd _ hd]
  have hlt : a.toNat % 2 ^ k < 2 ^ k := Nat.mod_lt _ (by omega)
  rw [toI_nat e3 (by omega), Int.natCast_emod, Int.toNat_of_nonneg h0]
section ROW
variable {O : Nat → Option va_E} {f : Nat} {M : xM} {m n d x : Int}
theorem e_row (m0 : 0 ≤ m) (m1 : m < 1000000000) (n0 : 0 ≤ n) (n1 : n < 16) (d0 : 0 ≤ d) (d1 : d < 262144) : f_Dates_row O f m n d 0 M = some (rw' m n d, M) := by
  unfold f_Dates_row
  have c23 : kand (ki2l 23) 63 = 23 := by decide
  have c19 : kand (ki2l 19) 63 = 19 := by decide
  have c1 : kand (ki2l 1) 63 = 1 := by decide
  have p23 : (2 : Nat) ^ (23 : Int).toNat = 8388608 := by decide
  have p19 : (2 : Nat) ^ (19 : Int).toNat = 524288 := by decide
  have p1 : (2 : Nat) ^ (1 : Int).toNat = 2 := by decide
  rw [c23, c19, c1, ki2l_e (by omega) (by omega), ki2l_e (by omega) (by omega), ki2l_e (by omega) (by omega), ki2l_e (by omega) (by omega), kshl_e m0 (by omega) (by omega) (by rw [p23]; omega), kshl_e n0 (by omega) (by omega) (by rw [p19]; omega), kshl_e d0 (by omega) (by omega) (by rw [p1]; omega), p23, p19, p1]
  have o1 : m.toNat * 8388608 ||| n.toNat * 524288 = m.toNat * 8388608 + n.toNat * 524288 := by
    have := Nat.two_pow_add_eq_or_of_lt (i := 23) (b := n.toNat * 524288) (by omega) m.toNat
    rw [show (2 : Nat) ^ 23 = 8388608 by decide] at this
    rw [Nat.mul_comm m.toNat, this]
  have o2 : (m.toNat * 8388608 + n.toNat * 524288) ||| d.toNat * 2 = m.toNat * 8388608 + n.toNat * 524288 + d.toNat * 2 := by
    have := Nat.two_pow_add_eq_or_of_lt (i := 19) (b := d.toNat * 2) (by omega) (m.toNat * 16 + n.toNat)
    rw [show (2 : Nat) ^ 19 * (m.toNat * 16 + n.toNat) = m.toNat * 8388608 + n.toNat * 524288 by omega] at this
    exact this.symm
  rw [kor_e (a := ((m.toNat * 8388608 : Nat) : Int)) (b := ((n.toNat * 524288 : Nat) : Int)) (by omega) (by omega) (by omega) (by omega), Int.toNat_natCast, Int.toNat_natCast, o1, kor_e (a := ((m.toNat * 8388608 + n.toNat * 524288 : Nat) : Int)) (b := ((d.toNat * 2 : Nat) : Int)) (by omega) (by omega) (by omega) (by omega), Int.toNat_natCast, Int.toNat_natCast, o2, kor_e (b := 0) (by omega) (by omega) (by omega) (by omega), Int.toNat_natCast]
  show some (((_ ||| 0 : Nat) : Int), M) = _
  rw [Nat.or_zero]
  unfold rw'
  congr 2
  omega
theorem c_row (m0 : 0 ≤ m) (m1 : m < 1000000000) (n0 : 0 ≤ n) (n1 : n < 16) (d0 : 0 ≤ d) (d1 : d < 262144) {δ : Type} {A : _ → xM → Option δ} : xcl (f_Dates_row O f m n d 0 M) A = A (rw' m n d) (M) := xc_of (e_row m0 m1 n0 n1 d0 d1) A
/-- a row's parts -/
def rM (x : Int) : Int := x / 8388608
def rN (x : Int) : Int := x / 524288 % 16
def rD (x : Int) : Int := x / 2 % 262144
theorem rM_e (n0 : 0 ≤ n) (n1 : n < 16) (d0 : 0 ≤ d) (d1 : d < 262144) : rM (rw' m n d) = m := by unfold rM rw'; omega
theorem rN_e (n0 : 0 ≤ n) (n1 : n < 16) (d0 : 0 ≤ d) (d1 : d < 262144) : rN (rw' m n d) = n := by unfold rN rw'; omega
theorem rD_e (n0 : 0 ≤ n) (n1 : n < 16) (d0 : 0 ≤ d) (d1 : d < 262144) : rD (rw' m n d) = d := by unfold rD rw'; omega
theorem rw_r (m0 : 0 ≤ m) (m1 : m < 1000000000) (n0 : 0 ≤ n) (n1 : n < 16) (d0 : 0 ≤ d) (d1 : d < 262144) : 0 ≤ rw' m n d ∧ rw' m n d < 8388608000000000 := by unfold rw'; omega
theorem e_minuteOf (h0 : 0 ≤ x) (h1 : x < 9000000000000000) : f_Dates_minuteOf O f x M = some (rM x, M) := by
  unfold f_Dates_minuteOf rM
  have c23 : kand (ki2l 23) 63 = 23 := by decide
  have p23 : (2 : Nat) ^ (23 : Int).toNat = 8388608 := by decide
  rw [c23, kshr_e h0 (by omega) (by omega) (by omega), p23]
  congr 2
  omega
theorem c_minuteOf (h0 : 0 ≤ x) (h1 : x < 9000000000000000) {δ : Type} {A : _ → xM → Option δ} : xcl (f_Dates_minuteOf O f x M) A = A (rM x) (M) := xc_of (e_minuteOf h0 h1) A
theorem e_numberOf (h0 : 0 ≤ x) (h1 : x < 9000000000000000) : f_Dates_numberOf O f x M = some (rN x, M) := by
  unfold f_Dates_numberOf rN
  have c : kand (ki2l 19) 63 = 19 := by decide
  have p : (2 : Nat) ^ (19 : Int).toNat = 524288 := by decide
  have q := jand_low (a := ((x.toNat / 524288 : Nat) : Int)) (by omega) 4 (by omega)
  have q15 : ((2 ^ 4 - 1 : Nat) : Int) = 15 := by decide
  have q16 : ((2 ^ 4 : Nat) : Int) = 16 := by decide
  rw [q15, q16] at q
  rw [c, kshr_e h0 (by omega) (by omega) (by omega), p, q]
  congr 2
  omega
theorem c_numberOf (h0 : 0 ≤ x) (h1 : x < 9000000000000000) {δ : Type} {A : _ → xM → Option δ} : xcl (f_Dates_numberOf O f x M) A = A (rN x) (M) := xc_of (e_numberOf h0 h1) A
theorem e_dayIn (h0 : 0 ≤ x) (h1 : x < 9000000000000000) : f_Dates_dayIn O f x M = some (rD x, M) := by
  unfold f_Dates_dayIn rD
  have c : kand (ki2l 1) 63 = 1 := by decide
  have p : (2 : Nat) ^ (1 : Int).toNat = 2 := by decide
  have q := jand_low (a := ((x.toNat / 2 : Nat) : Int)) (by omega) 18 (by omega)
  have q15 : ((2 ^ 18 - 1 : Nat) : Int) = 262143 := by decide
  have q16 : ((2 ^ 18 : Nat) : Int) = 262144 := by decide
  rw [q15, q16] at q
  rw [c, kshr_e h0 (by omega) (by omega) (by omega), p, q]
  congr 2
  omega
theorem c_dayIn (h0 : 0 ≤ x) (h1 : x < 9000000000000000) {δ : Type} {A : _ → xM → Option δ} : xcl (f_Dates_dayIn O f x M) A = A (rD x) (M) := xc_of (e_dayIn h0 h1) A
end ROW
end
/-! draft 551.dates -/
section
/-! ===== the dates' rows ===== -/
theorem kcmp_T {a b : Int} (h : b < a) (ha : a ≤ 9223372036854775807) (hb : -9223372036854775808 ≤ b) : kcmp a b = 1 := by
  have q1 : yl b < yl a := by
    rw [Int64.lt_iff_toInt_lt, yl_to ⟨hb, by omega⟩, yl_to ⟨by omega, ha⟩]
    exact h
  have q2 : ¬ yl a < yl b := by
    rw [Int64.lt_iff_toInt_lt, yl_to ⟨hb, by omega⟩, yl_to ⟨by omega, ha⟩]
    omega
  have q3 : yl a ≠ yl b := by
    intro e
    have := (yl_eq (a := a) (b := b) ⟨by omega, ha⟩ ⟨hb, by omega⟩).mp e
    omega
  unfold kcmp lg_cmp
  first
    | (rw [if_neg q2, if_neg q3]; rfl)
    | (rw [if_pos q1]; rfl)
    | (simp [q1, q2, q3]; done)
theorem kcmp_F {a b : Int} (h : a ≤ b) (ha : -9223372036854775808 ≤ a) (hb : b ≤ 9223372036854775807) : kcmp a b ≤ 0 ∧ -1 ≤ kcmp a b := by
  by_cases e : a = b
  · subst e
    have q : ¬ yl a < yl a := by
      rw [Int64.lt_iff_toInt_lt]
      omega
    have : kcmp a a = 0 := by
      unfold kcmp lg_cmp
      first
        | (rw [if_neg q, if_pos rfl]; rfl)
        | (simp [q]; done)
    omega
  · have q1 : yl a < yl b := by
      rw [Int64.lt_iff_toInt_lt, yl_to ⟨ha, by omega⟩, yl_to ⟨by omega, hb⟩]
      omega
    have q2 : ¬ yl b < yl a := by
      rw [Int64.lt_iff_toInt_lt, yl_to ⟨ha, by omega⟩, yl_to ⟨by omega, hb⟩]
      omega
    have q3 : yl a ≠ yl b := by
      intro g
      have := (yl_eq (a := a) (b := b) ⟨ha, by omega⟩ ⟨by omega, hb⟩).mp g
      omega
    have : kcmp a b = -1 := by
      unfold kcmp lg_cmp
      first
        | (rw [if_pos q1]; rfl)
        | (rw [if_neg q2, if_neg q3]; rfl)
        | (simp [q1, q2, q3]; done)
    omega
/-- the rows that the class has collected -/
def DL (M : xM) (L : List Int) : Prop := iV M 116 0 = L.length ∧ L.length ≤ 320 ∧ (∀ i : Nat, i < L.length → lV M 117 i = L.getD i 0) ∧ srt L ∧ ∀ x, x ∈ L → 0 ≤ x ∧ x < 9000000000000000
section DAT
variable {O : Nat → Option va_E} {f : Nat} {M N : xM} {L : List Int} {x ix : Int}
theorem DL.un {P : Nat → Prop} (h : DL M L) (u : Un P M N) (p : P 116 ∧ P 117) : DL N L := by
  obtain ⟨a, b, c, d⟩ := h
  exact ⟨by rw [u.i p.1]; exact a, b, fun i hi => by rw [u.l p.2]; exact c i hi, d⟩
theorem DL.kp {P : Nat → Prop} (h : DL M L) (u : Kp P M N) (hM : 1044 ≤ M.1) (p : P 116 ∧ P 117) : DL N L := by
  obtain ⟨a, b, c, d⟩ := h
  exact ⟨by rw [u.i (by omega) p.1]; exact a, b, fun i hi => by rw [u.l (by omega) p.2]; exact c i hi, d⟩
theorem e_rowAt (h : Wd M) (h0 : 0 ≤ ix) (h1 : ix < 320) : f_Dates_rowAt O f 116 ix M = some (lV M 117 ix.toNat, M) := by
  unfold f_Dates_rowAt
  rw [lt_F h0 (by omega) (by omega), a_Dates_rows h, n_Dates_rows h, le_F h1 (by omega) (by omega), a_Dates_rows h, r_Dates_rows h h0 h1]
theorem c_rowAt (h : Wd M) (h0 : 0 ≤ ix) (h1 : ix < 320) {δ : Type} {A : _ → xM → Option δ} : xcl (f_Dates_rowAt O f 116 ix M) A = A (lV M 117 ix.toNat) (M) := xc_of (e_rowAt h h0 h1) A
theorem DL.at (h : DL M L) (w : Wd M) (h0 : 0 ≤ ix) (h1 : ix.toNat < L.length) : f_Dates_rowAt O f 116 ix M = some (L.getD ix.toNat 0, M) := by
  rw [e_rowAt w h0 (by have := h.2.1; omega), h.2.2.1 _ h1]
theorem add_29 (h : DL M L) (w : Wd M) (x0 : 0 ≤ x) (x1 : x < 9000000000000000) : ∀ (r n : Nat) (lo hi t : Int), 0 ≤ lo → lo ≤ hi → hi ≤ L.length → (∀ i : Nat, (i : Int) < lo → L.getD i 0 ≤ x) → (∀ i : Nat, hi ≤ i → i < L.length → x < L.getD i 0) → 0 ≤ t → t + r ≤ 32 → hi - lo < (2 ^ r : Nat) → r < n → ∃ k : Nat, f_Dates_add_29 O f n 116 x lo hi t M = f_Dates_add_79 O f 116 x (k : Int) M ∧ k ≤ L.length ∧ (∀ i : Nat, i < k → L.getD i 0 ≤ x) ∧ (k < L.length → x < L.getD k 0) := by
  have hL := h.2.1
  intro r
  induction r with
  | zero =>
    intro n lo hi t h0 h1 h2 h3 h4 h5 h6 h7 h8
    obtain ⟨n, rfl⟩ : ∃ n', n = n' + 1 := ⟨n - 1, by omega⟩
    have e2 : (2 ^ 0 : Nat) = 1 := rfl
    rw [e2] at h7
    refine ⟨lo.toNat, ?_, by omega, fun i hi => h3 i (by omega), fun hk => h4 lo.toNat (by omega) hk⟩
    rw [Int.toNat_of_nonneg h0]
    show (if yw 32 ≤ yw t then _ else _) = _
    by_cases g : 32 ≤ t
    · rw [le_T g (by omega) (by omega)]
    · rw [le_F (by omega) (by omega) (by omega), le_T (by omega) (by omega) (by omega)]
  | succ r ih =>
    intro n lo hi t h0 h1 h2 h3 h4 h5 h6 h7 h8
    obtain ⟨n, rfl⟩ : ∃ n', n = n' + 1 := ⟨n - 1, by omega⟩
    have e2 : (2 ^ (r + 1) : Nat) = 2 ^ r * 2 := Nat.pow_succ 2 r
    rw [e2] at h7
    by_cases g : hi ≤ lo
    · refine ⟨lo.toNat, ?_, by omega, fun i hi => h3 i (by omega), fun hk => h4 lo.toNat (by omega) hk⟩
      rw [Int.toNat_of_nonneg h0]
      show (if yw 32 ≤ yw t then _ else _) = _
      rw [le_F (by omega) (by omega) (by omega), le_T (by omega) (by omega) (by omega)]
    · have step : f_Dates_add_29 O f (n + 1) 116 x lo hi t M = if yw 0 < yw (kcmp (L.getD ((lo + hi) / 2).toNat 0) x) then f_Dates_add_29 O f n 116 x lo ((lo + hi) / 2) (t + 1) M else f_Dates_add_29 O f n 116 x ((lo + hi) / 2 + 1) hi (t + 1) M := by
        show (if yw 32 ≤ yw t then _ else _) = _
        rw [le_F (by omega) (by omega) (by omega), le_F (by omega) (by omega) (by omega), a_Dates_is w, jdiv_e (by omega) (by omega) (by omega) (by omega), h.at w (by omega) (by omega), xcl_e]
      have hm : ((lo + hi) / 2).toNat < L.length := by omega
      have hr := h.2.2.2.2 _ (getD_mem hm)
      rw [step]
      by_cases c : x < L.getD ((lo + hi) / 2).toNat 0
      · rw [kcmp_T c (by omega) (by omega), lt_T (by omega) (by omega) (by omega)]
        refine ih n lo ((lo + hi) / 2) (t + 1) h0 (by omega) (by omega) h3 (fun i hi1 hi2 => ?_) (by omega) (by omega) (by omega) (by omega)
        by_cases e : i = ((lo + hi) / 2).toNat
        · rw [e]
          exact c
        · have := srt_lt h.2.2.2.1 (i := ((lo + hi) / 2).toNat) (j := i) (by omega) hi2
          omega
      · have := kcmp_F (a := L.getD ((lo + hi) / 2).toNat 0) (b := x) (by omega) (by omega) (by omega)
        rw [lt_F (by omega) (by omega) (by omega)]
        refine ih n ((lo + hi) / 2 + 1) hi (t + 1) (by omega) (by omega) h2 (fun i hi1 => ?_) h4 (by omega) (by omega) (by omega) (by omega)
        by_cases e : i = ((lo + hi) / 2).toNat
        · rw [e]
          omega
        · have := srt_lt h.2.2.2.1 (i := i) (j := ((lo + hi) / 2).toNat) (by omega) hm
          omega
theorem add_ok (h : DL M L) (w : Wd M) (x0 : 0 ≤ x) (x1 : x < 9000000000000000) (hx : x ∉ L) (hn : L.length < 320) (hf : 100 ≤ f) : ∃ M', f_Dates_add O f 116 x M = some ((), M') ∧ DL M' (ins x L) ∧ Un (fun a => a ≠ 116 ∧ a ≠ 117) M M' := by
  have hc := h.1
  obtain ⟨k, ek, k0, k1, k2⟩ := add_29 (O := O) (f := f) h w x0 x1 32 f 0 L.length 0 (by omega) (by omega) (by omega) (fun i hi => by omega) (fun i h1 h2 => by omega) (by omega) (by omega) (by
    have : (2 ^ 32 : Nat) = 4294967296 := by decide
    rw [this]
    omega) (by omega)
  have w1 : Wd (cL M 117 k 117 (k + 1) (L.length - k)) := w
  have w2 : Wd (lS (cL M 117 k 117 (k + 1) (L.length - k)) 117 k x) := w
  have hsh : shp 117 = .inr (1, 320) := by decide
  refine ⟨iS (lS (cL M 117 k 117 (k + 1) (L.length - k)) 117 k x) 116 0 (L.length + 1), ?_, ⟨?_, ?_, ?_, ?_, ?_⟩, ?_⟩
  · unfold f_Dates_add
    rw [a_Dates_count w, lt_F (by omega) (by omega) (by omega), a_Dates_count w, lt_T (by omega) (by omega) (by omega), a_Dates_count w, hc, ek]
    unfold f_Dates_add_79
    rw [a_Dates_rows w, a_Dates_rows w, a_Dates_count w, hc, z_cL (n0 := 320) (n1 := 320) (w.b (by decide)) (w.b (by decide)) ((w.s (by decide)).trans hsh) ((w.s (by decide)).trans hsh) (by omega) (by omega) (by omega) (by omega) (by omega) (by decide) (by decide)]
    rw [show (k : Int).toNat = k by omega, show ((k : Int) + 1).toNat = k + 1 by omega, show ((L.length : Int) - k).toNat = L.length - k by omega, a_Dates_rows w1, w_Dates_rows w1 (by omega) (by omega), show (k : Int).toNat = k by omega, a_Dates_count w2, p_Dates_count w2]
    have e : iV (lS (cL M 117 k 117 (k + 1) (L.length - k)) 117 k x) 116 0 = L.length := hc
    rw [e]
  · rw [iV_s (by omega) (by omega), len_ins]
    omega
  · rw [len_ins]
    omega
  · intro i hi
    rw [len_ins] at hi
    rw [ins_at k0 k1 k2 i]
    show lV (lS (cL M 117 k 117 (k + 1) (L.length - k)) 117 k x) 117 i = _
    by_cases g : i < k
    · rw [if_pos g, lV_o (by omega), lV_co (by omega)]
      exact h.2.2.1 i (by omega)
    · rw [if_neg g]
      by_cases g2 : i = k
      · rw [if_pos g2, g2, lV_s (by omega) (by omega)]
      · rw [if_neg g2, lV_o (by omega), lV_cs (by omega) (by omega), show k + (i - (k + 1)) = i - 1 by omega]
        exact h.2.2.1 (i - 1) (by omega)
  · exact srt_ins h.2.2.2.1 hx
  · intro y hy
    rcases mem_ins.mp hy with e | e
    · rw [e]
      exact ⟨x0, x1⟩
    · exact h.2.2.2.2 y e
  · exact ((Un.rf.cL (by (try dsimp only); omega)).lS (by (try dsimp only); omega)).iS (by (try dsimp only); omega)
theorem clear_ok (w : Wd M) : ∃ M', f_Dates_clear O f 116 M = some ((), M') ∧ DL M' [] ∧ Un (fun a => a ≠ 116 ∧ a ≠ 117) M M' := by
  refine ⟨iS M 116 0 0, ?_, ⟨?_, by decide, fun i hi => absurd hi (Nat.not_lt_zero _), List.Pairwise.nil, fun x hx => by cases hx⟩, Un.rf.iS (by (try dsimp only); omega)⟩
  · unfold f_Dates_clear
    rw [p_Dates_count w]
  · rw [iV_s (by omega) (by omega)]
    rfl
theorem DL.begin (h : DL M L) (w : Wd M) (h0 : 0 ≤ ix) (h1 : ix.toNat < L.length) : f_Dates_beginAt O f 116 ix M = some (rM (L.getD ix.toNat 0), M) := by
  have hr := h.2.2.2.2 _ (getD_mem h1)
  unfold f_Dates_beginAt
  rw [a_Dates_is w, h.at w h0 h1, xcl_e, xc_of (e_minuteOf hr.1 hr.2)]
theorem DL.len (h : DL M L) (w : Wd M) (h0 : 0 ≤ ix) (h1 : ix.toNat < L.length) : f_Dates_lengthAt O f 116 ix M = some (iV M 118 (rN (L.getD ix.toNat 0)).toNat, M) := by
  have hr := h.2.2.2.2 _ (getD_mem h1)
  have hn : 0 ≤ rN (L.getD ix.toNat 0) ∧ rN (L.getD ix.toNat 0) < 16 := ⟨Int.emod_nonneg _ (by decide), Int.emod_lt_of_pos _ (by decide)⟩
  unfold f_Dates_lengthAt
  rw [a_Dates_lengths w, a_Dates_is w, h.at w h0 h1, xcl_e, xc_of (e_numberOf hr.1 hr.2), r_Dates_lengths w hn.1 hn.2]
theorem DL.endA (h : DL M L) (w : Wd M) (h0 : 0 ≤ ix) (h1 : ix.toNat < L.length) : f_Dates_endAt O f 116 ix M = some (rM (L.getD ix.toNat 0) + iV M 118 (rN (L.getD ix.toNat 0)).toNat, M) := by
  unfold f_Dates_endAt
  rw [a_Dates_is w, h.begin w h0 h1, xcl_e, a_Dates_is w, h.len w h0 h1, xcl_e]
theorem putLen_ok {k : Nat} (w : Wd M) (hk : k < 16) : f_Dates_putLength O f 116 (k : Int) x M = some ((), iS M 118 k x) := by
  unfold f_Dates_putLength
  have q := jand_low (a := (k : Int)) (by omega) 4 (by omega)
  have q15 : ((2 ^ 4 - 1 : Nat) : Int) = 15 := by decide
  have q16 : ((2 ^ 4 : Nat) : Int) = 16 := by decide
  rw [q15, q16] at q
  rw [q, a_Dates_lengths w, w_Dates_lengths w (by omega) (by omega), show ((k : Int) % 16).toNat = k by omega]
end DAT
end
/-! draft 552.series -/
section
/-! ===== series: exceptions, begins ===== -/
def exF (g : Nat → Int) (d : Int) : Nat → Int
  | 0 => -1
  | n + 1 => if exF g d n = -1 then (if g n = d then n else -1) else exF g d n
theorem exF_none {g : Nat → Int} {d : Int} : ∀ {n : Nat}, exF g d n = -1 ↔ ∀ i, i < n → g i ≠ d
  | 0 => ⟨fun _ i hi => absurd hi (Nat.not_lt_zero _), fun _ => rfl⟩
  | n + 1 => by
    unfold exF
    by_cases e : exF g d n = -1
    · rw [if_pos e]
      have ih := exF_none.mp e
      by_cases q : g n = d
      · rw [if_pos q]
        constructor
        · intro h
          omega
        · intro h
          exact absurd q (h n (Nat.lt_succ_self _))
      · rw [if_neg q]
        refine ⟨fun _ i hi => ?_, fun _ => rfl⟩
        by_cases z : i = n
        · rw [z]
          exact q
        · exact ih i (by omega)
    · rw [if_neg e]
      constructor
      · intro h
        exact absurd h e
      · intro h
        exact exF_none.mpr (fun i hi => h i (by omega))
theorem exF_some {g : Nat → Int} {d : Int} : ∀ {n : Nat}, exF g d n ≠ -1 → 0 ≤ exF g d n ∧ (exF g d n).toNat < n ∧ g (exF g d n).toNat = d
  | 0, h => absurd rfl h
  | n + 1, h => by
    unfold exF at h ⊢
    by_cases e : exF g d n = -1
    · rw [if_pos e] at h ⊢
      by_cases q : g n = d
      · rw [if_pos q]
        rw [Int.toNat_natCast]
        exact ⟨by omega, by omega, q⟩
      · rw [if_neg q] at h
        exact absurd rfl h
    · rw [if_neg e]
      obtain ⟨a, b, c⟩ := exF_some e
      exact ⟨a, by omega, c⟩
theorem exF_of {g g' : Nat → Int} {d : Int} : ∀ {n : Nat}, (∀ i, i < n → g' i = g i) → exF g' d n = exF g d n
  | 0, _ => rfl
  | n + 1, h => by
    unfold exF
    rw [exF_of (fun i hi => h i (by omega)), h n (by omega)]
/-- the exception of a day -/
def exO (M : xM) (k : Nat) (d : Int) : Int := exF (iV M (31 + 6 * k)) d (iV M (29 + 6 * k) 7).toNat
def zk (M : xM) (k : Nat) : Nat := (iV M (29 + 6 * k) 1).toNat
/-- when the date of a day begins; -1 if it is left out -/
def bg (M : xM) (k : Nat) (d : Int) : Int := if exO M k d = -1 then com M (zk M k) (d * 1440 + iV M (29 + 6 * k) 2) else if iV M (32 + 6 * k) (exO M k d).toNat = -1 then -1 else com M (zk M k) (iV M (32 + 6 * k) (exO M k d).toNat)
/-- a series is sound -/
def SV (M : xM) (k : Nat) : Prop := iV M (29 + 6 * k) 0 = 1 ∧ (0 ≤ iV M (29 + 6 * k) 1 ∧ iV M (29 + 6 * k) 1 < 3) ∧ (0 ≤ iV M (29 + 6 * k) 2 ∧ iV M (29 + 6 * k) 2 ≤ 1439) ∧ (1 ≤ iV M (29 + 6 * k) 3 ∧ iV M (29 + 6 * k) 3 ≤ 600) ∧ (0 ≤ iV M (29 + 6 * k) 4 ∧ iV M (29 + 6 * k) 4 ≤ 255) ∧ (iV M (29 + 6 * k) 5 = 0 ∨ iV M (29 + 6 * k) 5 = 1) ∧ (0 ≤ iV M (29 + 6 * k) 7 ∧ iV M (29 + 6 * k) 7 ≤ 10) ∧ (∀ i : Nat, (i : Int) < iV M (29 + 6 * k) 7 → (10 ≤ iV M (31 + 6 * k) i ∧ iV M (31 + 6 * k) i ≤ 146000) ∧ (iV M (32 + 6 * k) i = -1 ∨ (14400 ≤ iV M (32 + 6 * k) i ∧ iV M (32 + 6 * k) i ≤ 210300000))) ∧ (∀ i j : Nat, i < j → (j : Int) < iV M (29 + 6 * k) 7 → iV M (31 + 6 * k) i ≠ iV M (31 + 6 * k) j)
/-- what a rule tells -/
def NXr (O : Nat → Option va_E) (f : Nat) (r : Nat → Int) (k : Nat) (D : Int → Prop) : Prop := (∀ d, D d → 10 ≤ d ∧ d ≤ 146000) ∧ ∀ N : xM, Wd N → (∀ j, iV N (30 + 6 * k) j = r j) → (∀ d : Int, -100000 ≤ d → d ≤ 200000 → ∃ x, f_Rule_next O f (30 + 6 * k) d N = some (x, N) ∧ ((x = -1 ∧ ∀ e, d ≤ e → ¬ D e) ∨ (d ≤ x ∧ D x ∧ ∀ e, d ≤ e → e < x → ¬ D e))) ∧ (∀ d : Int, -1000000 ≤ d → d ≤ 1000000 → ∃ b, f_Rule_isDay O f (30 + 6 * k) d N = some (b, N) ∧ ((b = 0 ∧ ¬ D d) ∨ (b = 1 ∧ D d)))
section SER
variable {O : Nat → Option va_E} {f k : Nat} {M N : xM} {D : Int → Prop} {d l x : Int}
theorem SV.of (h : SV M k) (e : ∀ a j, 29 + 6 * k ≤ a → a < 35 + 6 * k → iV N a j = iV M a j) : SV N k := by
  unfold SV
  simp (disch := omega) only [e]
  exact h
theorem com_r (hz : Zv M k) : l - 960 ≤ com M k l ∧ com M k l ≤ l + 720 := by
  obtain ⟨o0, o1, s0, s1, -, -⟩ := hz
  unfold com
  split <;> omega
theorem com_mono {l' : Int} (hz : Zv M k) (h : l + 1440 ≤ l') : com M k l < com M k l' := by
  obtain ⟨o0, o1, s0, s1, -, -⟩ := hz
  unfold com
  split <;> split <;> omega
theorem ex_loop (h : Wd M) (hk : k < 12) (h10 : iV M (29 + 6 * k) 7 ≤ 10) (d0 : -2147483648 ≤ d) (d1 : d ≤ 2147483647) : ∀ (r n : Nat) (v : Int), 0 ≤ v → v ≤ 10 → v + r = max v (iV M (29 + 6 * k) 7) → exF (iV M (31 + 6 * k)) d v.toNat = -1 → r < n → f_Series_exceptionOf_2 O f n (29 + 6 * k) d v M = some (exF (iV M (31 + 6 * k)) d (max v (iV M (29 + 6 * k) 7)).toNat, M) := by
  intro r
  induction r with
  | zero =>
    intro n v h0 hv10 h1 h2 h3
    obtain ⟨n, rfl⟩ : ∃ n', n = n' + 1 := ⟨n - 1, by omega⟩
    have hr := iV_r M (29 + 6 * k) 7
    show (gJ O M (29 + 6 * k) 10 7).bind _ = _
    rw [a_Series_exceptions h hk, le_T (by omega) (by omega) (by omega), show max v (iV M (29 + 6 * k) 7) = v by omega, h2]
  | succ r ih =>
    intro n v h0 hv10 h1 h2 h3
    obtain ⟨n, rfl⟩ : ∃ n', n = n' + 1 := ⟨n - 1, by omega⟩
    have hr := iV_r M (29 + 6 * k) 7
    have hmx : max v (iV M (29 + 6 * k) 7) = iV M (29 + 6 * k) 7 := by omega
    have hmx2 : max (v + 1) (iV M (29 + 6 * k) 7) = iV M (29 + 6 * k) 7 := by omega
    show (gJ O M (29 + 6 * k) 10 7).bind _ = _
    rw [a_Series_exceptions h hk, le_F (by omega) (by omega) (by omega), a_Series_exceptionDays h hk, n_Series_exceptionDays h hk, le_F (by omega) (by omega) (by omega), a_Series_exceptionDays h hk, r_Series_exceptionDays h hk h0 (by omega), hmx]
    have hrd := iV_r M (31 + 6 * k) v.toNat
    have keep : ∀ m : Nat, exF (iV M (31 + 6 * k)) d (v.toNat + 1) ≠ -1 → exF (iV M (31 + 6 * k)) d (v.toNat + 1 + m) = exF (iV M (31 + 6 * k)) d (v.toNat + 1) := by
      intro m hm
      induction m with
      | zero => rfl
      | succ m im =>
        show (if exF _ d (v.toNat + 1 + m) = -1 then _ else exF _ d (v.toNat + 1 + m)) = _
        rw [im, if_neg hm]
    have s1 : exF (iV M (31 + 6 * k)) d (v.toNat + 1) = if iV M (31 + 6 * k) v.toNat = d then (v.toNat : Int) else -1 := by
      show (if exF _ d v.toNat = -1 then _ else _) = _
      rw [if_pos h2]
    by_cases q : iV M (31 + 6 * k) v.toNat = d
    · rw [if_pos q] at s1
      rw [eq_T q]
      have := keep ((iV M (29 + 6 * k) 7).toNat - (v.toNat + 1)) (by rw [s1]; omega)
      rw [show v.toNat + 1 + ((iV M (29 + 6 * k) 7).toNat - (v.toNat + 1)) = (iV M (29 + 6 * k) 7).toNat by omega, s1] at this
      rw [this]
      congr 2
      omega
    · rw [if_neg q] at s1
      rw [eq_F q (by omega) (by omega) (by omega) (by omega)]
      have := ih n (v + 1) (by omega) (by omega) (by omega) (by rw [show (v + 1).toNat = v.toNat + 1 by omega]; exact s1) (by omega)
      rw [hmx2] at this
      exact this
theorem e_exceptionOf (h : Wd M) (hk : k < 12) (h0 : 0 ≤ iV M (29 + 6 * k) 7) (h10 : iV M (29 + 6 * k) 7 ≤ 10) (d0 : -2147483648 ≤ d) (d1 : d ≤ 2147483647) (hf : 20 ≤ f) : f_Series_exceptionOf O f (29 + 6 * k) d M = some (exO M k d, M) := by
  have := ex_loop (O := O) (f := f) (d := d) h hk h10 d0 d1 (iV M (29 + 6 * k) 7).toNat f 0 (by omega) (by omega) (by omega) rfl (by omega)
  rw [show max 0 (iV M (29 + 6 * k) 7) = iV M (29 + 6 * k) 7 by omega] at this
  exact this
theorem c_exceptionOf (h : Wd M) (hk : k < 12) (h0 : 0 ≤ iV M (29 + 6 * k) 7) (h10 : iV M (29 + 6 * k) 7 ≤ 10) (d0 : -2147483648 ≤ d) (d1 : d ≤ 2147483647) (hf : 20 ≤ f) {δ : Type} {A : _ → xM → Option δ} : xcl (f_Series_exceptionOf O f (29 + 6 * k) d M) A = A (exO M k d) (M) := xc_of (e_exceptionOf h hk h0 h10 d0 d1 hf) A
theorem e_exceptionTo (h : Wd M) (hk : k < 12) (h0 : 0 ≤ x) (h1 : x < 10) : f_Series_exceptionTo O f (29 + 6 * k) x M = some (iV M (32 + 6 * k) x.toNat, M) := by
  unfold f_Series_exceptionTo
  rw [lt_F h0 (by omega) (by omega), a_Series_exceptionTos h hk, n_Series_exceptionTos h hk, le_F h1 (by omega) (by omega), a_Series_exceptionTos h hk, r_Series_exceptionTos h hk h0 h1]
theorem c_exceptionTo (h : Wd M) (hk : k < 12) (h0 : 0 ≤ x) (h1 : x < 10) {δ : Type} {A : _ → xM → Option δ} : xcl (f_Series_exceptionTo O f (29 + 6 * k) x M) A = A (iV M (32 + 6 * k) x.toNat) (M) := xc_of (e_exceptionTo h hk h0 h1) A
theorem e_exceptionDay (h : Wd M) (hk : k < 12) (h0 : 0 ≤ x) (h1 : x < 10) : f_Series_exceptionDay O f (29 + 6 * k) x M = some (iV M (31 + 6 * k) x.toNat, M) := by
  unfold f_Series_exceptionDay
  rw [lt_F h0 (by omega) (by omega), a_Series_exceptionDays h hk, n_Series_exceptionDays h hk, le_F h1 (by omega) (by omega), a_Series_exceptionDays h hk, r_Series_exceptionDays h hk h0 h1]
theorem c_exceptionDay (h : Wd M) (hk : k < 12) (h0 : 0 ≤ x) (h1 : x < 10) {δ : Type} {A : _ → xM → Option δ} : xcl (f_Series_exceptionDay O f (29 + 6 * k) x M) A = A (iV M (31 + 6 * k) x.toNat) (M) := xc_of (e_exceptionDay h hk h0 h1) A
theorem e_zoneOf (h : Wd M) (hk : k < 12) (z0 : 0 ≤ iV M (29 + 6 * k) 1) (z1 : iV M (29 + 6 * k) 1 < 3) : f_Hall_zoneOf O f 2 (29 + 6 * k) M = some (12 + 3 * zk M k, M) := by
  unfold f_Hall_zoneOf
  rw [a_Series_zone h hk, a_Hall_is h, c_anyZone h z0 z1]
  rfl
theorem c_zoneOf (h : Wd M) (hk : k < 12) (z0 : 0 ≤ iV M (29 + 6 * k) 1) (z1 : iV M (29 + 6 * k) 1 < 3) {δ : Type} {A : _ → xM → Option δ} : xcl (f_Hall_zoneOf O f 2 (29 + 6 * k) M) A = A (12 + 3 * zk M k) (M) := xc_of (e_zoneOf h hk z0 z1) A
theorem exO_r (h0 : 0 ≤ iV M (29 + 6 * k) 7) (h : exO M k d ≠ -1) : 0 ≤ exO M k d ∧ exO M k d < iV M (29 + 6 * k) 7 ∧ iV M (31 + 6 * k) (exO M k d).toNat = d := by
  obtain ⟨a, b, c⟩ := exF_some h
  exact ⟨a, by
    have : (exO M k d).toNat < (iV M (29 + 6 * k) 7).toNat := b
    have a' : 0 ≤ exO M k d := a
    omega, c⟩
theorem e_beginOf (h : Wd M) (hk : k < 12) (hs : SV M k) (hz : Zv M (zk M k)) (d0 : 10 ≤ d) (d1 : d ≤ 146000) (hf : 20 ≤ f) : f_Series_beginOf O f (29 + 6 * k) (12 + 3 * zk M k) d M = some (bg M k d, M) := by
  obtain ⟨-, ⟨z0, z1⟩, ⟨m0, m1⟩, -, -, -, ⟨e0, e1⟩, hx, -⟩ := hs
  have zl : zk M k < 3 := by unfold zk; omega
  unfold f_Series_beginOf bg
  rw [a_Series_is h hk, xc_of (e_exceptionOf h hk e0 e1 (by omega) (by omega) hf)]
  by_cases g : exO M k d = -1
  · rw [eq_T g, if_pos g, a_Series_minute h hk, a_Zone_is h zl, xc_of (e_commonOf h zl hz (by omega) (by omega))]
  · obtain ⟨q0, q1, q2⟩ := exO_r e0 g
    have hxx := (hx (exO M k d).toNat (by omega)).2
    rw [eq_F g (by omega) (by omega) (by omega) (by omega), if_neg g, a_Series_is h hk, xc_of (e_exceptionTo h hk q0 (by omega))]
    by_cases g2 : iV M (32 + 6 * k) (exO M k d).toNat = -1
    · rw [eq_T g2, if_pos g2]
    · rw [eq_F g2 (by omega) (by omega) (by omega) (by omega), if_neg g2, a_Zone_is h zl, xc_of (e_commonOf h zl hz (by omega) (by omega))]
theorem c_beginOf (h : Wd M) (hk : k < 12) (hs : SV M k) (hz : Zv M (zk M k)) (d0 : 10 ≤ d) (d1 : d ≤ 146000) (hf : 20 ≤ f) {δ : Type} {A : _ → xM → Option δ} : xcl (f_Series_beginOf O f (29 + 6 * k) (12 + 3 * zk M k) d M) A = A (bg M k d) (M) := xc_of (e_beginOf h hk hs hz d0 d1 hf) A
theorem s_num (h : Wd M) (hk : k < 12) (hs : iV M (29 + 6 * k) 0 = 1) : f_Calendarhall_seriesNumbered O f 1 (k : Int) M = some (29 + 6 * k, M) := by
  have hkz : ((k : Int)).toNat = k := by omega
  have q := e_seriesNumbered (O := O) (f := f) (i := (k : Int)) h (by omega) (by omega) (by rw [hkz]; exact hs)
  rw [hkz] at q
  exact q
theorem e_begin {kk : Int} (h : Wd M) (hkk : kk = (k : Int)) (hk : k < 12) (hs : SV M k) (hz : Zv M (zk M k)) (hn : NXr O f (iV M (30 + 6 * k)) k D) (hD : D d) (hf : 20 ≤ f) : f_Calendarhall_begin O f 1 kk d M = some (bg M k d, M) := by
  subst hkk
  have hd := hn.1 d hD
  obtain ⟨b, eb, hb⟩ := (hn.2 M h (fun _ => rfl)).2 d (by omega) (by omega)
  have hb1 : b = 1 := by
    rcases hb with ⟨-, q⟩ | ⟨q, -⟩
    · exact absurd hD q
    · exact q
  unfold f_Calendarhall_begin
  rw [a_Cal_is h, xc_of (s_num h hk hs.1), a_Series_rule h hk, a_Rule_is h hk, eb, xcl_e, hb1, eq_F (by omega) (by omega) (by omega) (by omega) (by omega), a_Cal_hall h, a_Hall_is h, xc_of (e_zoneOf h hk hs.2.1.1 hs.2.1.2), a_Series_is h hk, xc_of (e_beginOf h hk hs hz (by omega) (by omega) hf)]
theorem c_begin {kk : Int} (h : Wd M) (hkk : kk = (k : Int)) (hk : k < 12) (hs : SV M k) (hz : Zv M (zk M k)) (hn : NXr O f (iV M (30 + 6 * k)) k D) (hD : D d) (hf : 20 ≤ f) {δ : Type} {A : _ → xM → Option δ} : xcl (f_Calendarhall_begin O f 1 kk d M) A = A (bg M k d) (M) := xc_of (e_begin h hkk hk hs hz hn hD hf) A
theorem e_nextDay {kk : Int} (h : Wd M) (hkk : kk = (k : Int)) (hk : k < 12) (hs : iV M (29 + 6 * k) 0 = 1) (hn : NXr O f (iV M (30 + 6 * k)) k D) (d0 : 10 ≤ d) (d1 : d ≤ 146000) : ∃ x, f_Calendarhall_nextDay O f 1 kk d M = some (x, M) ∧ ((x = -1 ∧ ∀ e, d ≤ e → ¬ D e) ∨ (d ≤ x ∧ D x ∧ ∀ e, d ≤ e → e < x → ¬ D e)) := by
  subst hkk
  obtain ⟨x, ex, hx⟩ := (hn.2 M h (fun _ => rfl)).1 d (by omega) (by omega)
  refine ⟨x, ?_, hx⟩
  unfold f_Calendarhall_nextDay
  rw [a_Cal_is h, xc_of (s_num h hk hs), c_needDay d0 d1, a_Series_rule h hk, a_Rule_is h hk, ex, xcl_e]
theorem e_earliestDay {z : Nat} (h : Wd M) (hk : k < 12) (hz : z < 3) (q0 : 0 ≤ x + iV M (12 + 3 * z) 0 - iV M (29 + 6 * k) 2) (q1 : x + iV M (12 + 3 * z) 0 - iV M (29 + 6 * k) 2 ≤ 2147483647) : f_Series_earliestDay O f (29 + 6 * k) (12 + 3 * z) x M = some ((x + iV M (12 + 3 * z) 0 - iV M (29 + 6 * k) 2) / 1440, M) := by
  unfold f_Series_earliestDay
  rw [a_Zone_offset h hz, a_Series_minute h hk, jdiv_e q0 (by omega) q1 (by omega)]
theorem c_earliestDay {z : Nat} (h : Wd M) (hk : k < 12) (hz : z < 3) (q0 : 0 ≤ x + iV M (12 + 3 * z) 0 - iV M (29 + 6 * k) 2) (q1 : x + iV M (12 + 3 * z) 0 - iV M (29 + 6 * k) 2 ≤ 2147483647) {δ : Type} {A : _ → xM → Option δ} : xcl (f_Series_earliestDay O f (29 + 6 * k) (12 + 3 * z) x M) A = A ((x + iV M (12 + 3 * z) 0 - iV M (29 + 6 * k) 2) / 1440) (M) := xc_of (e_earliestDay h hk hz q0 q1) A
/-- what the series tells of itself -/
theorem e_seriesAt {kk w : Int} {j : Nat} (h : Wd M) (hkk : kk = (k : Int)) (hk : k < 12) (hs : iV M (29 + 6 * k) 0 = 1) (hw : (w = 2 ∧ j = 2) ∨ (w = 3 ∧ j = 3) ∨ (w = 4 ∧ j = 4)) : f_Calendarhall_seriesAt O f 1 kk w M = some (iV M (29 + 6 * k) j, M) := by
  subst hkk
  unfold f_Calendarhall_seriesAt f_Series_tell
  rw [a_Cal_is h, xc_of (s_num h hk hs), c_needRange (by omega) (by omega) (by omega) (by omega), a_Series_is h hk]
  rcases hw with ⟨rfl, rfl⟩ | ⟨rfl, rfl⟩ | ⟨rfl, rfl⟩
  · rw [eq_F (by omega) (by omega) (by omega) (by omega) (by omega), eq_F (by omega) (by omega) (by omega) (by omega) (by omega), eq_T rfl, a_Series_minute h hk, xcl_e]
  · rw [eq_F (by omega) (by omega) (by omega) (by omega) (by omega), eq_F (by omega) (by omega) (by omega) (by omega) (by omega), eq_F (by omega) (by omega) (by omega) (by omega) (by omega), eq_T rfl, a_Series_length h hk, xcl_e]
  · rw [eq_F (by omega) (by omega) (by omega) (by omega) (by omega), eq_F (by omega) (by omega) (by omega) (by omega) (by omega), eq_F (by omega) (by omega) (by omega) (by omega) (by omega), eq_F (by omega) (by omega) (by omega) (by omega) (by omega), eq_T rfl, a_Series_people h hk, xcl_e]
theorem c_seriesAt {kk w : Int} {j : Nat} (h : Wd M) (hkk : kk = (k : Int)) (hk : k < 12) (hs : iV M (29 + 6 * k) 0 = 1) (hw : (w = 2 ∧ j = 2) ∨ (w = 3 ∧ j = 3) ∨ (w = 4 ∧ j = 4)) {δ : Type} {A : _ → xM → Option δ} : xcl (f_Calendarhall_seriesAt O f 1 kk w M) A = A (iV M (29 + 6 * k) j) (M) := xc_of (e_seriesAt h hkk hk hs hw) A
end SER
end
/-! draft 553.addrows -/
section
/-! ===== the dates of a series are collected ===== -/
def P3 (a : Nat) : Prop := a ≠ 116 ∧ a ≠ 117 ∧ a ≠ 118
/-- the begin by the rule -/
def C0 (M : xM) (k : Nat) (d : Int) : Int := com M (zk M k) (d * 1440 + iV M (29 + 6 * k) 2)
section ADR
variable {O : Nat → Option va_E} {f k nb : Nat} {M N : xM} {D : Int → Prop} {a lo hi : Int} {L : List Int}
theorem p3_v (u : Un P3 M N) : ∀ b j, b < 116 → iV N b j = iV M b j := fun b j hb => u.i (show P3 b by unfold P3; omega)
theorem exO_of {d : Int} (e : ∀ b j, 29 + 6 * k ≤ b → b < 35 + 6 * k → iV N b j = iV M b j) : exO N k d = exO M k d := by
  unfold exO
  rw [e (29 + 6 * k) _ (by omega) (by omega)]
  exact exF_of (fun i hi => e _ _ (by omega) (by omega))
theorem C0_of {d : Int} (hk : k < 12) (z0 : iV M (29 + 6 * k) 1 < 3) (e : ∀ b j, 12 ≤ b → b < 116 → iV N b j = iV M b j) : C0 N k d = C0 M k d := by
  unfold C0 zk
  rw [e (29 + 6 * k) _ (by omega) (by omega), e (29 + 6 * k) _ (by omega) (by omega)]
  exact com_of (fun b j h1 h2 => e b j (by omega) (by omega))
theorem bg_of {d : Int} (hk : k < 12) (z0 : iV M (29 + 6 * k) 1 < 3) (e : ∀ b j, 12 ≤ b → b < 116 → iV N b j = iV M b j) : bg N k d = bg M k d := by
  have hx : exO N k d = exO M k d := exO_of (fun b j h1 h2 => e b j (by omega) (by omega))
  unfold bg zk
  rw [hx, e (29 + 6 * k) _ (by omega) (by omega), e (29 + 6 * k) _ (by omega) (by omega), e (32 + 6 * k) _ (by omega) (by omega)]
  rw [com_of (fun b j h1 h2 => e b j (by omega) (by omega)), com_of (fun b j h1 h2 => e b j (by omega) (by omega))]
theorem C0_r {d : Int} (hs : SV M k) (hz : Zv M (zk M k)) : d * 1440 + iV M (29 + 6 * k) 2 - iV M (12 + 3 * zk M k) 0 - iV M (12 + 3 * zk M k) 1 ≤ C0 M k d ∧ C0 M k d ≤ d * 1440 + iV M (29 + 6 * k) 2 - iV M (12 + 3 * zk M k) 0 := by
  obtain ⟨o0, o1, s0, s1, -, -⟩ := hz
  unfold C0 com
  split <;> omega
theorem C0_mono {d e : Int} (hz : Zv M (zk M k)) (h : d ≤ e) : C0 M k d ≤ C0 M k e := by
  by_cases q : d = e
  · rw [q]
    exact Int.le_refl _
  · exact Int.le_of_lt (com_mono hz (by omega))
/-- a row of a day -/
def rwD (M : xM) (k nb : Nat) (a lo hi d x : Int) : Prop := lo ≤ C0 M k d - a ∧ C0 M k d - a < hi ∧ x = rw' (C0 M k d - a) nb d
theorem ar_31 (h : Wd M) (hk : k < 12) (hs : SV M k) (hz : Zv M (zk M k)) (hn : NXr O f (iV M (30 + 6 * k)) k D) (hnb : nb < 16) (a0 : 0 ≤ a) (a1 : a ≤ 1440) (l0 : 10000 ≤ lo) (l1 : lo < hi) (l2 : hi ≤ 150000000) (l3 : hi - lo ≤ 21000) (hfr : ∀ x, x ∈ L → rN x ≠ nb) (hW : L.length + ((hi - lo) / 1440 + 13) ≤ 320) (hf : 2000 ≤ f) : ∀ (r n : Nat) (v t : Int) (N : xM) (Lc : List Int), Un P3 M N → DL N Lc → 0 ≤ t → (v ≠ -1 → (hi + a + 960) / 1440 + 1 ≤ v + r) → (v = -1 ∨ (D v ∧ (lo + a + iV M (12 + 3 * zk M k) 0 - iV M (29 + 6 * k) 2) / 1440 + t ≤ v ∧ (Lc.length : Int) + (lo + a + iV M (12 + 3 * zk M k) 0 - iV M (29 + 6 * k) 2) / 1440 ≤ L.length + v)) → (Lc.length : Int) ≤ L.length + ((hi - lo) / 1440 + 3) → (∀ x, x ∈ Lc ↔ x ∈ L ∨ ∃ d, D d ∧ (v = -1 ∨ d < v) ∧ exO M k d = -1 ∧ rwD M k nb a lo hi d x) → r + 1 < n → ∃ N' L', f_Series_addRows_31 O f n (29 + 6 * k) 116 nb a (12 + 3 * zk M k) lo hi v t N = f_Series_addRows_124 O f (29 + 6 * k) 116 nb a (12 + 3 * zk M k) lo hi N' ∧ Un P3 M N' ∧ DL N' L' ∧ (L'.length : Int) ≤ L.length + ((hi - lo) / 1440 + 3) ∧ (∀ j, iV N' 118 j = iV N 118 j) ∧ (∀ x, x ∈ L' ↔ x ∈ L ∨ ∃ d, D d ∧ exO M k d = -1 ∧ rwD M k nb a lo hi d x) := by
  have hs' := hs
  obtain ⟨-, ⟨z0, z1⟩, ⟨m0, m1⟩, -, -, -, ⟨e0, e1⟩, -, -⟩ := hs'
  have zl : zk M k < 3 := by unfold zk; omega
  have hz' := hz
  obtain ⟨o0, o1, s0, s1, -, -⟩ := hz'
  intro r
  induction r with
  | zero =>
    intro n v t N Lc u dl t0 hr hv hlen hm h2
    obtain ⟨n, rfl⟩ : ∃ n', n = n' + 1 := ⟨n - 1, by omega⟩
    have wN := u.wd h
    by_cases g : v = -1
    · refine ⟨N, Lc, ?_, u, dl, hlen, fun _ => rfl, fun x => ?_⟩
      · show (if yw 1000 ≤ yw t then _ else _) = _
        by_cases g2 : yw 1000 ≤ yw t
        · rw [if_pos g2]
        · rw [if_neg g2, eq_T g]
      · rw [hm x]
        constructor
        · rintro (q | ⟨d, q1, -, q2⟩)
          · exact Or.inl q
          · exact Or.inr ⟨d, q1, q2⟩
        · rintro (q | ⟨d, q1, q2⟩)
          · exact Or.inl q
          · exact Or.inr ⟨d, q1, Or.inl g, q2⟩
    · have hrr := hr g
      rcases hv with hv | ⟨hD, ht, hl⟩
      · exact absurd hv g
      have hd := hn.1 v hD
      have cr := C0_r (d := v) hs hz
      have out : ∀ d, v ≤ d → ¬ (C0 M k d - a < hi) := by
        intro d hd
        have := C0_mono (k := k) hz hd
        omega
      refine ⟨N, Lc, ?_, u, dl, hlen, fun _ => rfl, fun x => ?_⟩
      · show (if yw 1000 ≤ yw t then _ else _) = _
        by_cases g2 : yw 1000 ≤ yw t
        · rw [if_pos g2]
        · have zN : Zv N (zk M k) := hz.of (fun b j h1 h2 => p3_v u b j (by omega))
          have cN : com N (zk M k) (v * 1440 + iV M (29 + 6 * k) 2) = C0 M k v := com_of (fun b j h1 h2 => p3_v u b j (by omega))
          rw [if_neg g2, eq_F g (by omega) (by omega) (by omega) (by omega), a_Series_minute wN hk, p3_v u _ _ (by omega), a_Zone_is wN zl, xc_of (e_commonOf wN zl zN (by omega) (by omega)), cN, lt_F (by omega) (by omega) (by omega)]
      · rw [hm x]
        constructor
        · rintro (q | ⟨d, q1, -, q2⟩)
          · exact Or.inl q
          · exact Or.inr ⟨d, q1, q2⟩
        · rintro (q | ⟨d, q1, q2, q3, q4, q5⟩)
          · exact Or.inl q
          · refine Or.inr ⟨d, q1, Or.inr ?_, q2, q3, q4, q5⟩
            rcases Int.lt_or_le d v with z | z
            · exact z
            · exact absurd q4 (out d z)
  | succ r ih =>
    intro n v t N Lc u dl t0 hr hv hlen hm h2
    obtain ⟨n, rfl⟩ : ∃ n', n = n' + 1 := ⟨n - 1, by omega⟩
    have wN := u.wd h
    by_cases g : v = -1
    · refine ⟨N, Lc, ?_, u, dl, hlen, fun _ => rfl, fun x => ?_⟩
      · show (if yw 1000 ≤ yw t then _ else _) = _
        by_cases g2 : yw 1000 ≤ yw t
        · rw [if_pos g2]
        · rw [if_neg g2, eq_T g]
      · rw [hm x]
        constructor
        · rintro (q | ⟨d, q1, -, q2⟩)
          · exact Or.inl q
          · exact Or.inr ⟨d, q1, q2⟩
        · rintro (q | ⟨d, q1, q2⟩)
          · exact Or.inl q
          · exact Or.inr ⟨d, q1, Or.inl g, q2⟩
    rcases hv with hv | ⟨hD, ht, hl⟩
    · exact absurd hv g
    have hrr := hr g
    have hd := hn.1 v hD
    have cr := C0_r (d := v) hs hz
    have zN : Zv N (zk M k) := hz.of (fun b j h1 h2 => p3_v u b j (by omega))
    have cN : com N (zk M k) (v * 1440 + iV M (29 + 6 * k) 2) = C0 M k v := com_of (fun b j h1 h2 => p3_v u b j (by omega))
    by_cases gb : hi ≤ C0 M k v - a
    · have out : ∀ d, v ≤ d → ¬ (C0 M k d - a < hi) := by
        intro d hd
        have := C0_mono (k := k) hz hd
        omega
      refine ⟨N, Lc, ?_, u, dl, hlen, fun _ => rfl, fun x => ?_⟩
      · show (if yw 1000 ≤ yw t then _ else _) = _
        by_cases g2 : yw 1000 ≤ yw t
        · rw [if_pos g2]
        · rw [if_neg g2, eq_F g (by omega) (by omega) (by omega) (by omega), a_Series_minute wN hk, p3_v u _ _ (by omega), a_Zone_is wN zl, xc_of (e_commonOf wN zl zN (by omega) (by omega)), cN, lt_F (by omega) (by omega) (by omega)]
      · rw [hm x]
        constructor
        · rintro (q | ⟨d, q1, -, q2⟩)
          · exact Or.inl q
          · exact Or.inr ⟨d, q1, q2⟩
        · rintro (q | ⟨d, q1, q2, q3, q4, q5⟩)
          · exact Or.inl q
          · refine Or.inr ⟨d, q1, Or.inr ?_, q2, q3, q4, q5⟩
            rcases Int.lt_or_le d v with z | z
            · exact z
            · exact absurd q4 (out d z)
    -- the day goes on
    have ht1 : t < 1000 := by omega
    have gon : ∀ (N2 : xM) (L2 : List Int), Un P3 M N2 → DL N2 L2 → (∀ j, iV N2 118 j = iV N 118 j) → (L2.length : Int) ≤ Lc.length + 1 → (L2.length : Int) ≤ L.length + ((hi - lo) / 1440 + 3) → (∀ x, x ∈ L2 ↔ x ∈ L ∨ ∃ d, D d ∧ d < v + 1 ∧ exO M k d = -1 ∧ rwD M k nb a lo hi d x) → ∃ N' L', f_Series_addRows_105 O f (f_Series_addRows_31 O f n) (29 + 6 * k) 116 nb a (12 + 3 * zk M k) lo hi v t N2 = f_Series_addRows_124 O f (29 + 6 * k) 116 nb a (12 + 3 * zk M k) lo hi N' ∧ Un P3 M N' ∧ DL N' L' ∧ (L'.length : Int) ≤ L.length + ((hi - lo) / 1440 + 3) ∧ (∀ j, iV N' 118 j = iV N 118 j) ∧ (∀ x, x ∈ L' ↔ x ∈ L ∨ ∃ d, D d ∧ exO M k d = -1 ∧ rwD M k nb a lo hi d x) := by
      intro N2 L2 u2 dl2 k2 hl2 hl3 hm2
      have w2 := u2.wd h
      obtain ⟨x, ex, hx⟩ := (hn.2 N2 w2 (fun j => p3_v u2 _ _ (by omega))).1 (v + 1) (by omega) (by omega)
      have q := ih n x (t + 1) N2 L2 u2 dl2 (by omega) (by
        intro hx1
        rcases hx with ⟨hx, -⟩ | ⟨hx, -⟩
        · exact absurd hx hx1
        · omega) (by
        rcases hx with ⟨hx, -⟩ | ⟨hx, hx2, -⟩
        · exact Or.inl hx
        · exact Or.inr ⟨hx2, by omega, by omega⟩) hl3 (by
        intro y
        rw [hm2 y]
        constructor
        · rintro (q | ⟨d, q1, q2, q3⟩)
          · exact Or.inl q
          · refine Or.inr ⟨d, q1, ?_, q3⟩
            rcases hx with ⟨hx, -⟩ | ⟨hx, -⟩
            · exact Or.inl hx
            · exact Or.inr (by omega)
        · rintro (q | ⟨d, q1, q2, q3⟩)
          · exact Or.inl q
          · refine Or.inr ⟨d, q1, ?_, q3⟩
            rcases Int.lt_or_le d (v + 1) with z | z
            · exact z
            · exfalso
              rcases hx with ⟨hx, hx2⟩ | ⟨hx, -, hx2⟩
              · exact hx2 d z q1
              · rcases q2 with q2 | q2
                · omega
                · exact hx2 d z q2 q1) (by omega)
      obtain ⟨N', L', e', u', d', l', k', m'⟩ := q
      refine ⟨N', L', ?_, u', d', l', fun j => (k' j).trans (k2 j), m'⟩
      unfold f_Series_addRows_105
      rw [a_Series_rule w2 hk, a_Rule_is w2 hk, ex, xcl_e, e']
    have start : f_Series_addRows_31 O f (n + 1) (29 + 6 * k) 116 nb a (12 + 3 * zk M k) lo hi v t N = if yw (C0 M k v - a) < yw lo then f_Series_addRows_105 O f (f_Series_addRows_31 O f n) (29 + 6 * k) 116 nb a (12 + 3 * zk M k) lo hi v t N else if yw (exO M k v) = yw (-1) then (xcl (f_Dates_row O f (C0 M k v - a) nb v 0 N) fun x4 M3 => (isO O M3 116 2).bind fun _ => xcl (f_Dates_add O f 116 x4 M3) fun _ M4 => f_Series_addRows_105 O f (f_Series_addRows_31 O f n) (29 + 6 * k) 116 nb a (12 + 3 * zk M k) lo hi v t M4) else f_Series_addRows_105 O f (f_Series_addRows_31 O f n) (29 + 6 * k) 116 nb a (12 + 3 * zk M k) lo hi v t N := by
      have hex := e_exceptionOf (O := O) (f := f) (d := v) wN hk (by rw [p3_v u _ _ (by omega)]; exact e0) (by rw [p3_v u _ _ (by omega)]; exact e1) (by omega) (by omega) (by omega)
      have hex2 : exO N k v = exO M k v := exO_of (fun b j h1 h2 => p3_v u b j (by omega))
      rw [hex2] at hex
      show (if yw 1000 ≤ yw t then _ else _) = _
      rw [le_F (by omega) (by omega) (by omega), eq_F g (by omega) (by omega) (by omega) (by omega), a_Series_minute wN hk, p3_v u _ _ (by omega), a_Zone_is wN zl, xc_of (e_commonOf wN zl zN (by omega) (by omega)), cN, lt_T (by omega) (by omega) (by omega), a_Series_is wN hk, hex, xcl_e]
    rw [start]
    have same : (¬ (lo ≤ C0 M k v - a) ∨ exO M k v ≠ -1) → ∀ x, x ∈ Lc ↔ x ∈ L ∨ ∃ d, D d ∧ d < v + 1 ∧ exO M k d = -1 ∧ rwD M k nb a lo hi d x := by
      intro hno x
      rw [hm x]
      constructor
      · rintro (q | ⟨d, q1, q2, q3⟩)
        · exact Or.inl q
        · exact Or.inr ⟨d, q1, by omega, q3⟩
      · rintro (q | ⟨d, q1, q2, q3, q4, q5⟩)
        · exact Or.inl q
        · refine Or.inr ⟨d, q1, Or.inr ?_, q3, q4, q5⟩
          by_cases z : d = v
          · exfalso
            rw [z] at q3 q4
            rcases hno with hno | hno
            · exact hno q4
            · exact hno q3
          · omega
    by_cases g3 : C0 M k v - a < lo
    · rw [lt_T g3 (by omega) (by omega)]
      exact gon N Lc u dl (fun _ => rfl) (by omega) hlen (same (Or.inl (by omega)))
    · rw [lt_F (by omega) (by omega) (by omega)]
      have exr : -1 ≤ exO M k v ∧ exO M k v ≤ 10 := by
        by_cases q : exO M k v = -1
        · omega
        · have := exO_r e0 q
          omega
      by_cases g4 : exO M k v = -1
      · rw [eq_T g4, xc_of (e_row (by omega) (by omega) (by omega) (by omega) (by omega) (by omega)), a_Dates_is wN]
        have rr := rw_r (m := C0 M k v - a) (n := nb) (d := v) (by omega) (by omega) (by omega) (by omega) (by omega) (by omega)
        have fresh : rw' (C0 M k v - a) nb v ∉ Lc := by
          intro q
          rcases (hm _).mp q with q | ⟨d, q1, q2, -, -, -, q5⟩
          · exact hfr _ q (rN_e (by omega) (by omega) (by omega) (by omega))
          · have hd2 := hn.1 d q1
            have y1 := rD_e (m := C0 M k v - a) (n := nb) (d := v) (by omega) (by omega) (by omega) (by omega)
            have y2 := rD_e (m := C0 M k d - a) (n := nb) (d := d) (by omega) (by omega) (by omega) (by omega)
            rw [q5, y2] at y1
            omega
        have hlt : Lc.length + 1 ≤ L.length + ((hi - lo) / 1440 + 3) := by omega
        obtain ⟨N2, e2, d2, u2⟩ := add_ok (O := O) (f := f) dl wN rr.1 (by omega) fresh (by omega) (by omega)
        rw [e2, xcl_e]
        refine gon N2 _ (u.tr (u2.le (fun b q => ⟨q.1, q.2.1⟩))) d2 (fun j => u2.i (by (try dsimp only); omega)) (by rw [len_ins]; omega) (by rw [len_ins]; omega) (fun x => ?_)
        rw [mem_ins, hm x]
        constructor
        · rintro (q | q | ⟨d, q1, q2, q3⟩)
          · exact Or.inr ⟨v, hD, by omega, g4, by omega, by omega, q⟩
          · exact Or.inl q
          · exact Or.inr ⟨d, q1, by omega, q3⟩
        · rintro (q | ⟨d, q1, q2, q3, q4, q5, q6⟩)
          · exact Or.inr (Or.inl q)
          · by_cases z : d = v
            · rw [z] at q6
              exact Or.inl q6
            · exact Or.inr (Or.inr ⟨d, q1, Or.inr (by omega), q3, q4, q5, q6⟩)
      · rw [eq_F g4 (by omega) (by omega) (by omega) (by omega)]
        exact gon N Lc u dl (fun _ => rfl) (by omega) hlen (same (Or.inr g4))
end ADR
end
