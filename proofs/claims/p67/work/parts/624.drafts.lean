/-! draft 624.minutes -/
section
/-! ===== minutes counted ===== -/
/-- the state in which free times are asked for -/
def FR (M : xM) (m : Nat) (fd : Int) : Prop := SR M m fd ∧ (∀ z, z < 3 → ZD M z) ∧ ∀ p, p < 4 → PV M p
theorem ctN_full {p : Nat → Bool} {j : Nat} : ∀ c, (∀ i, j ≤ i → i < j + c → p i = true) → ctN p (j + c) = ctN p j + c
  | 0, _ => rfl
  | c + 1, h => by
    have e : ctN p (j + (c + 1)) = ctN p (j + c) + (if p (j + c) = true then 1 else 0) := rfl
    rw [e, if_pos (h (j + c) (by omega) (by omega)), ctN_full c (fun i h1 h2 => h i h1 (by omega))]
    omega
/-- what is counted -/
def Qw (wh : Int) (B W : Prop) : Prop := (wh ≠ 1 → B) ∧ (wh ≠ 0 → W)
section CMN
variable {O : Nat → Option va_E} {f m p : Nat} {M N : xM} {fd lo hi wh : Int} {L : List Int}
theorem FR.un {P : Nat → Prop} (h : FR M m fd) (hm : m ≤ 12) (u : Un P M N) (b : Bs N) (q : ∀ a, 12 ≤ a → a < 101 → P a) : FR N m fd := by
  refine ⟨h.1.un hm u b q, fun z hz => (h.2.1 z hz).of (fun a j h1 h2 => u.i (q a (by omega) (by omega))), fun p hp => ?_⟩
  have v := h.2.2 p hp
  have e : ∀ j, iV N (21 + p) j = iV M (21 + p) j := fun j => u.i (q _ (by omega) (by omega))
  unfold PV at v ⊢
  simp only [e]
  exact v
theorem FR.kp {P : Nat → Prop} (h : FR M m fd) (hm : m ≤ 12) (u : Kp P M N) (b : Bs N) (q : ∀ a, 12 ≤ a → a < 101 → P a) : FR N m fd := by
  have hM := h.1.1.1.1
  refine ⟨h.1.kp hm u b q, fun z hz => (h.2.1 z hz).of (fun a j h1 h2 => u.i (by omega) (q a (by omega) (by omega))), fun p hp => ?_⟩
  have v := h.2.2 p hp
  have e : ∀ j, iV N (21 + p) j = iV M (21 + p) j := fun j => u.i (by omega) (q _ (by omega) (by omega))
  unfold PV at v ⊢
  simp only [e]
  exact v
theorem wk_of {x : Int} (hz : iV M (21 + p) 0 < 3) (hp : p < 8) (e : ∀ b j, 12 ≤ b → b < 101 → iV N b j = iV M b j) : wk N p x ↔ wk M p x := by
  unfold wk
  rw [e _ _ (by omega) (by omega), e _ _ (by omega) (by omega), e _ _ (by omega) (by omega), e _ _ (by omega) (by omega), loc_of (fun a j h1 h2 => e a j (by omega) (by omega))]
theorem cm_turn {t : Nat} {x T c : Int} (h : FR M m fd) (hp : p < 4) (hw : wh = 0 ∨ wh = 1 ∨ wh = 2) (hd : wh ≠ 1 → DL M L ∧ RLo M L) (x0 : 131000 ≤ x) (xe : x < hi) (e1 : hi ≤ 750000) (h9 : hi - x ≤ 9000) (T0 : 0 ≤ T) (T1 : T ≤ 20160) (hf : 10000 ≤ f) : ∃ x' c', f_Calendarhall_countMinutes_22 O f (t + 1) 1 (21 + p) hi wh (12 + 3 * (iV M (21 + p) 0).toNat) c x T M = f_Calendarhall_countMinutes_22 O f t 1 (21 + p) hi wh (12 + 3 * (iV M (21 + p) 0).toNat) c' x' (T + 1) M ∧ x < x' ∧ x' ≤ 1000000000 ∧ ((c' = c ∧ ∀ u, x ≤ u → u < x' → u < hi → ¬ Qw wh (onD M L u) (wk M p u)) ∨ (c' = c + (x' - x) ∧ x' ≤ hi ∧ ∀ u, x ≤ u → u < x' → Qw wh (onD M L u) (wk M p u))) := by
  have w := h.1.1.1
  have hv := h.2.2 p hp
  have zd := h.2.1
  obtain ⟨wf, ewf, wf0, wf1, wf2, wf3⟩ := workFrom_ok (O := O) (f := f) w (show p < 8 by omega) hv zd x0 (by omega : x ≤ hi) e1 h9 hf
  obtain ⟨il, eil, il0, il1, il2, il3⟩ := idleFrom_ok (O := O) (f := f) w (show p < 8 by omega) hv zd x0 (by omega : x ≤ hi) e1 h9 hf
  generalize (iV M (21 + p) 0).toNat = z at ewf eil
  -- from the end on
  have e132 : ∀ y : Int, f_Calendarhall_countMinutes_132 O f (f_Calendarhall_countMinutes_22 O f t) 1 (21 + p) hi wh (12 + 3 * z) c x T y M = f_Calendarhall_countMinutes_22 O f t 1 (21 + p) hi wh (12 + 3 * z) (c + (y - x)) y (T + 1) M := fun _ => rfl
  have e146 : ∀ y : Int, f_Calendarhall_countMinutes_146 O f (f_Calendarhall_countMinutes_22 O f t) 1 (21 + p) hi wh (12 + 3 * z) c T y M = f_Calendarhall_countMinutes_22 O f t 1 (21 + p) hi wh (12 + 3 * z) c y (T + 1) M := fun _ => rfl
  have start : f_Calendarhall_countMinutes_22 O f (t + 1) 1 (21 + p) hi wh (12 + 3 * z) c x T M = if yw wh = yw 1 then f_Calendarhall_countMinutes_56 O f (f_Calendarhall_countMinutes_22 O f t) 1 (21 + p) hi wh (12 + 3 * z) c x T x M else (gR O M 1 12 4).bind fun x1 => (isO O M x1 2).bind fun _ => xcl (f_Dates_onFrom O f x1 x M) fun x2 M1 => f_Calendarhall_countMinutes_56 O f (f_Calendarhall_countMinutes_22 O f t) 1 (21 + p) hi wh (12 + 3 * z) c x T x2 M1 := by
    show (if yw 20160 < yw T then _ else _) = _
    rw [lt_F (by omega) (by omega) (by omega), le_F (by omega) (by omega) (by omega)]
  rw [start]
  rcases hw with rfl | rfl | rfl
  · -- busy
    obtain ⟨d, hl⟩ := hd (by decide)
    obtain ⟨on, eon, on0, on1, on2⟩ := onFrom_ok (O := O) (f := f) d w hl (x := x) (by omega) (by omega) (by omega)
    rw [eq_F (by omega) (by omega) (by omega) (by omega) (by omega), a_Cal_dates w, a_Dates_is w, eon, xcl_e]
    unfold f_Calendarhall_countMinutes_56
    rw [eq_T rfl]
    unfold f_Calendarhall_countMinutes_79
    by_cases g : on = x
    · obtain ⟨of, eof, of0, of1, of2, of3⟩ := offFrom_ok (O := O) (f := f) d w hl (x := x) (by omega) (by omega) (by omega)
      have ox : onD M L x := by
        rcases on2 with q | q
        · omega
        · rw [← g]
          exact q.1
      have ofx : of ≠ x := fun q => of2 (by rw [q]; exact ox)
      rw [eq_T g, eq_F (by omega) (by omega) (by omega) (by omega) (by omega), a_Cal_dates w, a_Dates_is w, eof, xcl_e, xc_of (e_min (by omega) (by omega) (by omega) (by omega))]
      unfold f_Calendarhall_countMinutes_109
      rw [eq_T rfl, e132]
      exact ⟨_, _, rfl, by omega, by omega, Or.inr ⟨rfl, by omega, fun u u0 u1 => ⟨fun _ => of3 u u0 (by omega), fun q => absurd rfl q⟩⟩⟩
    · rw [eq_F g (by omega) (by omega) (by omega) (by omega), e146]
      refine ⟨_, _, rfl, by omega, by omega, Or.inl ⟨rfl, fun u u0 u1 u2 q => ?_⟩⟩
      rcases on2 with z | z
      · exact z.2 u u0 (q.1 (by decide))
      · exact z.2 u u0 u1 (q.1 (by decide))
  · -- work
    rw [eq_T rfl]
    unfold f_Calendarhall_countMinutes_56
    rw [eq_F (by omega) (by omega) (by omega) (by omega) (by omega), a_Person_is w (by omega), ewf, xcl_e, xc_of (e_max (by omega) (by omega) (by omega) (by omega)), show max x wf = wf by omega]
    unfold f_Calendarhall_countMinutes_79
    by_cases g : wf = x
    · have wx : wk M p x := by
        rw [← g]
        exact wf3 (by omega)
      have ix : il ≠ x := fun q => il3 (by omega) (by rw [q]; exact wx)
      rw [eq_T g, eq_T rfl]
      unfold f_Calendarhall_countMinutes_109
      rw [eq_F (by omega) (by omega) (by omega) (by omega) (by omega), a_Person_is w (by omega), eil, xcl_e, xc_of (e_min (by omega) (by omega) (by omega) (by omega)), show min hi il = il by omega, e132]
      exact ⟨_, _, rfl, by omega, by omega, Or.inr ⟨rfl, by omega, fun u u0 u1 => ⟨fun q => absurd rfl q, fun _ => il2 u u0 u1⟩⟩⟩
    · rw [eq_F g (by omega) (by omega) (by omega) (by omega), e146]
      exact ⟨_, _, rfl, by omega, by omega, Or.inl ⟨rfl, fun u u0 u1 u2 q => wf2 u u0 u1 (q.2 (by decide))⟩⟩
  · -- both
    obtain ⟨d, hl⟩ := hd (by decide)
    obtain ⟨on, eon, on0, on1, on2⟩ := onFrom_ok (O := O) (f := f) d w hl (x := x) (by omega) (by omega) (by omega)
    rw [eq_F (by omega) (by omega) (by omega) (by omega) (by omega), a_Cal_dates w, a_Dates_is w, eon, xcl_e]
    unfold f_Calendarhall_countMinutes_56
    rw [eq_F (by omega) (by omega) (by omega) (by omega) (by omega), a_Person_is w (by omega), ewf, xcl_e, xc_of (e_max (by omega) (by omega) (by omega) (by omega))]
    unfold f_Calendarhall_countMinutes_79
    by_cases g : max on wf = x
    · obtain ⟨of, eof, of0, of1, of2, of3⟩ := offFrom_ok (O := O) (f := f) d w hl (x := x) (by omega) (by omega) (by omega)
      have ox : onD M L x := by
        rcases on2 with q | q
        · omega
        · rw [show x = on by omega]
          exact q.1
      have ofx : of ≠ x := fun q => of2 (by rw [q]; exact ox)
      have wx : wk M p x := by
        rw [show x = wf by omega]
        exact wf3 (by omega)
      have ix : il ≠ x := fun q => il3 (by omega) (by rw [q]; exact wx)
      rw [eq_T g, eq_F (by omega) (by omega) (by omega) (by omega) (by omega), a_Cal_dates w, a_Dates_is w, eof, xcl_e, xc_of (e_min (by omega) (by omega) (by omega) (by omega))]
      unfold f_Calendarhall_countMinutes_109
      rw [eq_F (by omega) (by omega) (by omega) (by omega) (by omega), a_Person_is w (by omega), eil, xcl_e, xc_of (e_min (by omega) (by omega) (by omega) (by omega)), e132]
      exact ⟨_, _, rfl, by omega, by omega, Or.inr ⟨rfl, by omega, fun u u0 u1 => ⟨fun _ => of3 u u0 (by omega), fun _ => il2 u u0 (by omega)⟩⟩⟩
    · rw [eq_F g (by omega) (by omega) (by omega) (by omega), e146]
      refine ⟨_, _, rfl, by omega, by omega, Or.inl ⟨rfl, fun u u0 u1 u2 q => ?_⟩⟩
      by_cases y : u < wf
      · exact wf2 u u0 y (q.2 (by decide))
      · rcases on2 with z | z
        · exact z.2 u u0 (q.1 (by decide))
        · exact z.2 u u0 (by omega) (q.1 (by decide))
theorem countMinutes_ok {q : Nat → Bool} (h : FR M m fd) (hp : p < 4) (hw : wh = 0 ∨ wh = 1 ∨ wh = 2) (hd : wh ≠ 1 → DL M L ∧ RLo M L) (x0 : 131000 ≤ lo) (xe : lo ≤ hi) (e1 : hi ≤ 750000) (h9 : hi - lo ≤ 9000) (hf : 10000 ≤ f) (hq : ∀ i : Nat, (i : Int) < hi - lo → (q i = true ↔ Qw wh (onD M L (lo + i)) (wk M p (lo + i)))) : f_Calendarhall_countMinutes O f 1 (21 + p) lo hi wh M = some (((ctN q (hi - lo).toNat : Nat) : Int), M) := by
  have w := h.1.1.1
  have hv := h.2.2 p hp
  have hz := hv.1
  have cl : ∀ n, (ctN q n : Nat) ≤ n := fun n => ctN_le n
  have key : ∀ (n t : Nat) (T x : Int), hi - x ≤ n → n < t → 0 ≤ T → T + n ≤ 20000 → lo ≤ x → x ≤ 1000000000 → f_Calendarhall_countMinutes_22 O f t 1 (21 + p) hi wh (12 + 3 * (iV M (21 + p) 0).toNat) ((ctN q (min x hi - lo).toNat : Nat) : Int) x T M = some (((ctN q (hi - lo).toNat : Nat) : Int), M) := by
    intro n
    induction n with
    | zero =>
      intro t T x h1 h2 T0 T1 h3 h4
      obtain ⟨t, rfl⟩ : ∃ n', t = n' + 1 := ⟨t - 1, by omega⟩
      show (if yw 20160 < yw T then _ else _) = _
      rw [lt_F (by omega) (by omega) (by omega), le_T (by omega) (by omega) (by omega), show min x hi = hi by omega]
    | succ n ih =>
      intro t T x h1 h2 T0 T1 h3 h4
      by_cases g : hi ≤ x
      · exact ih t T x (by omega) (by omega) T0 (by omega) h3 h4
      · obtain ⟨t, rfl⟩ : ∃ n', t = n' + 1 := ⟨t - 1, by omega⟩
        obtain ⟨x', c', e', a0, a1, a2⟩ := cm_turn (O := O) (f := f) (t := t) (T := T) (c := ((ctN q (min x hi - lo).toNat : Nat) : Int)) h hp hw hd (x := x) (hi := hi) (by omega) (by omega) e1 (by omega) T0 (by omega) hf
        have cc : c' = ((ctN q (min x' hi - lo).toNat : Nat) : Int) := by
          rcases a2 with ⟨rfl, b⟩ | ⟨rfl, b1, b⟩
          · have t1 := ctN_tail (p := q) (j := (min x hi - lo).toNat) ((min x' hi - lo).toNat - (min x hi - lo).toNat) (fun i i0 i1 => by
              have := b (lo + i) (by omega) (by omega) (by omega)
              cases hqi : q i with
              | false => rfl
              | true => exact (this ((hq i (by omega)).mp hqi)).elim)
            rw [show (min x hi - lo).toNat + ((min x' hi - lo).toNat - (min x hi - lo).toNat) = (min x' hi - lo).toNat by omega] at t1
            rw [t1]
          · have t1 := ctN_full (p := q) (j := (min x hi - lo).toNat) ((min x' hi - lo).toNat - (min x hi - lo).toNat) (fun i i0 i1 => (hq i (by omega)).mpr (b (lo + i) (by omega) (by omega)))
            rw [show (min x hi - lo).toNat + ((min x' hi - lo).toNat - (min x hi - lo).toNat) = (min x' hi - lo).toNat by omega] at t1
            rw [t1]
            omega
        rw [e', cc]
        exact ih t (T + 1) x' (by omega) (by omega) (by omega) (by omega) (by omega) a1
  unfold f_Calendarhall_countMinutes
  rw [a_Cal_hall w, a_Person_zone w (by omega), a_Hall_is w, e_anyZone w (by omega) (by omega), xcl_e]
  have k := key (hi - lo).toNat f 0 lo (by omega) (by omega) (by omega) (by omega) (by omega) (by omega)
  rw [show (min lo hi - lo).toNat = 0 by omega] at k
  exact k
end CMN
end
/-! draft 625.share -/
section
/-! ===== shares: a quotient of small numbers is a number ===== -/
def okI (n : Nat) : Bool := match FP.Core.decode FP.Core.b64 (FP.i2d (yw (n : Int))).toNat with
  | .fin s c _ => !s && (decide (c = 0) == decide (n = 0))
  | _ => false
theorem okI_ok : ∀ a : Nat, a < 67 → ∀ b : Nat, b < 67 → okI (67 * a + b) = true := by decide +kernel
theorem i2d_small {x : Int} (h0 : 0 ≤ x) (h1 : x < 4489) : ∃ c q, FP.Core.decode FP.Core.b64 (FP.i2d (yw x)).toNat = .fin false c q ∧ (c = 0 ↔ x = 0) := by
  obtain ⟨n, rfl⟩ := Int.eq_ofNat_of_zero_le h0
  have e := okI_ok (n / 67) (by omega) (n % 67) (by omega)
  rw [show 67 * (n / 67) + n % 67 = n by omega] at e
  unfold okI at e
  revert e
  cases hd : FP.Core.decode FP.Core.b64 (FP.i2d (yw (n : Int))).toNat with
  | nan => intro e; cases e
  | inf s => intro e; cases e
  | fin s c q =>
    intro e
    cases s with
    | true => cases e
    | false =>
      refine ⟨c, q, rfl, ?_⟩
      have e' : (decide (c = 0) == decide (n = 0)) = true := e
      have e2 := eq_of_beq e'
      constructor
      · intro z
        rw [decide_eq_true z] at e2
        have := of_decide_eq_true e2.symm
        omega
      · intro z
        rw [show decide (n = 0) = true from decide_eq_true (by omega)] at e2
        exact of_decide_eq_true e2
theorem enc_le {c : Nat} {q : Int} (hc : c < 9007199254740992) (hq : q ≤ 971) : FP.Core.encode FP.Core.b64 (.fin false c q) ≤ 9218868437227405312 := by
  show (if c < 4503599627370496 then (0 * 2048 + 0) * 4503599627370496 + c else (0 * 2048 + ((q - (-1074)).toNat + 1)) * 4503599627370496 + (c - 4503599627370496)) ≤ _
  split <;> omega
theorem bound_le {c : Nat} {q : Int} (hc : c < 9007199254740992) : FP.Core.encode FP.Core.b64 (FP.Core.bound FP.Core.b64 false c q) ≤ 9218868437227405312 := by
  show FP.Core.encode FP.Core.b64 (if q ≤ 971 then .fin false c q else .inf false) ≤ _
  by_cases h : q ≤ 971
  · rw [if_pos h]
    exact enc_le hc h
  · rw [if_neg h]
    decide
theorem settle_le {c : Nat} {q : Int} : FP.Core.encode FP.Core.b64 (FP.Core.settle FP.Core.b64 false c q) ≤ 9218868437227405312 := by
  show FP.Core.encode FP.Core.b64 (if c < 9007199254740992 then FP.Core.bound FP.Core.b64 false c q else FP.Core.bound FP.Core.b64 false 4503599627370496 (q + 1)) ≤ _
  by_cases h : c < 9007199254740992
  · rw [if_pos h]
    exact bound_le h
  · rw [if_neg h]
    exact bound_le (by decide)
theorem ratio_le {a d : Nat} {e : Int} : FP.Core.encode FP.Core.b64 (FP.Core.roundRatio FP.Core.b64 false a d e) ≤ 9218868437227405312 := by
  unfold FP.Core.roundRatio
  by_cases h : a = 0
  · rw [if_pos h]
    decide
  · rw [if_neg h]
    exact settle_le
theorem share_num {b w : Int} (b0 : 0 ≤ b) (b1 : b < 4489) (w0 : 0 < w) (w1 : w < 4489) : (FP.ddiv (FP.i2d (yw b)) (FP.i2d (yw w))).toNat ≤ 9218868437227405312 := by
  obtain ⟨c, q, e1, -⟩ := i2d_small b0 b1
  obtain ⟨d, r, e2, h2⟩ := i2d_small (x := w) (by omega) w1
  have hd : d ≠ 0 := fun z => by have := h2.mp z; omega
  have e : FP.Core.div FP.Core.b64 (FP.i2d (yw b)).toNat (FP.i2d (yw w)).toNat = FP.Core.encode FP.Core.b64 (FP.Core.roundRatio FP.Core.b64 false c d (q - r)) := by
    unfold FP.Core.div
    rw [e1, e2]
    show FP.Core.encode FP.Core.b64 (if d = 0 then _ else _) = _
    rw [if_neg hd]
    rfl
  show (UInt64.ofNat (FP.Core.div FP.Core.b64 (FP.i2d (yw b)).toNat (FP.i2d (yw w)).toNat)).toNat ≤ _
  have l := ratio_le (a := c) (d := d) (e := q - r)
  rw [e, UInt64.toNat_ofNat_of_lt' (by show _ < 18446744073709551616; omega)]
  exact l
theorem share_ok {b w : Int} (b0 : 0 ≤ b) (b1 : b < 4489) (w0 : 0 < w) (w1 : w < 4489) : FP.ddiv (FP.i2d (yw b)) (FP.i2d (yw w)) &&& 0x7fffffffffffffff ≤ 0x7ff0000000000000 := by
  have h := share_num b0 b1 w0 w1
  rw [UInt64.le_iff_toNat_le, UInt64.toNat_and, show (0x7fffffffffffffff : UInt64).toNat = 2 ^ 63 - 1 from rfl, Nat.and_two_pow_sub_one_eq_mod]
  show _ ≤ 9218868437227405312
  exact Nat.le_trans (Nat.mod_le _ _) h
theorem cmp_self (x : Int) : compare x x = .eq := by
  show (if x < x then Ordering.lt else if x = x then Ordering.eq else Ordering.gt) = _
  rw [if_neg (by omega), if_pos rfl]
theorem jdc_self {a : UInt64} (h : a.toNat ≤ 9218868437227405312) : jdc a a .l = 0 := by
  have e : FP.dcmp a a = some .eq := by
    show FP.Core.order (FP.Core.decode FP.Core.b64 a.toNat) (FP.Core.decode FP.Core.b64 a.toNat) = _
    cases hd : FP.Core.decode FP.Core.b64 a.toNat with
    | nan =>
      exfalso
      have hd' : (if a.toNat / 4503599627370496 % 2048 = 2047 then (if a.toNat % 4503599627370496 = 0 then FP.Core.Datum.inf (FP.Core.fieldS FP.Core.b64 a.toNat) else .nan) else if FP.Core.fieldE FP.Core.b64 a.toNat = 0 then .fin (FP.Core.fieldS FP.Core.b64 a.toNat) (FP.Core.fieldT FP.Core.b64 a.toNat) FP.Core.b64.qmin else .fin (FP.Core.fieldS FP.Core.b64 a.toNat) (FP.Core.b64.tails + FP.Core.fieldT FP.Core.b64 a.toNat) (FP.Core.b64.qmin + ((FP.Core.fieldE FP.Core.b64 a.toNat : Int) - 1))) = .nan := hd
      by_cases g : a.toNat / 4503599627370496 % 2048 = 2047
      · rw [if_pos g, if_pos (by omega)] at hd'
        cases hd'
      · rw [if_neg g] at hd'
        split at hd' <;> cases hd'
    | inf s =>
      show some (compare (FP.Core.signed s 1) (FP.Core.signed s 1)) = _
      rw [cmp_self]
    | fin s c q =>
      show some (compare _ _) = _
      rw [cmp_self]
  unfold jdc
  rw [e]
  rfl
end
/-! draft 626.minutesof -/
section
/-! ===== minutesOf, busyShare ===== -/
section MOF
variable {O : Nat → Option va_E} {f m p : Nat} {M N : xM} {fd lo hi wh : Int} {q : Nat → Bool}
theorem Qw_iff {B B' W W' : Prop} (hb : B ↔ B') (hw : W ↔ W') : Qw wh B W ↔ Qw wh B' W' := by
  unfold Qw
  rw [hb, hw]
theorem two_p (hp : p < 8) : jshl 1 (jand (p : Int) 31) = ((2 ^ p : Nat) : Int) := by
  rw [jshl_one (by omega) (by omega), Int.toNat_natCast, two_pow_z]
/-- somebody's dates collected -/
theorem coll_p (h : FR M m fd) (hm : m ≤ 12) (hp : p < 4) (l0 : 131000 ≤ lo) (l1 : lo < hi) (l2 : hi ≤ 750000) (l3 : hi - lo ≤ 9000) (hf : 2000 ≤ f) : ∃ y M' L, f_Hall_seriesOf O f 2 ((2 ^ p : Nat) : Int) M = some (y, M) ∧ f_Hall_collectOn O f 2 116 y lo hi M = some ((), M') ∧ Un P3 M M' ∧ DL M' L ∧ RLo M' L ∧ FR M' m fd ∧ (∀ u, wk M' p u ↔ wk M p u) ∧ ∀ u, lo ≤ u → u < hi → (onD M' L u ↔ bsy M m (fun k => tp M k p) u) := by
  obtain ⟨y, ey, hy⟩ := seriesOf_ok (O := O) (f := f) h.1 hm (show p < 8 by omega) (by omega)
  obtain ⟨M', L, e, u, d, hl, hb⟩ := colOn_ok (O := O) (f := f) (S := fun k => tp M k p) h.1 hm hy (by omega) l1 (by omega) (by omega) hf
  have b' : Bs M' := h.1.1.un u (by unfold P3; omega) (fun j hj => by unfold P3; omega)
  have iv : ∀ b j, b < 116 → iV M' b j = iV M b j := fun b j hb => u.i (by unfold P3; omega)
  exact ⟨y, M', L, ey, e, u, d, hl, h.un hm u b' (fun a a0 a1 => by unfold P3; omega), fun v => wk_of (h.2.2 p hp).1.2 (by omega) (fun b j _ h2 => iv b j (by omega)), hb⟩
theorem minutesOf_ok {pp : Int} (h : FR M m fd) (hm : m ≤ 12) (hp : p < 4) (hpp : pp = (p : Int)) (hw : wh = 0 ∨ wh = 1 ∨ wh = 2) (l0 : 131000 ≤ lo) (l1 : lo < hi) (l2 : hi ≤ 750000) (l3 : hi - lo ≤ 9000) (hf : 10000 ≤ f) (hq : ∀ i : Nat, (i : Int) < hi - lo → (q i = true ↔ Qw wh (bsy M m (fun k => tp M k p) (lo + i)) (wk M p (lo + i)))) : ∃ M', f_Calendarhall_minutesOf O f 1 pp lo hi wh M = some (((ctN q (hi - lo).toNat : Nat) : Int), M') ∧ Un P3 M M' := by
  subst hpp
  have w := h.1.1.1
  have hpn : f_Calendarhall_personNumbered O f 1 (p : Int) M = some (21 + 1 * ((p : Int)).toNat, M) := e_personNumbered w (by omega) (by omega)
  rw [show 21 + 1 * ((p : Int)).toNat = 21 + p by omega] at hpn
  have body : f_Calendarhall_minutesOf O f 1 (p : Int) lo hi wh M = if yw wh = yw 1 then f_Calendarhall_minutesOf_51 O f 1 lo hi wh (21 + p) M else xcl (f_Hall_seriesOf O f 2 ((2 ^ p : Nat) : Int) M) fun x7 M4 => (isO O M4 2 4).bind fun _ => xcl (f_Hall_collectOn O f 2 116 x7 lo hi M4) fun _ M5 => f_Calendarhall_minutesOf_51 O f 1 lo hi wh (21 + p) M5 := by
    unfold f_Calendarhall_minutesOf
    rw [a_Cal_is w, hpn, xcl_e, xc_of (e_needPiece (by omega) (by omega) l1 (by omega) (by omega)), c_needRange (by omega) (by omega) (by omega) (by omega), a_Cal_hall w, a_Cal_dates w, a_Cal_hall w, a_Hall_is w, two_p (by omega)]
  rw [body]
  by_cases g : wh = 1
  · refine ⟨M, ?_, Un.rf⟩
    rw [eq_T g]
    unfold f_Calendarhall_minutesOf_51
    rw [a_Cal_is w, countMinutes_ok (q := q) (L := []) h hp hw (fun z => absurd g z) l0 (by omega) l2 l3 hf (fun i hi' => by
      rw [hq i hi', g]
      exact ⟨fun z => ⟨fun q => absurd rfl q, z.2⟩, fun z => ⟨fun q => absurd rfl q, z.2⟩⟩), xcl_e]
  · obtain ⟨y, M', L, ey, e, u, d, hl, h', hwk, hb⟩ := coll_p (O := O) (f := f) h hm hp l0 l1 l2 l3 (by omega)
    refine ⟨M', ?_, u⟩
    rw [eq_F g (by omega) (by omega) (by omega) (by omega), ey, xcl_e, a_Hall_is w, e, xcl_e]
    unfold f_Calendarhall_minutesOf_51
    rw [a_Cal_is h'.1.1.1, countMinutes_ok (q := q) (L := L) h' hp hw (fun z => ⟨d, hl⟩) l0 (by omega) l2 l3 hf (fun i hi' => by
      rw [hq i hi']
      exact Qw_iff (hb _ (by omega) (by omega)).symm (hwk _).symm), xcl_e]
theorem busyShare_ok {pp : Int} {q1 q2 : Nat → Bool} (h : FR M m fd) (hm : m ≤ 12) (hp : p < 4) (hpp : pp = (p : Int)) (l0 : 131000 ≤ lo) (l1 : lo < hi) (l2 : hi ≤ 750000) (l3 : hi - lo ≤ 4400) (hf : 10000 ≤ f) (h1 : ∀ i : Nat, (i : Int) < hi - lo → (q1 i = true ↔ Qw 1 (bsy M m (fun k => tp M k p) (lo + i)) (wk M p (lo + i)))) (h2 : ∀ i : Nat, (i : Int) < hi - lo → (q2 i = true ↔ Qw 2 (bsy M m (fun k => tp M k p) (lo + i)) (wk M p (lo + i)))) : ∃ M', f_Calendarhall_busyShare O f 1 pp lo hi M = some ((if (ctN q1 (hi - lo).toNat) = 0 then FP.dconst0 else FP.ddiv (FP.i2d (yw ((ctN q2 (hi - lo).toNat : Nat) : Int))) (FP.i2d (yw ((ctN q1 (hi - lo).toNat : Nat) : Int)))), M') ∧ Un P3 M M' := by
  subst hpp
  have w := h.1.1.1
  have hpn : f_Calendarhall_personNumbered O f 1 (p : Int) M = some (21 + 1 * ((p : Int)).toNat, M) := e_personNumbered w (by omega) (by omega)
  rw [show 21 + 1 * ((p : Int)).toNat = 21 + p by omega] at hpn
  obtain ⟨y, M', L, ey, e, u, d, hl, h', hwk, hb⟩ := coll_p (O := O) (f := f) h hm hp l0 l1 l2 (by omega) (by omega)
  have w' := h'.1.1.1
  have c1 := ctN_le (p := q1) (hi - lo).toNat
  have c2 := ctN_le (p := q2) (hi - lo).toNat
  refine ⟨M', ?_, u⟩
  unfold f_Calendarhall_busyShare
  rw [a_Cal_is w, hpn, xcl_e, xc_of (e_needPiece (by omega) (by omega) l1 (by omega) (by omega)), a_Cal_hall w, a_Cal_dates w, a_Cal_hall w, a_Hall_is w, two_p (by omega), ey, xcl_e, a_Hall_is w, e, xcl_e, a_Cal_is w', countMinutes_ok (q := q1) (L := L) h' hp (Or.inr (Or.inl rfl)) (fun z => ⟨d, hl⟩) l0 (by omega) l2 (by omega) hf (fun i hi' => by
      rw [h1 i hi']
      exact Qw_iff (hb _ (by omega) (by omega)).symm (hwk _).symm), xcl_e]
  by_cases g : ctN q1 (hi - lo).toNat = 0
  · rw [le_F (by omega) (by omega) (by omega), if_pos g]
  · rw [le_T (by omega) (by omega) (by omega), if_neg g, a_Cal_is w', countMinutes_ok (q := q2) (L := L) h' hp (Or.inr (Or.inr rfl)) (fun z => ⟨d, hl⟩) l0 (by omega) l2 (by omega) hf (fun i hi' => by
      rw [h2 i hi']
      exact Qw_iff (hb _ (by omega) (by omega)).symm (hwk _).symm), xcl_e, if_pos (share_ok (by omega) (by omega) (by omega) (by omega)), xlet_e]
end MOF
end
/-! draft 627.freenext -/
section
/-! ===== the first free time ===== -/
/-- somebody of the people doesn't work -/
def idS (M : xM) (g : Nat) (u : Int) : Prop := ∃ p, p < 4 ∧ g / 2 ^ p % 2 = 1 ∧ ¬ wk M p u
/-- a minute that hinders -/
def badM (M : xM) (m g : Nat) (iw : Int) (u : Int) : Prop := bsy M m (tpS M g) u ∨ (iw = 1 ∧ idS M g u)
theorem bit4 {g p : Nat} (hg : g < 16) (hp : 4 ≤ p) : g / 2 ^ p % 2 = 0 := by
  have h8 : (2 : Nat) ^ 4 ≤ 2 ^ p := Nat.pow_le_pow_right (by decide) hp
  have h9 : (2 : Nat) ^ 4 = 16 := by decide
  rw [Nat.div_eq_of_lt (by omega)]
section FNX
variable {O : Nat → Option va_E} {f m g : Nat} {M N : xM} {fd lo hi len iw : Int} {L : List Int}
theorem bit_g {p : Nat} (hg : g < 256) (hp : p < 32) : jand (jshr (g : Int) (jand (p : Int) 31)) 1 = ((g / 2 ^ p % 2 : Nat) : Int) := by
  rw [bit_e (by omega) (by omega) (by omega) (by omega), bitz_nat]
theorem behindBusy_ok {x : Int} (w : Wd M) (d : DL M L) (hl : RLo M L) (x0 : 0 ≤ x) (x1 : x ≤ 800000000) (n0 : 1 ≤ len) (n1 : len ≤ 600) (hf : 400 ≤ f) : ∃ r, f_Calendarhall_behindBusy O f 1 x len M = some (r, M) ∧ x ≤ r ∧ r ≤ 1000000000 ∧ ((r = x ∧ ∀ u, x ≤ u → u < x + len → ¬ onD M L u) ∨ (x < r ∧ ∀ a, x ≤ a → a < r → ∃ u, a ≤ u ∧ u < a + len ∧ u < r ∧ onD M L u)) := by
  obtain ⟨on, eon, on0, on1, on2⟩ := onFrom_ok (O := O) (f := f) d w hl (x := x) x0 (by omega) hf
  unfold f_Calendarhall_behindBusy
  rw [a_Cal_dates w, a_Dates_is w, eon, xcl_e]
  by_cases g : x + len ≤ on
  · rw [le_T g (by omega) (by omega)]
    refine ⟨x, rfl, by omega, by omega, Or.inl ⟨rfl, fun u u0 u1 => ?_⟩⟩
    rcases on2 with z | z
    · exact z.2 u u0
    · exact z.2 u u0 (by omega)
  · obtain ⟨of, eof, of0, of1, of2, of3⟩ := offFrom_ok (O := O) (f := f) d w hl (x := on) (by omega) on1 hf
    rw [le_F (by omega) (by omega) (by omega), a_Cal_dates w, a_Dates_is w, eof, xcl_e]
    have oo : onD M L on := by
      rcases on2 with z | z
      · omega
      · exact z.1
    have ne : of ≠ on := fun z => of2 (by rw [z]; exact oo)
    refine ⟨of, rfl, by omega, of1, Or.inr ⟨by omega, fun a a0 a1 => ?_⟩⟩
    by_cases z : a ≤ on
    · exact ⟨on, z, by omega, by omega, oo⟩
    · exact ⟨a, Int.le_refl _, by omega, by omega, of3 a (by omega) a1⟩
theorem behindIdle_ok {x : Int} (h : FR M m fd) (hg : g < 16) (x0 : 131000 ≤ x) (n0 : 1 ≤ len) (xe : x + len ≤ hi) (e1 : hi ≤ 750000) (h9 : hi - x ≤ 9000) (hf : 10000 ≤ f) : ∃ r, f_Calendarhall_behindIdle O f 1 (g : Int) x len hi M = some (r, M) ∧ x ≤ r ∧ r ≤ hi ∧ ((r = x ∧ ∀ u, x ≤ u → u < x + len → ¬ idS M g u) ∨ (x < r ∧ ∀ a, x ≤ a → a < r → ∃ u, a ≤ u ∧ u < a + len ∧ u < hi ∧ idS M g u)) := by
  have w := h.1.1.1
  have key : ∀ (n t p : Nat), p + n = 8 → n < t → (∀ q, q < p → q < 4 → g / 2 ^ q % 2 = 1 → ∀ u, x ≤ u → u < x + len → wk M q u) → ∃ r, f_Calendarhall_behindIdle_3 O f t 1 (g : Int) x len hi (p : Int) M = some (r, M) ∧ x ≤ r ∧ r ≤ hi ∧ ((r = x ∧ ∀ u, x ≤ u → u < x + len → ¬ idS M g u) ∨ (x < r ∧ ∀ a, x ≤ a → a < r → ∃ u, a ≤ u ∧ u < a + len ∧ u < hi ∧ idS M g u)) := by
    intro n
    induction n with
    | zero =>
      intro t p h1 h2 h3
      obtain ⟨t, rfl⟩ : ∃ n', t = n' + 1 := ⟨t - 1, by omega⟩
      refine ⟨x, ?_, by omega, by omega, Or.inl ⟨rfl, fun u u0 u1 ⟨q, q1, q2, q3⟩ => q3 (h3 q (by omega) q1 q2 u u0 u1)⟩⟩
      show (if yw 8 ≤ yw (p : Int) then _ else _) = _
      rw [le_T (by omega) (by omega) (by omega)]
    | succ n ih =>
      intro t p h1 h2 h3
      obtain ⟨t, rfl⟩ : ∃ n', t = n' + 1 := ⟨t - 1, by omega⟩
      have nxt : (p < 4 → g / 2 ^ p % 2 = 1 → ∀ u, x ≤ u → u < x + len → wk M p u) → ∃ r, f_Calendarhall_behindIdle_3 O f t 1 (g : Int) x len hi ((p : Int) + 1) M = some (r, M) ∧ x ≤ r ∧ r ≤ hi ∧ ((r = x ∧ ∀ u, x ≤ u → u < x + len → ¬ idS M g u) ∨ (x < r ∧ ∀ a, x ≤ a → a < r → ∃ u, a ≤ u ∧ u < a + len ∧ u < hi ∧ idS M g u)) := fun hp => by
        have q := ih t (p + 1) (by omega) (by omega) (fun q q0 q1 q2 => by
          by_cases z : q = p
          · subst z
            exact hp q1 q2
          · exact h3 q (by omega) q1 q2)
        rw [show ((p + 1 : Nat) : Int) = (p : Int) + 1 by omega] at q
        exact q
      show ∃ r, (if yw 8 ≤ yw (p : Int) then _ else _) = _ ∧ _
      rw [le_F (by omega) (by omega) (by omega), bit_g (by omega) (by omega)]
      by_cases b : g / 2 ^ p % 2 = 0
      · rw [eq_T (by omega)]
        exact nxt (fun _ z => by omega)
      · have p4 : p < 4 := by
          by_cases z : p < 4
          · exact z
          · exact absurd (bit4 hg (by omega)) b
        have hv := h.2.2 p p4
        have hz := hv.1
        obtain ⟨il, eil, il0, il1, il2, il3⟩ := idleFrom_ok (O := O) (f := f) w (show p < 8 by omega) hv h.2.1 x0 (show x ≤ hi by omega) e1 h9 hf
        rw [eq_F (by omega) (by omega) (by omega) (by omega) (by omega), a_Cal_hall w, a_Hall_is w, e_anyPerson w (by omega) (by omega), xcl_e, show 21 + 1 * ((p : Int)).toNat = 21 + p by omega, a_Cal_hall w, a_Person_zone w (by omega), a_Hall_is w, e_anyZone w (by omega) (by omega), xcl_e, a_Person_is w (by omega), eil, xcl_e]
        by_cases c : x + len ≤ il
        · rw [le_T c (by omega) (by omega)]
          exact nxt (fun _ _ u u0 u1 => il2 u u0 (by omega))
        · obtain ⟨wf, ewf, wf0, wf1, wf2, wf3⟩ := workFrom_ok (O := O) (f := f) w (show p < 8 by omega) hv h.2.1 (x := il) (by omega) (show il ≤ hi by omega) e1 (by omega) hf
          have ni : ¬ wk M p il := il3 (by omega)
          have ne : wf ≠ il := fun z => ni (by rw [← z]; exact wf3 (by omega))
          rw [le_F (by omega) (by omega) (by omega), a_Person_is w (by omega), ewf, xcl_e]
          refine ⟨wf, rfl, by omega, by omega, Or.inr ⟨by omega, fun a a0 a1 => ?_⟩⟩
          by_cases z : a ≤ il
          · exact ⟨il, z, by omega, by omega, p, p4, by omega, ni⟩
          · exact ⟨a, Int.le_refl _, by omega, by omega, p, p4, by omega, wf2 a (by omega) a1⟩
  unfold f_Calendarhall_behindIdle
  exact key 8 f 0 (by omega) (by omega) (fun q hq => absurd hq (Nat.not_lt_zero _))
/-- what is told as the first free time -/
def freeR (bad : Int → Prop) (lo hi len r : Int) : Prop := (r = -1 ∧ ∀ a, lo ≤ a → a + len ≤ hi → ∃ u, a ≤ u ∧ u < a + len ∧ bad u) ∨ (lo ≤ r ∧ r + len ≤ hi ∧ (∀ u, r ≤ u → u < r + len → ¬ bad u) ∧ ∀ a, lo ≤ a → a < r → ∃ u, a ≤ u ∧ u < a + len ∧ bad u)
theorem fn_52 (h : FR M m fd) (hg : g < 16) (hiw : iw = 0 ∨ iw = 1) (d : DL M L) (hl : RLo M L) (l0 : 131000 ≤ lo) (l1 : lo < hi) (e1 : hi ≤ 750000) (h9 : hi - lo ≤ 9000) (n0 : 1 ≤ len) (n1 : len ≤ 600) (hf : 10000 ≤ f) {bad : Int → Prop} (hb : ∀ u, lo ≤ u → u < hi → (bad u ↔ onD M L u ∨ (iw = 1 ∧ idS M g u))) : ∀ (n t : Nat) (x T : Int), hi - x ≤ n → n < t → 0 ≤ T → T + n ≤ 20000 → lo ≤ x → x ≤ 1000000000 → (∀ a, lo ≤ a → a < x → a + len ≤ hi → ∃ u, a ≤ u ∧ u < a + len ∧ bad u) → ∃ r, f_Calendarhall_freeNext_52 O f t 1 (g : Int) hi len iw x T M = some (r, M) ∧ freeR bad lo hi len r := by
  have w := h.1.1.1
  intro n
  induction n with
  | zero =>
    intro t x T h1 h2 T0 T1 h3 h4 h5
    obtain ⟨t, rfl⟩ : ∃ n', t = n' + 1 := ⟨t - 1, by omega⟩
    refine ⟨-1, ?_, Or.inl ⟨rfl, fun a a0 a1 => h5 a a0 (by omega) a1⟩⟩
    show (if yw 20160 < yw T then _ else _) = _
    rw [lt_F (by omega) (by omega) (by omega), lt_T (by omega) (by omega) (by omega)]
  | succ n ih =>
    intro t x T h1 h2 T0 T1 h3 h4 h5
    obtain ⟨t, rfl⟩ : ∃ n', t = n' + 1 := ⟨t - 1, by omega⟩
    show ∃ r, (if yw 20160 < yw T then _ else _) = _ ∧ _
    rw [lt_F (by omega) (by omega) (by omega)]
    by_cases g1 : hi < x + len
    · rw [lt_T g1 (by omega) (by omega)]
      exact ⟨-1, rfl, Or.inl ⟨rfl, fun a a0 a1 => h5 a a0 (by omega) a1⟩⟩
    · rw [lt_F (by omega) (by omega) (by omega)]
      obtain ⟨bb, ebb, bb0, bb1, bb2⟩ := behindBusy_ok (O := O) (f := f) w d hl (x := x) (by omega) (by omega) n0 n1 (by omega)
      rw [a_Cal_is w, ebb, xcl_e]
      -- going on
      have go : ∀ y, x < y → y ≤ 1000000000 → (∀ a, x ≤ a → a < y → a + len ≤ hi → ∃ u, a ≤ u ∧ u < a + len ∧ bad u) → ∃ r, f_Calendarhall_freeNext_103 O f (f_Calendarhall_freeNext_52 O f t) 1 (g : Int) hi len iw x T y M = some (r, M) ∧ freeR bad lo hi len r := fun y y0 y1 hy => by
        unfold f_Calendarhall_freeNext_103
        rw [eq_F (by omega) (by omega) (by omega) (by omega) (by omega)]
        exact ih t y (T + 1) (by omega) (by omega) (by omega) (by omega) (by omega) y1 (fun a a0 a1 a2 => by
          by_cases z : a < x
          · exact h5 a a0 z a2
          · exact hy a (by omega) a1 a2)
      rcases bb2 with ⟨rfl, nb⟩ | ⟨bl, bo⟩
      · rw [eq_T rfl]
        have stop : (iw = 1 → ∀ u, bb ≤ u → u < bb + len → ¬ idS M g u) → ∃ r, f_Calendarhall_freeNext_103 O f (f_Calendarhall_freeNext_52 O f t) 1 (g : Int) hi len iw bb T bb M = some (r, M) ∧ freeR bad lo hi len r := fun ni => by
          unfold f_Calendarhall_freeNext_103
          rw [eq_T rfl]
          refine ⟨bb, rfl, Or.inr ⟨h3, by omega, fun u u0 u1 hu => ?_, fun a a0 a1 => h5 a a0 a1 (by omega)⟩⟩
          rcases (hb u (by omega) (by omega)).mp hu with z | z
          · exact nb u u0 u1 z
          · exact ni z.1 u u0 u1 z.2
        rcases hiw with rfl | rfl
        · rw [eq_T rfl]
          exact stop (fun z => by omega)
        · obtain ⟨bi, ebi, bi0, bi1, bi2⟩ := behindIdle_ok (O := O) (f := f) h hg (x := bb) (len := len) (hi := hi) (by omega) n0 (by omega) e1 (by omega) hf
          rw [eq_F (by omega) (by omega) (by omega) (by omega) (by omega), a_Cal_is w, ebi, xcl_e]
          rcases bi2 with ⟨rfl, ni⟩ | ⟨il, io⟩
          · exact stop (fun _ => ni)
          · refine go bi il (by omega) (fun a a0 a1 a2 => ?_)
            obtain ⟨u, u0, u1, u2, u3⟩ := io a a0 a1
            exact ⟨u, u0, u1, (hb u (by omega) (by omega)).mpr (Or.inr ⟨rfl, u3⟩)⟩
      · rw [eq_F (by omega) (by omega) (by omega) (by omega) (by omega)]
        refine go bb bl bb1 (fun a a0 a1 a2 => ?_)
        obtain ⟨u, u0, u1, u2, u3⟩ := bo a a0 a1
        exact ⟨u, u0, u1, (hb u (by omega) (by omega)).mpr (Or.inl u3)⟩
theorem freeNext_ok (h : FR M m fd) (hm : m ≤ 12) (hg : g < 16) (g0 : 1 ≤ g) (hiw : iw = 0 ∨ iw = 1) (l0 : 131000 ≤ lo) (l1 : lo < hi) (e1 : hi ≤ 750000) (h9 : hi - lo ≤ 9000) (n0 : 1 ≤ len) (n1 : len ≤ 600) (hf : 10000 ≤ f) : ∃ r M', f_Calendarhall_freeNext O f 1 (g : Int) lo hi len iw M = some (r, M') ∧ Un P3 M M' ∧ freeR (badM M m g iw) lo hi len r := by
  have w := h.1.1.1
  obtain ⟨y, ey, hy⟩ := seriesOf2_ok (O := O) (f := f) h.1 hm (show g < 256 by omega) (by omega)
  obtain ⟨M', L, e, u, d, hl, hb⟩ := colOn_ok (O := O) (f := f) (S := tpS M g) h.1 hm hy (by omega) l1 (by omega) (by omega) (by omega)
  have b' : Bs M' := h.1.1.un u (by unfold P3; omega) (fun j hj => by unfold P3; omega)
  have h' : FR M' m fd := h.un hm u b' (fun a a0 a1 => by unfold P3; omega)
  have iv : ∀ b j, b < 116 → iV M' b j = iV M b j := fun b j hb => u.i (by unfold P3; omega)
  have ids : ∀ v, idS M' g v ↔ idS M g v := fun v => by
    unfold idS
    constructor
    · rintro ⟨p, p1, p2, p3⟩
      exact ⟨p, p1, p2, fun z => p3 ((wk_of (h.2.2 p p1).1.2 (by omega) (fun b j _ h2 => iv b j (by omega))).mpr z)⟩
    · rintro ⟨p, p1, p2, p3⟩
      exact ⟨p, p1, p2, fun z => p3 ((wk_of (h.2.2 p p1).1.2 (by omega) (fun b j _ h2 => iv b j (by omega))).mp z)⟩
  obtain ⟨r, er, hr⟩ := fn_52 (O := O) (f := f) (bad := badM M m g iw) h' hg hiw d hl l0 l1 e1 h9 n0 n1 hf (fun v v0 v1 => by
    unfold badM
    rw [hb v v0 v1, ids v]) (hi - lo).toNat f lo 0 (by omega) (by omega) (by omega) (by omega) (by omega) (by omega) (fun a a0 a1 => by omega)
  refine ⟨r, M', ?_, u, hr⟩
  unfold f_Calendarhall_freeNext
  rw [c_needRange (by omega) (by omega) (by omega) (by omega), xc_of (e_needPiece (by omega) (by omega) l1 (by omega) (by omega)), c_needRange n0 n1 (by omega) (by omega), a_Cal_hall w, a_Cal_dates w, a_Cal_hall w, a_Hall_is w, ey, xcl_e, a_Hall_is w, e, xcl_e]
  exact er
end FNX
end
/-! draft 628.addcosts -/
section
/-! ===== the best time: costs ===== -/
/-- what a time costs for somebody -/
def cBz (M : xM) (m p : Nat) (a len : Int) : Prop := ∃ u, a ≤ u ∧ u < a + len ∧ bsy M m (fun k => tp M k p) u
def cId (M : xM) (p : Nat) (a len : Int) : Prop := ∃ u, a ≤ u ∧ u < a + len ∧ ¬ wk M p u
noncomputable def cst (M : xM) (m p : Nat) (a len : Int) : Int := @ite Int (cBz M m p a len) (Classical.propDecidable _) 3 (@ite Int (cId M p a len) (Classical.propDecidable _) 1 0)
def P9 (a : Nat) : Prop := a ≠ 116 ∧ a ≠ 117 ∧ a ≠ 118 ∧ a ≠ 139
section ADC
variable {O : Nat → Option va_E} {f m p : Nat} {M N : xM} {fd lo hi len : Int} {L : List Int}
theorem cst_3 {a : Int} (h : cBz M m p a len) : cst M m p a len = 3 := by
  unfold cst
  rw [if_pos h]
theorem cst_1 {a : Int} (h : ¬ cBz M m p a len) (h2 : cId M p a len) : cst M m p a len = 1 := by
  unfold cst
  rw [if_neg h, if_pos h2]
theorem cst_0 {a : Int} (h : ¬ cBz M m p a len) (h2 : ¬ cId M p a len) : cst M m p a len = 0 := by
  unfold cst
  rw [if_neg h, if_neg h2]
theorem cst_r {a : Int} : 0 ≤ cst M m p a len ∧ cst M m p a len ≤ 3 := by
  unfold cst
  split
  · omega
  · split <;> omega
/-- the dates' state as the times go on -/
def JB (M : xM) (L : List Int) (x bu fr : Int) : Prop := (∀ u, x ≤ u → u < bu → ¬ onD M L u) ∧ (∀ u, bu ≤ u → u < fr → onD M L u) ∧ x < fr ∧ (bu < fr ∨ bu = 1000000000)
def JW (M : xM) (p : Nat) (hi x id wo : Int) : Prop := (∀ u, x ≤ u → u < id → wk M p u) ∧ (∀ u, id ≤ u → u < wo → ¬ wk M p u) ∧ x < wo ∧ (id < wo ∨ id = hi)
theorem JB.iff {x bu fr : Int} (h : JB M L x bu fr) (n0 : 1 ≤ len) (x1 : x + len ≤ 1000000000) : bu < x + len ↔ ∃ u, x ≤ u ∧ u < x + len ∧ onD M L u := by
  obtain ⟨h1, h2, h3, h4⟩ := h
  constructor
  · intro g
    by_cases z : x ≤ bu
    · exact ⟨bu, z, g, h2 bu (by omega) (by omega)⟩
    · exact ⟨x, by omega, by omega, h2 x (by omega) h3⟩
  · rintro ⟨u, u0, u1, u2⟩
    by_cases z : u < bu
    · exact (h1 u u0 z u2).elim
    · omega
theorem JW.iff {x id wo : Int} (h : JW M p hi x id wo) (n0 : 1 ≤ len) (x1 : x + len ≤ hi) : id < x + len ↔ ∃ u, x ≤ u ∧ u < x + len ∧ ¬ wk M p u := by
  obtain ⟨h1, h2, h3, h4⟩ := h
  constructor
  · intro g
    by_cases z : x ≤ id
    · exact ⟨id, z, g, h2 id (by omega) (by omega)⟩
    · exact ⟨x, by omega, by omega, h2 x (by omega) h3⟩
  · rintro ⟨u, u0, u1, u2⟩
    by_cases z : u < id
    · exact (u2 (h1 u u0 z)).elim
    · omega
theorem ac_28 {tr : Nat} (h : FR M m fd) (hm : m ≤ 12) (hp : p < 4) (d : DL M L) (hl : RLo M L) (l0 : 131000 ≤ lo) (e1 : hi ≤ 750000) (h9 : hi - lo ≤ 9000) (n0 : 1 ≤ len) (n1 : len ≤ 600) (ht : tr ≤ 672) (hend : ∀ k : Nat, k < tr → lo + 15 * k + len ≤ hi) (hf : 10000 ≤ f) {C : Nat → Int} (hC : ∀ k, k < tr → 0 ≤ iV M 139 k ∧ iV M 139 k ≤ 1000) (hcs : ∀ k : Nat, k < tr → (C k = 3 ∧ (∃ u, lo + 15 * k ≤ u ∧ u < lo + 15 * k + len ∧ onD M L u)) ∨ (C k = 1 ∧ (¬ ∃ u, lo + 15 * k ≤ u ∧ u < lo + 15 * k + len ∧ onD M L u) ∧ ∃ u, lo + 15 * k ≤ u ∧ u < lo + 15 * k + len ∧ ¬ wk M p u) ∨ (C k = 0 ∧ (¬ ∃ u, lo + 15 * k ≤ u ∧ u < lo + 15 * k + len ∧ onD M L u) ∧ ¬ ∃ u, lo + 15 * k ≤ u ∧ u < lo + 15 * k + len ∧ ¬ wk M p u)) : ∀ (n t k : Nat) (bu fr id wo : Int) (N : xM), k + n = tr → n < t → Un (fun a => a ≠ 139) M N → (fr ≤ lo + 15 * k ∨ JB M L (lo + 15 * k) bu fr) → (wo ≤ lo + 15 * k ∨ JW M p hi (lo + 15 * k) id wo) → (0 ≤ bu ∧ bu ≤ 1000000000 ∧ 0 ≤ fr ∧ fr ≤ 1000000000 ∧ 0 ≤ id ∧ id ≤ 1000000 ∧ 0 ≤ wo ∧ wo ≤ 1000000) → (∀ i, i < k → iV N 139 i = iV M 139 i + C i) → (∀ i, k ≤ i → iV N 139 i = iV M 139 i) → ∃ N', f_Calendarhall_addCosts_28 O f t 1 (21 + p) lo hi len (tr : Int) (12 + 3 * (iV M (21 + p) 0).toNat) bu fr id wo (k : Int) N = some ((), N') ∧ Un (fun a => a ≠ 139) M N' ∧ (∀ i, i < tr → iV N' 139 i = iV M 139 i + C i) ∧ ∀ i, tr ≤ i → iV N' 139 i = iV M 139 i := by
  have hz := (h.2.2 p hp).1
  intro n
  induction n with
  | zero =>
    intro t k bu fr id wo N hk ht' u jb jw rg q1 q2
    obtain ⟨t, rfl⟩ : ∃ n', t = n' + 1 := ⟨t - 1, by omega⟩
    obtain rfl : k = tr := by omega
    refine ⟨N, ?_, u, q1, q2⟩
    show (if yw (k : Int) ≤ yw (k : Int) then _ else _) = _
    rw [le_T (by omega) (by omega) (by omega)]
  | succ n ih =>
    intro t k bu fr id wo N hk ht' u jb jw rg q1 q2
    obtain ⟨t, rfl⟩ : ∃ n', t = n' + 1 := ⟨t - 1, by omega⟩
    have kz : ((k : Int)).toNat = k := by omega
    have he := hend k (by omega)
    have hCk := hC k (by omega)
    have nk := q2 k (Nat.le_refl _)
    obtain ⟨x, ex⟩ : ∃ x, x = lo + 15 * (k : Int) := ⟨_, rfl⟩
    have cs := hcs k (by omega)
    rw [← ex] at jb jw he cs
    have bN : Bs N := h.1.1.un u (by (try dsimp only); omega) (fun j hj => by (try dsimp only); omega)
    have w := bN.1
    have wM := h.1.1.1
    have iv : ∀ b j, b ≠ 139 → iV N b j = iV M b j := fun b j hb => u.i hb
    have dN : DL N L := d.un u (by (try dsimp only); omega)
    have onE : ∀ v, onD N L v ↔ onD M L v := fun v => by
      unfold onD En
      simp (disch := omega) only [iv]
    have lN : RLo N L := fun y hy => by
      have := hl y hy
      unfold En at this ⊢
      rw [iv 118 _ (by omega)]
      exact this
    have hFN : FR N m fd := by
      refine ⟨?_, fun z hz => (h.2.1 z hz).of (fun a j h1 h2 => iv a j (by omega)), fun q hq => ?_⟩
      · exact ⟨bN, fun z hz => (h.1.2.1 z hz).of (fun a j h1 h2 => iv a j (by omega)), fun k hk => (h.1.2.2.1 k hk).of (fun a j h1 h2 => iv a j (by omega)), fun k h1 h2 => by rw [iv (29 + 6 * k) 0 (by omega)]; exact h.1.2.2.2 k h1 h2⟩
      · have v := h.2.2 q hq
        have e : ∀ j, iV N (21 + q) j = iV M (21 + q) j := fun j => iv _ _ (by omega)
        unfold PV at v ⊢
        simp only [e]
        exact v
    have wkE : ∀ v, wk N p v ↔ wk M p v := fun v => wk_of hz.2 (by omega) (fun b j _ h2 => iv b j (by omega))
    have zE : (iV N (21 + p) 0).toNat = (iV M (21 + p) 0).toNat := by rw [iv _ _ (by omega)]
    -- the next time
    have nxt : ∀ (bu fr id wo c : Int), JB M L x bu fr → JW M p hi x id wo → (0 ≤ bu ∧ bu ≤ 1000000000 ∧ 0 ≤ fr ∧ fr ≤ 1000000000 ∧ 0 ≤ id ∧ id ≤ 1000000 ∧ 0 ≤ wo ∧ wo ≤ 1000000) → ∃ N', f_Calendarhall_addCosts_112 O f (f_Calendarhall_addCosts_28 O f t) 1 (21 + p) lo hi len (tr : Int) (12 + 3 * (iV M (21 + p) 0).toNat) bu fr id wo (k : Int) x N = some ((), N') ∧ Un (fun a => a ≠ 139) M N' ∧ (∀ i, i < tr → iV N' 139 i = iV M 139 i + C i) ∧ ∀ i, tr ≤ i → iV N' 139 i = iV M 139 i := by
      intro bu fr id wo c jB jW rg
      have i1 := jB.iff (len := len) n0 (by omega)
      have i2 := jW.iff (len := len) n0 he
      have sh : ∀ (N2 : xM), Un (fun a => a ≠ 139) M N2 → iV N2 139 k = iV M 139 k + C k → (∀ i, i ≠ k → iV N2 139 i = iV N 139 i) → ∃ N', f_Calendarhall_addCosts_28 O f t 1 (21 + p) lo hi len (tr : Int) (12 + 3 * (iV M (21 + p) 0).toNat) bu fr id wo ((k : Int) + 1) N2 = some ((), N') ∧ Un (fun a => a ≠ 139) M N' ∧ (∀ i, i < tr → iV N' 139 i = iV M 139 i + C i) ∧ ∀ i, tr ≤ i → iV N' 139 i = iV M 139 i := fun N2 u2 v1 v2 => by
        have q := ih t (k + 1) bu fr id wo N2 (by omega) (by omega) u2 (by
          by_cases z : fr ≤ lo + 15 * ((k + 1 : Nat) : Int)
          · exact Or.inl z
          · exact Or.inr ⟨fun v v0 v1 => jB.1 v (by omega) v1, jB.2.1, by omega, jB.2.2.2⟩) (by
          by_cases z : wo ≤ lo + 15 * ((k + 1 : Nat) : Int)
          · exact Or.inl z
          · exact Or.inr ⟨fun v v0 v1 => jW.1 v (by omega) v1, jW.2.1, by omega, jW.2.2.2⟩) rg (fun i hi' => by
          by_cases z : i = k
          · rw [z]
            exact v1
          · rw [v2 i z]
            exact q1 i (by omega)) (fun i hi' => by
          rw [v2 i (by omega)]
          exact q2 i (by omega))
        rw [show ((k + 1 : Nat) : Int) = (k : Int) + 1 by omega] at q
        exact q
      unfold f_Calendarhall_addCosts_112
      by_cases g1 : x + len ≤ bu
      · have nb : ¬ ∃ u, x ≤ u ∧ u < x + len ∧ onD M L u := fun z => by have := i1.mpr z; omega
        rw [le_T g1 (by omega) (by omega)]
        by_cases g2 : x + len ≤ id
        · have ni : ¬ ∃ u, x ≤ u ∧ u < x + len ∧ ¬ wk M p u := fun z => by have := i2.mpr z; omega
          rw [le_T g2 (by omega) (by omega)]
          refine sh N u ?_ (fun i _ => rfl)
          rcases cs with z | z | z
          · exact (nb z.2).elim
          · exact (ni z.2.2).elim
          · omega
        · have yi : ∃ u, x ≤ u ∧ u < x + len ∧ ¬ wk M p u := i2.mp (by omega)
          have c1 : C k = 1 := by
            rcases cs with z | z | z
            · exact (nb z.2).elim
            · exact z.1
            · exact (z.2.2 yi).elim
          rw [le_F (by omega) (by omega) (by omega), a_Cal_costs w, r_Cal_costs w (by omega) (by omega), kz, w_Cal_costs w (by omega) (by omega), kz]
          exact sh _ (u.iS (fun z => z rfl)) (by rw [iV_s (by omega) (by omega)]; omega) (fun i z => iV_o (Or.inr z))
      · have yb : ∃ u, x ≤ u ∧ u < x + len ∧ onD M L u := i1.mp (by omega)
        have c3 : C k = 3 := by
          rcases cs with z | z | z
          · exact z.1
          · exact (z.2.1 yb).elim
          · exact (z.2.1 yb).elim
        rw [le_F (by omega) (by omega) (by omega), a_Cal_costs w, r_Cal_costs w (by omega) (by omega), kz, w_Cal_costs w (by omega) (by omega), kz]
        exact sh _ (u.iS (fun z => z rfl)) (by rw [iV_s (by omega) (by omega)]; omega) (fun i z => iV_o (Or.inr z))
    have wkp : ∀ (bu fr : Int), JB M L x bu fr → (0 ≤ bu ∧ bu ≤ 1000000000 ∧ 0 ≤ fr ∧ fr ≤ 1000000000) → ∃ N', f_Calendarhall_addCosts_83 O f (f_Calendarhall_addCosts_28 O f t) 1 (21 + p) lo hi len (tr : Int) (12 + 3 * (iV M (21 + p) 0).toNat) bu fr id wo (k : Int) x N = some ((), N') ∧ Un (fun a => a ≠ 139) M N' ∧ (∀ i, i < tr → iV N' 139 i = iV M 139 i + C i) ∧ ∀ i, tr ≤ i → iV N' 139 i = iV M 139 i := by
      intro bu fr jB rb
      unfold f_Calendarhall_addCosts_83
      by_cases g : x < wo
      · rw [lt_T g (by omega) (by omega)]
        exact nxt bu fr id wo 0 jB (jw.resolve_left (by omega)) (by omega)
      · obtain ⟨il, eil, il0, il1, il2, il3⟩ := idleFrom_ok (O := O) (f := f) w (show p < 8 by omega) (hFN.2.2 p hp) hFN.2.1 (x := x) (e := hi) (by omega) (by omega) e1 (by omega) hf
        obtain ⟨wf, ewf, wf0, wf1, wf2, wf3⟩ := workFrom_ok (O := O) (f := f) w (show p < 8 by omega) (hFN.2.2 p hp) hFN.2.1 (x := il) (e := hi) (by omega) (by omega) e1 (by omega) hf
        rw [zE] at eil ewf
        rw [lt_F (by omega) (by omega) (by omega), a_Person_is w (by omega), eil, xcl_e, a_Person_is w (by omega), ewf, xcl_e]
        refine nxt bu fr il wf 0 jB ⟨fun v v0 v1 => (wkE v).mp (il2 v v0 v1), fun v v0 v1 hw => wf2 v v0 v1 ((wkE v).mpr hw), ?_, ?_⟩ (by omega)
        · by_cases z : il = wf
          · have : ¬ il < hi := fun q => il3 q (by rw [z]; exact wf3 (by omega))
            omega
          · omega
        · by_cases z : il = wf
          · have : ¬ il < hi := fun q => il3 q (by rw [z]; exact wf3 (by omega))
            omega
          · omega
    show ∃ N', (if yw (tr : Int) ≤ yw (k : Int) then _ else _) = _ ∧ _
    rw [le_F (by omega) (by omega) (by omega), a_Cal_costs w, n_Cal_costs w, le_F (by omega) (by omega) (by omega), ← ex]
    by_cases g : x < fr
    · rw [lt_T g (by omega) (by omega)]
      exact wkp bu fr (jb.resolve_left (by omega)) (by omega)
    · obtain ⟨on, eon, on0, on1, on2⟩ := onFrom_ok (O := O) (f := f) dN w lN (x := x) (by omega) (by omega) (by omega)
      obtain ⟨of, eof, of0, of1, of2, of3⟩ := offFrom_ok (O := O) (f := f) dN w lN (x := on) (by omega) on1 (by omega)
      rw [lt_F (by omega) (by omega) (by omega), a_Cal_dates w, a_Dates_is w, eon, xcl_e, a_Cal_dates w, a_Dates_is w, eof, xcl_e]
      refine wkp on of ⟨fun v v0 v1 hv => ?_, fun v v0 v1 => (onE v).mp (of3 v v0 v1), ?_, ?_⟩ (by omega)
      · rcases on2 with z | z
        · exact z.2 v v0 ((onE v).mpr hv)
        · exact z.2 v v0 v1 ((onE v).mpr hv)
      · rcases on2 with z | z
        · omega
        · have : of ≠ on := fun q => of2 (by rw [q]; exact z.1)
          omega
      · rcases on2 with z | z
        · exact Or.inr z.1
        · have : of ≠ on := fun q => of2 (by rw [q]; exact z.1)
          exact Or.inl (by omega)
end ADC
end
/-! draft 629.best -/
section
/-! ===== the best time ===== -/
/-- what a time costs for all of a set of people -/
def csm (c : Nat → Int) (g : Nat) : Nat → Int
  | 0 => 0
  | p + 1 => csm c g p + (if g / 2 ^ p % 2 = 1 then c p else 0)
def fmin (C : Nat → Int) (n b : Nat) : Prop := b < n ∧ (∀ i, i < n → C b ≤ C i) ∧ ∀ i, i < b → C b < C i
theorem csm_r {c : Nat → Int} {g : Nat} (h : ∀ p, 0 ≤ c p ∧ c p ≤ 3) : ∀ p, 0 ≤ csm c g p ∧ csm c g p ≤ 3 * p
  | 0 => ⟨Int.le_refl _, Int.le_refl _⟩
  | p + 1 => by
    have q := csm_r (g := g) h p
    have z := h p
    show 0 ≤ csm c g p + (if g / 2 ^ p % 2 = 1 then c p else 0) ∧ csm c g p + (if g / 2 ^ p % 2 = 1 then c p else 0) ≤ _
    split <;> omega
theorem csm_4 {c : Nat → Int} {g : Nat} (hg : g < 16) : ∀ n, csm c g (4 + n) = csm c g 4
  | 0 => rfl
  | n + 1 => by
    show csm c g (4 + n) + (if g / 2 ^ (4 + n) % 2 = 1 then c (4 + n) else 0) = _
    rw [bit4 hg (by omega), if_neg (by omega), csm_4 hg n]
    omega
section BST
variable {O : Nat → Option va_E} {f m p g : Nat} {M N : xM} {fd lo hi len : Int}
theorem addCosts_ok {tr : Nat} {L : List Int} {C : Nat → Int} (h : FR M m fd) (hm : m ≤ 12) (hp : p < 4) (d : DL M L) (hl : RLo M L) (l0 : 131000 ≤ lo) (e1 : hi ≤ 750000) (h9 : hi - lo ≤ 9000) (n0 : 1 ≤ len) (n1 : len ≤ 600) (ht : tr ≤ 672) (hend : ∀ k : Nat, k < tr → lo + 15 * k + len ≤ hi) (hf : 10000 ≤ f) (hC : ∀ k, k < tr → 0 ≤ iV M 139 k ∧ iV M 139 k ≤ 1000) (hcs : ∀ k : Nat, k < tr → (C k = 3 ∧ (∃ u, lo + 15 * k ≤ u ∧ u < lo + 15 * k + len ∧ onD M L u)) ∨ (C k = 1 ∧ (¬ ∃ u, lo + 15 * k ≤ u ∧ u < lo + 15 * k + len ∧ onD M L u) ∧ ∃ u, lo + 15 * k ≤ u ∧ u < lo + 15 * k + len ∧ ¬ wk M p u) ∨ (C k = 0 ∧ (¬ ∃ u, lo + 15 * k ≤ u ∧ u < lo + 15 * k + len ∧ onD M L u) ∧ ¬ ∃ u, lo + 15 * k ≤ u ∧ u < lo + 15 * k + len ∧ ¬ wk M p u)) : ∃ N', f_Calendarhall_addCosts O f 1 (21 + p) lo hi len (tr : Int) M = some ((), N') ∧ Un (fun a => a ≠ 139) M N' ∧ (∀ i, i < tr → iV N' 139 i = iV M 139 i + C i) ∧ ∀ i, tr ≤ i → iV N' 139 i = iV M 139 i := by
  have w := h.1.1.1
  have hz := (h.2.2 p hp).1
  have lb : lo ≤ 750000 ∨ tr = 0 := by
    by_cases z : tr = 0
    · exact Or.inr z
    · have := hend 0 (by omega)
      exact Or.inl (by omega)
  rcases lb with lb | lb
  · obtain ⟨N', e', z⟩ := ac_28 (O := O) (f := f) (C := C) h hm hp d hl l0 e1 h9 n0 n1 ht hend hf hC hcs tr f 0 lo lo lo lo M (by omega) (by omega) Un.rf (Or.inl (by omega)) (Or.inl (by omega)) (by omega) (fun i hi' => absurd hi' (Nat.not_lt_zero _)) (fun i _ => rfl)
    refine ⟨N', ?_, z⟩
    unfold f_Calendarhall_addCosts
    rw [a_Cal_hall w, a_Person_zone w (by omega), a_Hall_is w, e_anyZone w (by omega) (by omega), xcl_e]
    exact e'
  · subst lb
    obtain ⟨t, rfl⟩ : ∃ n', f = n' + 1 := ⟨f - 1, by omega⟩
    refine ⟨M, ?_, Un.rf, fun i hi' => absurd hi' (Nat.not_lt_zero _), fun i _ => rfl⟩
    unfold f_Calendarhall_addCosts
    rw [a_Cal_hall w, a_Person_zone w (by omega), a_Hall_is w, e_anyZone w (by omega) (by omega), xcl_e]
    show (if yw ((0 : Nat) : Int) ≤ yw 0 then _ else _) = _
    rw [le_T (by omega) (by omega) (by omega)]
theorem FR.p9 (h : FR M m fd) (hm : m ≤ 12) (u : Un P9 M N) : FR N m fd := h.un hm u (h.1.1.un u (by unfold P9; omega) (fun j hj => by unfold P9; omega)) (fun a a0 a1 => by unfold P9; omega)
theorem best_83 {tr : Nat} {ic : Int} (h : FR M m fd) (hm : m ≤ 12) (hg : g < 16) (l0 : 131000 ≤ lo) (l1 : lo < hi) (e1 : hi ≤ 750000) (h9 : hi - lo ≤ 9000) (n0 : 1 ≤ len) (n1 : len ≤ 600) (ht : tr ≤ 672) (hend : ∀ k : Nat, k < tr → lo + 15 * k + len ≤ hi) (hf : 10000 ≤ f) : ∀ (n t p : Nat) (N : xM), p + n = 8 → n < t → Un P9 M N → (∀ k : Nat, k < tr → iV N 139 k = csm (fun q => cst M m q (lo + 15 * k) len) g p) → ∃ N', f_Calendarhall_best_83 O f t 1 (g : Int) lo hi len ic (tr : Int) (p : Int) N = f_Calendarhall_best_157 O f f 1 lo ic (tr : Int) 0 1 N' ∧ Un P9 M N' ∧ ∀ k : Nat, k < tr → iV N' 139 k = csm (fun q => cst M m q (lo + 15 * k) len) g 4 := by
  intro n
  induction n with
  | zero =>
    intro t p N h1 h2 u hc
    obtain ⟨t, rfl⟩ : ∃ n', t = n' + 1 := ⟨t - 1, by omega⟩
    obtain rfl : p = 8 := by omega
    refine ⟨N, ?_, u, fun k hk => by rw [hc k hk]; exact csm_4 hg 4⟩
    show (if yw 8 ≤ yw ((8 : Nat) : Int) then _ else _) = _
    rw [le_T (by omega) (by omega) (by omega)]
  | succ n ih =>
    intro t p N h1 h2 u hc
    obtain ⟨t, rfl⟩ : ∃ n', t = n' + 1 := ⟨t - 1, by omega⟩
    show ∃ N', (if yw 8 ≤ yw (p : Int) then _ else _) = _ ∧ _
    have hN := h.p9 hm u
    have w := hN.1.1.1
    rw [le_F (by omega) (by omega) (by omega), bit_g (by omega) (by omega)]
    by_cases b : g / 2 ^ p % 2 = 0
    · have q := ih t (p + 1) N (by omega) (by omega) u (fun k hk => by
        rw [hc k hk]
        show _ = csm _ g p + (if g / 2 ^ p % 2 = 1 then _ else 0)
        rw [if_neg (by omega)]
        omega)
      rw [show ((p + 1 : Nat) : Int) = (p : Int) + 1 by omega] at q
      rw [eq_T (by omega)]
      exact q
    · have p4 : p < 4 := by
        by_cases z : p < 4
        · exact z
        · exact absurd (bit4 hg (by omega)) b
      obtain ⟨y, M1, L, ey, e, u1, d, hl, hF1, hwk, hb⟩ := coll_p (O := O) (f := f) hN hm p4 l0 l1 e1 h9 (by omega)
      have w1 := hF1.1.1.1
      have ivN : ∀ b j, b < 116 → iV N b j = iV M b j := fun b j hb => u.i (by unfold P9; omega)
      have tpE : ∀ k, k < m → (tp N k p ↔ tp M k p) := fun k hk => by
        unfold tp
        rw [ivN _ _ (by omega), ivN _ _ (by omega)]
      have onE : ∀ v, lo ≤ v → v < hi → (onD M1 L v ↔ bsy M m (fun k => tp M k p) v) := fun v v0 v1 => (hb v v0 v1).trans ((bsy_S tpE).trans (bsy_of h.1 hm (fun b j _ h2 => ivN b j h2)))
      have wkE : ∀ v, wk M1 p v ↔ wk M p v := fun v => (hwk v).trans (wk_of (h.2.2 p p4).1.2 (by omega) (fun b j _ h2 => ivN b j (by omega)))
      have i139 : ∀ k, iV M1 139 k = iV N 139 k := fun k => u1.i (by unfold P3; omega)
      obtain ⟨N2, e2, u2, c2, o2⟩ := addCosts_ok (O := O) (f := f) (C := fun k => cst M m p (lo + 15 * (k : Int)) len) hF1 hm p4 d hl l0 e1 h9 n0 n1 ht hend hf (fun k hk => by
        rw [i139, hc k hk]
        have := csm_r (c := fun q => cst M m q (lo + 15 * (k : Int)) len) (g := g) (fun q => cst_r) p
        omega) (fun k hk => by
        have he := hend k hk
        have ob : (∃ u, lo + 15 * (k : Int) ≤ u ∧ u < lo + 15 * (k : Int) + len ∧ onD M1 L u) ↔ cBz M m p (lo + 15 * (k : Int)) len := ⟨fun ⟨v, v0, v1, v2⟩ => ⟨v, v0, v1, (onE v (by omega) (by omega)).mp v2⟩, fun ⟨v, v0, v1, v2⟩ => ⟨v, v0, v1, (onE v (by omega) (by omega)).mpr v2⟩⟩
        have oi : (∃ u, lo + 15 * (k : Int) ≤ u ∧ u < lo + 15 * (k : Int) + len ∧ ¬ wk M1 p u) ↔ cId M p (lo + 15 * (k : Int)) len := ⟨fun ⟨v, v0, v1, v2⟩ => ⟨v, v0, v1, fun z => v2 ((wkE v).mpr z)⟩, fun ⟨v, v0, v1, v2⟩ => ⟨v, v0, v1, fun z => v2 ((wkE v).mp z)⟩⟩
        rw [ob, oi]
        rcases Classical.em (cBz M m p (lo + 15 * (k : Int)) len) with z | z
        · exact Or.inl ⟨cst_3 z, z⟩
        · rcases Classical.em (cId M p (lo + 15 * (k : Int)) len) with z2 | z2
          · exact Or.inr (Or.inl ⟨cst_1 z z2, z, z2⟩)
          · exact Or.inr (Or.inr ⟨cst_0 z z2, z, z2⟩))
      have u' : Un P9 M N2 := u.tr ((u1.le (fun a q => by unfold P9 at q; unfold P3; omega)).tr (u2.le (fun a q => by unfold P9 at q; omega)))
      have q := ih t (p + 1) N2 (by omega) (by omega) u' (fun k hk => by
        rw [c2 k hk, i139, hc k hk]
        show _ = csm _ g p + (if g / 2 ^ p % 2 = 1 then _ else 0)
        rw [if_pos (by omega)])
      rw [show ((p + 1 : Nat) : Int) = (p : Int) + 1 by omega] at q
      rw [eq_F (by omega) (by omega) (by omega) (by omega) (by omega), a_Cal_hall w, a_Cal_dates w, a_Cal_hall w, a_Hall_is w, two_p (by omega), ey, xcl_e, a_Hall_is w, e, xcl_e, a_Cal_hall w1, a_Hall_is w1, e_anyPerson w1 (by omega) (by omega), xcl_e, show 21 + 1 * ((p : Int)).toNat = 21 + p by omega, a_Cal_is w1, e2, xcl_e]
      exact q
theorem best_157 {tr : Nat} {ic : Int} (w : Wd N) (ht : tr ≤ 672) (t1 : 1 ≤ tr) (hic : ic = 0 ∨ ic = 1) : ∀ (n t k b : Nat), k + n = tr → n < t → fmin (iV N 139) k b → ∃ b' : Nat, f_Calendarhall_best_157 O f t 1 lo ic (tr : Int) (b : Int) (k : Int) N = some ((if ic = 0 then lo + 15 * (b' : Int) else iV N 139 b'), N) ∧ fmin (iV N 139) tr b' := by
  intro n
  induction n with
  | zero =>
    intro t k b h1 h2 h3
    obtain ⟨t, rfl⟩ : ∃ n', t = n' + 1 := ⟨t - 1, by omega⟩
    obtain rfl : k = tr := by omega
    refine ⟨b, ?_, h3⟩
    have hb := h3.1
    show (if yw (k : Int) ≤ yw (k : Int) then _ else _) = _
    rw [le_T (by omega) (by omega) (by omega)]
    rcases hic with rfl | rfl
    · rw [eq_T rfl, if_pos rfl]
    · rw [eq_F (by omega) (by omega) (by omega) (by omega) (by omega), if_neg (by omega), a_Cal_costs w, r_Cal_costs w (by omega) (by omega), show ((b : Int)).toNat = b by omega]
  | succ n ih =>
    intro t k b h1 h2 h3
    obtain ⟨t, rfl⟩ : ∃ n', t = n' + 1 := ⟨t - 1, by omega⟩
    obtain ⟨f1, f2, f3⟩ := h3
    have rb := iV_r N 139 b
    have rk := iV_r N 139 k
    show ∃ b' : Nat, (if yw (tr : Int) ≤ yw (k : Int) then _ else _) = _ ∧ _
    rw [le_F (by omega) (by omega) (by omega), a_Cal_costs w, r_Cal_costs w (by omega) (by omega), a_Cal_costs w, r_Cal_costs w (by omega) (by omega), show ((b : Int)).toNat = b by omega, show ((k : Int)).toNat = k by omega]
    by_cases c : iV N 139 b ≤ iV N 139 k
    · rw [le_T c (by omega) (by omega)]
      have q := ih t (k + 1) b (by omega) (by omega) ⟨by omega, fun i hi' => by
        by_cases z : i = k
        · rw [z]
          exact c
        · exact f2 i (by omega), f3⟩
      rw [show ((k + 1 : Nat) : Int) = (k : Int) + 1 by omega] at q
      exact q
    · rw [le_F (by omega) (by omega) (by omega)]
      have q := ih t (k + 1) k (by omega) (by omega) ⟨by omega, fun i hi' => by
        by_cases z : i = k
        · rw [z]
          exact Int.le_refl _
        · have := f2 i (by omega)
          omega, fun i hi' => by
        have := f2 i hi'
        omega⟩
      rw [show ((k + 1 : Nat) : Int) = (k : Int) + 1 by omega] at q
      exact q
theorem best_59 {tr : Nat} {ic : Int} (h : FR M m fd) (hm : m ≤ 12) (ht : tr ≤ 672) : ∀ (n t k : Nat) (N : xM), k + n = tr → n < t → Un P9 M N → (∀ i, i < k → iV N 139 i = 0) → ∃ N', f_Calendarhall_best_59 O f t 1 (g : Int) lo hi len ic (tr : Int) (k : Int) N = f_Calendarhall_best_83 O f f 1 (g : Int) lo hi len ic (tr : Int) 0 N' ∧ Un P9 M N' ∧ ∀ i, i < tr → iV N' 139 i = 0 := by
  intro n
  induction n with
  | zero =>
    intro t k N h1 h2 u h3
    obtain ⟨t, rfl⟩ : ∃ n', t = n' + 1 := ⟨t - 1, by omega⟩
    obtain rfl : k = tr := by omega
    refine ⟨N, ?_, u, h3⟩
    show (if yw (k : Int) ≤ yw (k : Int) then _ else _) = _
    rw [le_T (by omega) (by omega) (by omega)]
  | succ n ih =>
    intro t k N h1 h2 u h3
    obtain ⟨t, rfl⟩ : ∃ n', t = n' + 1 := ⟨t - 1, by omega⟩
    have w := u.wd h.1.1.1
    have q := ih t (k + 1) (iS N 139 k 0) (by omega) (by omega) (u.iS (by unfold P9; omega)) (fun i hi' => by
      by_cases z : i = k
      · rw [z, iV_s (by omega) (by omega)]
      · rw [iV_o (Or.inr z)]
        exact h3 i (by omega))
    rw [show ((k + 1 : Nat) : Int) = (k : Int) + 1 by omega] at q
    show ∃ N', (if yw (tr : Int) ≤ yw (k : Int) then _ else _) = _ ∧ _
    rw [le_F (by omega) (by omega) (by omega), a_Cal_costs w, w_Cal_costs w (by omega) (by omega), show ((k : Int)).toNat = k by omega]
    exact q
theorem best_ok {ic : Int} (h : FR M m fd) (hm : m ≤ 12) (hg : g < 16) (g0 : 1 ≤ g) (hic : ic = 0 ∨ ic = 1) (l0 : 131000 ≤ lo) (l1 : lo < hi) (e1 : hi ≤ 750000) (h9 : hi - lo ≤ 9000) (n0 : 1 ≤ len) (n1 : len ≤ 600) (hf : 10000 ≤ f) : ∃ r M', f_Calendarhall_best O f 1 (g : Int) lo hi len ic M = some (r, M') ∧ Un P9 M M' ∧ ((hi - lo < len ∧ r = -1) ∨ (len ≤ hi - lo ∧ ∃ b : Nat, fmin (fun k => csm (fun q => cst M m q (lo + 15 * (k : Int)) len) g 4) ((hi - lo - len) / 15 + 1).toNat b ∧ r = if ic = 0 then lo + 15 * (b : Int) else csm (fun q => cst M m q (lo + 15 * (b : Int)) len) g 4)) := by
  have w := h.1.1.1
  unfold f_Calendarhall_best
  rw [c_needRange (by omega) (by omega) (by omega) (by omega), xc_of (e_needPiece (by omega) (by omega) l1 (by omega) (by omega)), c_needRange n0 n1 (by omega) (by omega)]
  by_cases c : hi - lo < len
  · rw [le_F (by omega) (by omega) (by omega)]
    exact ⟨-1, M, rfl, Un.rf, Or.inl ⟨c, rfl⟩⟩
  · obtain ⟨tr, etr⟩ : ∃ tr : Nat, (tr : Int) = (hi - lo - len) / 15 + 1 := ⟨((hi - lo - len) / 15 + 1).toNat, by omega⟩
    rw [le_T (by omega) (by omega) (by omega), a_Cal_costs w, n_Cal_costs w, jdiv_e (by omega) (by omega) (by omega) (by omega), xc_of (e_min (by omega) (by omega) (by omega) (by omega)), show min ((hi - lo - len) / 15 + 1) 672 = (tr : Int) by omega]
    obtain ⟨N1, e1', u1, z1⟩ := best_59 (O := O) (f := f) (g := g) (lo := lo) (hi := hi) (len := len) (ic := ic) h hm (show tr ≤ 672 by omega) tr f 0 M (by omega) (by omega) Un.rf (fun i hi' => absurd hi' (Nat.not_lt_zero _))
    obtain ⟨N2, e2, u2, c2⟩ := best_83 (O := O) (f := f) (ic := ic) (tr := tr) h hm hg l0 l1 e1 h9 n0 n1 (by omega) (fun k hk => by omega) hf 8 f 0 N1 (by omega) (by omega) u1 (fun k hk => z1 k hk)
    have w2 := u2.wd w
    obtain ⟨b, e3, f3⟩ := best_157 (O := O) (f := f) (lo := lo) (ic := ic) w2 (show tr ≤ 672 by omega) (by omega) hic (tr - 1) f 1 0 (by omega) (by omega) ⟨by omega, fun i hi' => by
      obtain rfl : i = 0 := by omega
      exact Int.le_refl _, fun i hi' => absurd hi' (Nat.not_lt_zero _)⟩
    have e1'' : f_Calendarhall_best_59 O f f 1 (g : Int) lo hi len ic (tr : Int) 0 M = f_Calendarhall_best_83 O f f 1 (g : Int) lo hi len ic (tr : Int) 0 N1 := e1'
    have e2' : f_Calendarhall_best_83 O f f 1 (g : Int) lo hi len ic (tr : Int) 0 N1 = f_Calendarhall_best_157 O f f 1 lo ic (tr : Int) 0 1 N2 := e2
    have e3' : f_Calendarhall_best_157 O f f 1 lo ic (tr : Int) 0 1 N2 = some ((if ic = 0 then lo + 15 * (b : Int) else iV N2 139 b), N2) := e3
    rw [e1'', e2', e3']
    obtain ⟨g1, g2, g3⟩ := f3
    refine ⟨_, N2, rfl, u2, Or.inr ⟨by omega, b, ?_, ?_⟩⟩
    · rw [← etr, Int.toNat_natCast]
      refine ⟨g1, fun i hi' => ?_, fun i hi' => ?_⟩
      · have := g2 i hi'
        rw [c2 b g1, c2 i hi'] at this
        exact this
      · have := g3 i hi'
        rw [c2 b g1, c2 i (by omega)] at this
        exact this
    · rw [c2 b g1]
end BST
end
