/-! ===== rules over whole numbers ===== -/
def oJ (x : Int) : Option Value := some (.int (yw x))
def oK (x : Int) : Option Value := some (.long (yl x))
def gJ (O : Nat → Option va_E) (M : xM) (k ci j : Nat) : Option Int := (gI O M k ci j).map (fun x => x.toInt)
def gK (O : Nat → Option va_E) (M : xM) (k ci j : Nat) : Option Int := (gL O M k ci j).map (fun x => x.toInt)
def pJ (M : xM) (k ci j : Nat) (x : Int) : Option xM := pI M k ci j (yw x)
def pK (M : xM) (k ci j : Nat) (x : Int) : Option xM := pL M k ci j (yl x)
def aJN (O : Nat → Option va_E) (M : xM) (k : Nat) : Option Int := (aN O M k).map (fun x => x.toInt)
def aJ (O : Nat → Option va_E) (M : xM) (k : Nat) (i : Int) : Option Int := (aI O M k (yw i)).map (fun x => x.toInt)
def aJC (O : Nat → Option va_E) (M : xM) (k : Nat) (i : Int) : Option Int := (aC O M k (yw i)).map (fun x => x.toInt)
def aJB (O : Nat → Option va_E) (M : xM) (k : Nat) (i : Int) : Option Int := (aB O M k (yw i)).map (fun x => x.toInt)
def aK (O : Nat → Option va_E) (M : xM) (k : Nat) (i : Int) : Option Int := (aL O M k (yw i)).map (fun x => x.toInt)
def aJR (O : Nat → Option va_E) (M : xM) (k : Nat) (i : Int) : Option Nat := aR O M k (yw i)
def wJ (M : xM) (k : Nat) (i x : Int) : Option xM := wI M k (yw i) (yw x)
def wJC (M : xM) (k : Nat) (i x : Int) : Option xM := wC M k (yw i) (yw x)
def wJB (M : xM) (k : Nat) (i x : Int) : Option xM := wB M k (yw i) (yw x)
def wK (M : xM) (k : Nat) (i x : Int) : Option xM := wL M k (yw i) (yl x)
def wJR (O : Nat → Option va_E) (M : xM) (k : Nat) (i : Int) (v : Nat) : Option xM := wR O M k (yw i) v
def cpJ (O : Nat → Option va_E) (M : xM) (a0 : Nat) (sp : Int) (a1 : Nat) (dp n : Int) : Option xM := cpY O M a0 (yw sp) a1 (yw dp) (yw n)
def nAJ (M : xM) (t : Nat) (n : Int) : Option (Nat × xM) := nA M t (yw n)
def nMJ (M : xM) (n k : Int) : Option (Nat × xM) := nM M (yw n) (yw k)
section XTJ
variable {α : Type} {ι : α → Option Value} {O : Nat → Option va_E} {d m pc : Nat} {lv : List (Nat × Value)} {st : List Value} {M : xM} {F : Option (α × xM)} {me : xMe} {t a b c0 len : Nat} {cv : Value} {off : Int}
theorem xZ.eqs {lv2 : List (Nat × Value)} {st2 : List Value} (h1 : lv = lv2) (h2 : st = st2) (k : xZ ι O d m pc lv2 st2 M F) : xZ ι O d m pc lv st M F := by
  subst h1 h2
  exact k
theorem mapI_bind {G : Option Int32} {A : Int → Option (α × xM)} : (G.map (fun x => x.toInt)).bind A = G.bind (fun x => A x.toInt) := by cases G <;> rfl
theorem mapL_bind {G : Option Int64} {A : Int → Option (α × xM)} : (G.map (fun x => x.toInt)).bind A = G.bind (fun x => A x.toInt) := by cases G <;> rfl

theorem xZ.k_gJ {i k ci j : Nat} {A : Int → Option (α × xM)} (hP : xP m = some me) (hE : xfd pc me.1 = some (.getfield i, 3, ci, j, b, cv)) (kk : ∀ x, xZ ι O d m (pc + 3) lv (.int (yw x) :: st) M (A x)) : xZ ι O d m pc lv (.ref k :: st) M ((gJ O M k ci j).bind A) := by
  unfold gJ
  rw [mapI_bind]
  refine xZ.k_gI hP hE (fun x => ?_)
  have q := kk x.toInt
  rw [yw_of] at q
  exact q
theorem xZ.k_gK {i k ci j : Nat} {A : Int → Option (α × xM)} (hP : xP m = some me) (hE : xfd pc me.1 = some (.getfield i, 3, ci, j, b, cv)) (kk : ∀ x, xZ ι O d m (pc + 3) lv (.long (yl x) :: st) M (A x)) : xZ ι O d m pc lv (.ref k :: st) M ((gK O M k ci j).bind A) := by
  unfold gK
  rw [mapL_bind]
  refine xZ.k_gL hP hE (fun x => ?_)
  have q := kk x.toInt
  rw [yl_of] at q
  exact q
theorem xZ.k_aJN {k : Nat} {A : Int → Option (α × xM)} (hP : xP m = some me) (hE : xfd pc me.1 = some (.arraylength, 1, t, a, b, cv)) (kk : ∀ x, xZ ι O d m (pc + 1) lv (.int (yw x) :: st) M (A x)) : xZ ι O d m pc lv (.ref k :: st) M ((aJN O M k).bind A) := by
  unfold aJN
  rw [mapI_bind]
  refine xZ.k_aN hP hE (fun x => ?_)
  have q := kk x.toInt
  rw [yw_of] at q
  exact q
theorem xZ.k_aJ {k : Nat} {i : Int} {A : Int → Option (α × xM)} (hP : xP m = some me) (hE : xfd pc me.1 = some (.iaload, 1, t, a, b, cv)) (kk : ∀ x, xZ ι O d m (pc + 1) lv (.int (yw x) :: st) M (A x)) : xZ ι O d m pc lv (.int (yw i) :: .ref k :: st) M ((aJ O M k i).bind A) := by
  unfold aJ
  rw [mapI_bind]
  refine xZ.k_aI hP hE (fun x => ?_)
  have q := kk x.toInt
  rw [yw_of] at q
  exact q
theorem xZ.k_aJC {k : Nat} {i : Int} {A : Int → Option (α × xM)} (hP : xP m = some me) (hE : xfd pc me.1 = some (.caload, 1, t, a, b, cv)) (kk : ∀ x, xZ ι O d m (pc + 1) lv (.int (yw x) :: st) M (A x)) : xZ ι O d m pc lv (.int (yw i) :: .ref k :: st) M ((aJC O M k i).bind A) := by
  unfold aJC
  rw [mapI_bind]
  refine xZ.k_aC hP hE (fun x => ?_)
  have q := kk x.toInt
  rw [yw_of] at q
  exact q
theorem xZ.k_aJB {k : Nat} {i : Int} {A : Int → Option (α × xM)} (hP : xP m = some me) (hE : xfd pc me.1 = some (.baload, 1, t, a, b, cv)) (kk : ∀ x, xZ ι O d m (pc + 1) lv (.int (yw x) :: st) M (A x)) : xZ ι O d m pc lv (.int (yw i) :: .ref k :: st) M ((aJB O M k i).bind A) := by
  unfold aJB
  rw [mapI_bind]
  refine xZ.k_aB hP hE (fun x => ?_)
  have q := kk x.toInt
  rw [yw_of] at q
  exact q
theorem xZ.k_aK {k : Nat} {i : Int} {A : Int → Option (α × xM)} (hP : xP m = some me) (hE : xfd pc me.1 = some (.laload, 1, t, a, b, cv)) (kk : ∀ x, xZ ι O d m (pc + 1) lv (.long (yl x) :: st) M (A x)) : xZ ι O d m pc lv (.int (yw i) :: .ref k :: st) M ((aK O M k i).bind A) := by
  unfold aK
  rw [mapL_bind]
  refine xZ.k_aL hP hE (fun x => ?_)
  have q := kk x.toInt
  rw [yl_of] at q
  exact q
theorem xZ.k_aJR {k : Nat} {i : Int} {A : Nat → Option (α × xM)} (hP : xP m = some me) (hE : xfd pc me.1 = some (.aaload, 1, t, a, b, cv)) (kk : ∀ x, xZ ι O d m (pc + 1) lv (.ref x :: st) M (A x)) : xZ ι O d m pc lv (.int (yw i) :: .ref k :: st) M ((aJR O M k i).bind A) := xZ.k_aR hP hE kk
theorem xZ.k_pJ {i k ci j : Nat} {x : Int} {A : xM → Option (α × xM)} (hP : xP m = some me) (hE : xfd pc me.1 = some (.putfield i, 3, ci, j, b, cv)) (kk : ∀ M1, xZ ι O d m (pc + 3) lv st M1 (A M1)) : xZ ι O d m pc lv (.int (yw x) :: .ref k :: st) M ((pJ M k ci j x).bind A) := xZ.k_pI hP hE kk
theorem xZ.k_pK {i k ci j : Nat} {x : Int} {A : xM → Option (α × xM)} (hP : xP m = some me) (hE : xfd pc me.1 = some (.putfield i, 3, ci, j, b, cv)) (kk : ∀ M1, xZ ι O d m (pc + 3) lv st M1 (A M1)) : xZ ι O d m pc lv (.long (yl x) :: .ref k :: st) M ((pK M k ci j x).bind A) := xZ.k_pL hP hE kk
theorem xZ.k_wJ {k : Nat} {i x : Int} {A : xM → Option (α × xM)} (hP : xP m = some me) (hE : xfd pc me.1 = some (.iastore, 1, t, a, b, cv)) (kk : ∀ M1, xZ ι O d m (pc + 1) lv st M1 (A M1)) : xZ ι O d m pc lv (.int (yw x) :: .int (yw i) :: .ref k :: st) M ((wJ M k i x).bind A) := xZ.k_wI hP hE kk
theorem xZ.k_wJC {k : Nat} {i x : Int} {A : xM → Option (α × xM)} (hP : xP m = some me) (hE : xfd pc me.1 = some (.castore, 1, t, a, b, cv)) (kk : ∀ M1, xZ ι O d m (pc + 1) lv st M1 (A M1)) : xZ ι O d m pc lv (.int (yw x) :: .int (yw i) :: .ref k :: st) M ((wJC M k i x).bind A) := xZ.k_wC hP hE kk
theorem xZ.k_wJB {k : Nat} {i x : Int} {A : xM → Option (α × xM)} (hP : xP m = some me) (hE : xfd pc me.1 = some (.bastore, 1, t, a, b, cv)) (kk : ∀ M1, xZ ι O d m (pc + 1) lv st M1 (A M1)) : xZ ι O d m pc lv (.int (yw x) :: .int (yw i) :: .ref k :: st) M ((wJB M k i x).bind A) := xZ.k_wB hP hE kk
theorem xZ.k_wK {k : Nat} {i x : Int} {A : xM → Option (α × xM)} (hP : xP m = some me) (hE : xfd pc me.1 = some (.lastore, 1, t, a, b, cv)) (kk : ∀ M1, xZ ι O d m (pc + 1) lv st M1 (A M1)) : xZ ι O d m pc lv (.long (yl x) :: .int (yw i) :: .ref k :: st) M ((wK M k i x).bind A) := xZ.k_wL hP hE kk
theorem xZ.k_wJR {k v : Nat} {i : Int} {A : xM → Option (α × xM)} (hP : xP m = some me) (hE : xfd pc me.1 = some (.aastore, 1, t, a, b, cv)) (kk : ∀ M1, xZ ι O d m (pc + 1) lv st M1 (A M1)) : xZ ι O d m pc lv (.ref v :: .int (yw i) :: .ref k :: st) M ((wJR O M k i v).bind A) := xZ.k_wR hP hE kk
theorem xZ.k_cpJ {i a0 a1 : Nat} {sp dp n : Int} {A : xM → Option (α × xM)} (hP : xP m = some me) (hE : xfd pc me.1 = some (.invokestatic i, 3, a, b, 6, cv)) (hw : xcat st ≤ 100) (kk : ∀ M1, xZ ι O d m (pc + 3) lv st M1 (A M1)) : xZ ι O d m pc lv (.int (yw n) :: .int (yw dp) :: .ref a1 :: .int (yw sp) :: .ref a0 :: st) M ((cpJ O M a0 sp a1 dp n).bind A) := xZ.k_cpY hP hE hw kk
theorem xZ.k_nAJ {q : ArrayType} {t0 : Nat} {n : Int} {A : Nat → xM → Option (α × xM)} (hP : xP m = some me) (hE : xfd pc me.1 = some (.newarray q, 2, t, a, b, cv)) (ht : xat q = some t0) (h5 : t0 < 5) (kk : ∀ k M1, xZ ι O d m (pc + 2) lv (.ref k :: st) M1 (A k M1)) : xZ ι O d m pc lv (.int (yw n) :: st) M (xcl (nAJ M t0 n) A) := xZ.k_nA hP hE ht h5 kk
theorem xZ.nRj {i t0 : Nat} {n : Int} {A : Nat → xM → Option (α × xM)} (hP : xP m = some me) (hE : xfd pc me.1 = some (.anewarray i, 3, t0, a, b, cv)) (h5 : 5 ≤ t0) (kk : ∀ k M1, xZ ι O d m (pc + 3) lv (.ref k :: st) M1 (A k M1)) : xZ ι O d m pc lv (.int (yw n) :: st) M (xcl (nAJ M t0 n) A) := xZ.nRr hP hE h5 kk
theorem xZ.nMj {i : Nat} {n k : Int} {A : Nat → xM → Option (α × xM)} (hP : xP m = some me) (hE : xfd pc me.1 = some (.multianewarray i 2, 4, t, a, b, cv)) (kk : ∀ k M1, xZ ι O d m (pc + 4) lv (.ref k :: st) M1 (A k M1)) : xZ ι O d m pc lv (.int (yw k) :: .int (yw n) :: st) M (xcl (nMJ M n k) A) := xZ.nMr hP hE kk
theorem xZ.jf_eq {x : Int} {A B : Option (α × xM)} (hP : xP m = some me) (hE : xfd pc me.1 = some (.ifCond .eq off, 3, t, a, b, cv)) (kt : yw x = yw 0 → xZ ι O d m t lv st M A) (kf : ¬ (yw x = yw 0) → xZ ι O d m (pc + 3) lv st M B) : xZ ι O d m pc lv (.int (yw x) :: st) M (if yw x = yw 0 then A else B) := xZ.if_eq hP hE kt kf
theorem xZ.jc_eq {x y : Int} {A B : Option (α × xM)} (hP : xP m = some me) (hE : xfd pc me.1 = some (.if_icmp .eq off, 3, t, a, b, cv)) (kt : yw x = yw y → xZ ι O d m t lv st M A) (kf : ¬ (yw x = yw y) → xZ ι O d m (pc + 3) lv st M B) : xZ ι O d m pc lv (.int (yw y) :: .int (yw x) :: st) M (if yw x = yw y then A else B) := xZ.ic_eq hP hE kt kf
theorem xZ.jf_ne {x : Int} {A B : Option (α × xM)} (hP : xP m = some me) (hE : xfd pc me.1 = some (.ifCond .ne off, 3, t, a, b, cv)) (kt : yw x = yw 0 → xZ ι O d m (pc + 3) lv st M A) (kf : ¬ (yw x = yw 0) → xZ ι O d m t lv st M B) : xZ ι O d m pc lv (.int (yw x) :: st) M (if yw x = yw 0 then A else B) := xZ.if_ne hP hE kt kf
theorem xZ.jc_ne {x y : Int} {A B : Option (α × xM)} (hP : xP m = some me) (hE : xfd pc me.1 = some (.if_icmp .ne off, 3, t, a, b, cv)) (kt : yw x = yw y → xZ ι O d m (pc + 3) lv st M A) (kf : ¬ (yw x = yw y) → xZ ι O d m t lv st M B) : xZ ι O d m pc lv (.int (yw y) :: .int (yw x) :: st) M (if yw x = yw y then A else B) := xZ.ic_ne hP hE kt kf
theorem xZ.jf_lt {x : Int} {A B : Option (α × xM)} (hP : xP m = some me) (hE : xfd pc me.1 = some (.ifCond .lt off, 3, t, a, b, cv)) (kt : yw x < yw 0 → xZ ι O d m t lv st M A) (kf : ¬ (yw x < yw 0) → xZ ι O d m (pc + 3) lv st M B) : xZ ι O d m pc lv (.int (yw x) :: st) M (if yw x < yw 0 then A else B) := xZ.if_lt hP hE kt kf
theorem xZ.jc_lt {x y : Int} {A B : Option (α × xM)} (hP : xP m = some me) (hE : xfd pc me.1 = some (.if_icmp .lt off, 3, t, a, b, cv)) (kt : yw x < yw y → xZ ι O d m t lv st M A) (kf : ¬ (yw x < yw y) → xZ ι O d m (pc + 3) lv st M B) : xZ ι O d m pc lv (.int (yw y) :: .int (yw x) :: st) M (if yw x < yw y then A else B) := xZ.ic_lt hP hE kt kf
theorem xZ.jf_ge {x : Int} {A B : Option (α × xM)} (hP : xP m = some me) (hE : xfd pc me.1 = some (.ifCond .ge off, 3, t, a, b, cv)) (kt : yw 0 ≤ yw x → xZ ι O d m t lv st M A) (kf : ¬ (yw 0 ≤ yw x) → xZ ι O d m (pc + 3) lv st M B) : xZ ι O d m pc lv (.int (yw x) :: st) M (if yw 0 ≤ yw x then A else B) := xZ.if_ge hP hE kt kf
theorem xZ.jc_ge {x y : Int} {A B : Option (α × xM)} (hP : xP m = some me) (hE : xfd pc me.1 = some (.if_icmp .ge off, 3, t, a, b, cv)) (kt : yw y ≤ yw x → xZ ι O d m t lv st M A) (kf : ¬ (yw y ≤ yw x) → xZ ι O d m (pc + 3) lv st M B) : xZ ι O d m pc lv (.int (yw y) :: .int (yw x) :: st) M (if yw y ≤ yw x then A else B) := xZ.ic_ge hP hE kt kf
theorem xZ.jf_gt {x : Int} {A B : Option (α × xM)} (hP : xP m = some me) (hE : xfd pc me.1 = some (.ifCond .gt off, 3, t, a, b, cv)) (kt : yw 0 < yw x → xZ ι O d m t lv st M A) (kf : ¬ (yw 0 < yw x) → xZ ι O d m (pc + 3) lv st M B) : xZ ι O d m pc lv (.int (yw x) :: st) M (if yw 0 < yw x then A else B) := xZ.if_gt hP hE kt kf
theorem xZ.jc_gt {x y : Int} {A B : Option (α × xM)} (hP : xP m = some me) (hE : xfd pc me.1 = some (.if_icmp .gt off, 3, t, a, b, cv)) (kt : yw y < yw x → xZ ι O d m t lv st M A) (kf : ¬ (yw y < yw x) → xZ ι O d m (pc + 3) lv st M B) : xZ ι O d m pc lv (.int (yw y) :: .int (yw x) :: st) M (if yw y < yw x then A else B) := xZ.ic_gt hP hE kt kf
theorem xZ.jf_le {x : Int} {A B : Option (α × xM)} (hP : xP m = some me) (hE : xfd pc me.1 = some (.ifCond .le off, 3, t, a, b, cv)) (kt : yw x ≤ yw 0 → xZ ι O d m t lv st M A) (kf : ¬ (yw x ≤ yw 0) → xZ ι O d m (pc + 3) lv st M B) : xZ ι O d m pc lv (.int (yw x) :: st) M (if yw x ≤ yw 0 then A else B) := xZ.if_le hP hE kt kf
theorem xZ.jc_le {x y : Int} {A B : Option (α × xM)} (hP : xP m = some me) (hE : xfd pc me.1 = some (.if_icmp .le off, 3, t, a, b, cv)) (kt : yw x ≤ yw y → xZ ι O d m t lv st M A) (kf : ¬ (yw x ≤ yw y) → xZ ι O d m (pc + 3) lv st M B) : xZ ι O d m pc lv (.int (yw y) :: .int (yw x) :: st) M (if yw x ≤ yw y then A else B) := xZ.ic_le hP hE kt kf
theorem xZ.k_jdiv {x y : Int} {A : Int → Option (α × xM)} (hP : xP m = some me) (hE : xfd pc me.1 = some (.idiv, 1, t, a, b, cv)) (k : ∀ z, xZ ι O d m (pc + 1) lv (.int (yw z) :: st) M (A z)) : xZ ι O d m pc lv (.int (yw y) :: .int (yw x) :: st) M (if yw y = yw 0 then none else xlet (jdiv x y) A) := by
  by_cases hy : yw y = yw 0
  · rw [if_pos hy]; exact xZ.no
  · rw [if_neg hy]
    refine xZ.one hP hE ?_ (k _)
    show (match xs1 me.2.1 .idiv 1 lv (.int (yw y) :: .int (yw x) :: st) with | some (lv', st') => _ | none => _) = _
    rw [show xs1 me.2.1 .idiv 1 lv (.int (yw y) :: .int (yw x) :: st) = some (lv, .int (yw x / yw y) :: st) from if_neg (show ¬ yw y = 0 from hy), cj_div]
theorem xZ.k_jrem {x y : Int} {A : Int → Option (α × xM)} (hP : xP m = some me) (hE : xfd pc me.1 = some (.irem, 1, t, a, b, cv)) (k : ∀ z, xZ ι O d m (pc + 1) lv (.int (yw z) :: st) M (A z)) : xZ ι O d m pc lv (.int (yw y) :: .int (yw x) :: st) M (if yw y = yw 0 then none else xlet (x - jdiv x y * y) A) := by
  by_cases hy : yw y = yw 0
  · rw [if_pos hy]; exact xZ.no
  · rw [if_neg hy]
    refine xZ.one hP hE ?_ (k _)
    show (match xs1 me.2.1 .irem 1 lv (.int (yw y) :: .int (yw x) :: st) with | some (lv', st') => _ | none => _) = _
    rw [show xs1 me.2.1 .irem 1 lv (.int (yw y) :: .int (yw x) :: st) = some (lv, .int (yw x - yw x / yw y * yw y) :: st) from if_neg (show ¬ yw y = 0 from hy), cj_div, yw_mul, yw_sub]
theorem xZ.k_lrem {x y : Int} {A : Int → Option (α × xM)} (hP : xP m = some me) (hE : xfd pc me.1 = some (.lrem, 1, t, a, b, cv)) (k : ∀ z, xZ ι O d m (pc + 1) lv (.long (yl z) :: st) M (A z)) : xZ ι O d m pc lv (.long (yl y) :: .long (yl x) :: st) M (if yl y = yl 0 then none else xlet (x - kdiv x y * y) A) := by
  by_cases hy : yl y = yl 0
  · rw [if_pos hy]; exact xZ.no
  · rw [if_neg hy]
    refine xZ.one hP hE ?_ (k _)
    show (match xs1 me.2.1 .lrem 1 lv (.long (yl y) :: .long (yl x) :: st) with | some (lv', st') => _ | none => _) = _
    rw [show xs1 me.2.1 .lrem 1 lv (.long (yl y) :: .long (yl x) :: st) = some (lv, .long (yl x - yl x / yl y * yl y) :: st) from if_neg (show ¬ yl y = 0 from hy), ck_div, yl_mul, yl_sub]
theorem xZ.jreti {x : Int} (hP : xP m = some me) (hE : xfd pc me.1 = some (.ireturn, 1, t, a, b, cv)) (hr : me.2.2 = some .int) : xZ oJ O d m pc lv [.int (yw x)] M (some (x, M)) := by
  intro a9 M9 e
  cases e
  exact xX.reti hP hE hr rfl
theorem xZ.jretf {x : Int} {ty : FieldType} (hP : xP m = some me) (hE : xfd pc me.1 = some (.ireturn, 1, t, a, b, cv)) (hr : me.2.2 = some ty) : xZ oJ O d m pc lv [.int (yw x)] M (if xfit ty (.int (yw x)) = true then some (x, M) else none) := by
  intro a9 M9 e
  split at e
  · rename_i hf
    cases e
    exact xX.reti hP hE hr hf
  · cases e
theorem xZ.jrete {x : Int} {ty : FieldType} (hP : xP m = some me) (hE : xfd pc me.1 = some (.ireturn, 1, t, a, b, cv)) (hr : me.2.2 = some ty) (hf : xfit ty (.int (yw x)) = true) : xZ oJ O d m pc lv [.int (yw x)] M (some (x, M)) := by
  intro a9 M9 e
  cases e
  exact xX.reti hP hE hr hf
theorem xZ.jretl {x : Int} (hP : xP m = some me) (hE : xfd pc me.1 = some (.lreturn, 1, t, a, b, cv)) (hr : me.2.2 = some .long) : xZ oK O d m pc lv [.long (yl x)] M (some (x, M)) := by
  intro a9 M9 e
  cases e
  exact (xZ.retl (M := M) (x := yl x) hP hE hr) _ _ rfl
end XTJ
