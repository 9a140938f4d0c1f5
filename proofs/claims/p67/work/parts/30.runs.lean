/-! ===== runs of the picture, backwards ===== -/
theorem xgo_fuel {P : Nat → Option xMe} {O : Nat → Option va_E} : ∀ (f f' d m pc : Nat) (lv : List (Nat × Value)) (st : List Value) (h : Nat × Nat × (Nat → va_E)) (r : Option Value × (Nat × Nat × (Nat → va_E))), xgo P O f d m pc lv st h = some r → f ≤ f' → xgo P O f' d m pc lv st h = some r
  | 0, _, _, _, _, _, _, _, _, hg, _ => by simp [xgo] at hg
  | f + 1, 0, _, _, _, _, _, _, _, _, hf => absurd hf (by omega)
  | f + 1, f' + 1, d, m, pc, lv, st, h, r, hg, hf => by
    have hf' : f ≤ f' := by omega
    rw [xgo] at hg ⊢
    cases hP : P m with
    | none => rw [hP] at hg; cases hg
    | some me =>
      rw [hP] at hg
      simp only at hg ⊢
      cases hE : xfd pc me.1 with
      | none => rw [hE] at hg; cases hg
      | some en =>
        rw [hE] at hg
        simp only at hg ⊢
        cases hN : xnx O me.2.1 en pc lv st h with
        | some z =>
          rw [hN] at hg
          simp only at hg ⊢
          exact xgo_fuel f f' _ _ _ _ _ _ _ hg hf'
        | none =>
          rw [hN] at hg
          simp only at hg ⊢
          cases hA : xna O en st h with
          | some z =>
            rw [hA] at hg
            simp only at hg ⊢
            exact xgo_fuel f f' _ _ _ _ _ _ _ hg hf'
          | none =>
            rw [hA] at hg
            simp only at hg ⊢
            cases hC : xca O en st h with
            | none =>
              rw [hC] at hg
              simp only at hg ⊢
              exact hg
            | some z =>
              obtain ⟨m', av, rest⟩ := z
              rw [hC] at hg
              simp only at hg ⊢
              cases d with
              | zero => exact hg
              | succ d' =>
                simp only at hg ⊢
                cases hP' : P m' with
                | none => rw [hP'] at hg; cases hg
                | some me' =>
                  rw [hP'] at hg
                  simp only at hg ⊢
                  by_cases hl : (lg_sl av).length ≤ me'.2.1
                  · rw [if_pos hl] at hg ⊢
                    cases hG : xgo P O f d' m' 0 (lv_args 0 av) [] h with
                    | none => rw [hG] at hg; cases hg
                    | some z2 =>
                      obtain ⟨rv, h1⟩ := z2
                      rw [hG] at hg
                      rw [xgo_fuel f f' _ _ _ _ _ _ _ hG hf']
                      simp only at hg ⊢
                      exact xgo_fuel f f' _ _ _ _ _ _ _ hg hf'
                  · rw [if_neg hl] at hg
                    cases hg
theorem xgo_deep {P : Nat → Option xMe} {O : Nat → Option va_E} : ∀ (f d d' m pc : Nat) (lv : List (Nat × Value)) (st : List Value) (h : Nat × Nat × (Nat → va_E)) (r : Option Value × (Nat × Nat × (Nat → va_E))), xgo P O f d m pc lv st h = some r → d ≤ d' → xgo P O f d' m pc lv st h = some r
  | 0, _, _, _, _, _, _, _, _, hg, _ => by simp [xgo] at hg
  | f + 1, d, d', m, pc, lv, st, h, r, hg, hd => by
    rw [xgo] at hg ⊢
    cases hP : P m with
    | none => rw [hP] at hg; cases hg
    | some me =>
      rw [hP] at hg
      simp only at hg ⊢
      cases hE : xfd pc me.1 with
      | none => rw [hE] at hg; cases hg
      | some en =>
        rw [hE] at hg
        simp only at hg ⊢
        cases hN : xnx O me.2.1 en pc lv st h with
        | some z =>
          rw [hN] at hg
          simp only at hg ⊢
          exact xgo_deep f _ _ _ _ _ _ _ _ hg hd
        | none =>
          rw [hN] at hg
          simp only at hg ⊢
          cases hA : xna O en st h with
          | some z =>
            rw [hA] at hg
            simp only at hg ⊢
            exact xgo_deep f _ _ _ _ _ _ _ _ hg hd
          | none =>
            rw [hA] at hg
            simp only at hg ⊢
            cases hC : xca O en st h with
            | none =>
              rw [hC] at hg
              simp only at hg ⊢
              exact hg
            | some z =>
              obtain ⟨m', av, rest⟩ := z
              rw [hC] at hg
              simp only at hg ⊢
              cases d with
              | zero => cases hg
              | succ e =>
                cases d' with
                | zero => exact absurd hd (by omega)
                | succ e' =>
                  simp only at hg ⊢
                  cases hP' : P m' with
                  | none => rw [hP'] at hg; cases hg
                  | some me' =>
                    rw [hP'] at hg
                    simp only at hg ⊢
                    by_cases hl : (lg_sl av).length ≤ me'.2.1
                    · rw [if_pos hl] at hg ⊢
                      cases hG : xgo P O f e m' 0 (lv_args 0 av) [] h with
                      | none => rw [hG] at hg; cases hg
                      | some z2 =>
                        obtain ⟨rv, h1⟩ := z2
                        rw [hG] at hg
                        rw [xgo_deep f _ _ _ _ _ _ _ _ hG (by omega : e ≤ e')]
                        simp only at hg ⊢
                        exact xgo_deep f _ _ _ _ _ _ _ _ hg hd
                    · rw [if_neg hl] at hg
                      cases hg
/-- from this point the method comes to its end, with this answer and this heap -/
def xX (O : Nat → Option va_E) (d m pc : Nat) (lv : List (Nat × Value)) (st : List Value) (h : Nat × Nat × (Nat → va_E)) (r : Option Value × (Nat × Nat × (Nat → va_E))) : Prop := ∃ f, xgo xP O f d m pc lv st h = some r
/-- some steps within a method -/
def xad (O : Nat → Option va_E) (me : xMe) : Nat → Nat → List (Nat × Value) → List Value → Nat × Nat × (Nat → va_E) → Option (Nat × List (Nat × Value) × List Value × (Nat × Nat × (Nat → va_E)))
  | 0, pc, lv, st, h => some (pc, lv, st, h)
  | n + 1, pc, lv, st, h => match xfd pc me.1 with
    | some en => match xnx O me.2.1 en pc lv st h with
      | some z => xad O me n z.1 z.2.1 z.2.2.1 z.2.2.2
      | none => match xna O en st h with
        | some z => xad O me n (pc + 3) lv z.1 z.2
        | none => none
    | none => none
section XRN
variable {O : Nat → Option va_E} {d m pc : Nat} {lv : List (Nat × Value)} {st : List Value} {h : Nat × Nat × (Nat → va_E)} {r : Option Value × (Nat × Nat × (Nat → va_E))}
theorem xX.deep {d' : Nat} (k : xX O d m pc lv st h r) (hd : d ≤ d') : xX O d' m pc lv st h r := by
  obtain ⟨f, hf⟩ := k
  exact ⟨f, xgo_deep f _ _ _ _ _ _ _ _ hf hd⟩
theorem xX.adv {me : xMe} (hP : xP m = some me) : ∀ (n : Nat) {pc pc' : Nat} {lv lv' : List (Nat × Value)} {st st' : List Value} {h h' : Nat × Nat × (Nat → va_E)}, xad O me n pc lv st h = some (pc', lv', st', h') → xX O d m pc' lv' st' h' r → xX O d m pc lv st h r
  | 0, _, _, _, _, _, _, _, _, ha, k => by
    unfold xad at ha
    cases ha
    exact k
  | n + 1, pc, _, lv, _, st, _, h, _, ha, k => by
    unfold xad at ha
    split at ha
    · rename_i en hE
      split at ha
      · rename_i z hN
        obtain ⟨f, hf⟩ := xX.adv hP n ha k
        refine ⟨f + 1, ?_⟩
        rw [xgo, hP]
        simp only [hE, hN]
        exact hf
      · rename_i hN
        split at ha
        · rename_i z hA
          obtain ⟨f, hf⟩ := xX.adv hP n ha k
          refine ⟨f + 1, ?_⟩
          rw [xgo, hP]
          simp only [hE, hN, hA]
          exact hf
        · cases ha
    · cases ha
theorem xX.call {me me' : xMe} {en : xEn} {m' : Nat} {av rest : List Value} {rv : Option Value} {h1 : Nat × Nat × (Nat → va_E)} (hP : xP m = some me) (hE : xfd pc me.1 = some en) (hN : xnx O me.2.1 en pc lv st h = none) (hA : xna O en st h = none) (hC : xca O en st h = some (m', av, rest)) (hP' : xP m' = some me') (hl : (lg_sl av).length ≤ me'.2.1)
    (hk : xX O d m' 0 (lv_args 0 av) [] h (rv, h1)) (k : xX O (d + 1) m (pc + 3) lv (rv.toList ++ rest) h1 r) : xX O (d + 1) m pc lv st h r := by
  obtain ⟨f1, e1⟩ := hk
  obtain ⟨f2, e2⟩ := k
  refine ⟨max f1 f2 + 1, ?_⟩
  rw [xgo, hP]
  simp only [hE, hN, hA, hC, hP']
  rw [if_pos hl, xgo_fuel _ _ _ _ _ _ _ _ _ e1 (Nat.le_max_left _ _)]
  exact xgo_fuel _ _ _ _ _ _ _ _ _ e2 (Nat.le_max_right _ _)
theorem xX.ret {me : xMe} {en : xEn} {rv : Option Value} (hP : xP m = some me) (hE : xfd pc me.1 = some en) (hN : xnx O me.2.1 en pc lv st h = none) (hA : xna O en st h = none) (hC : xca O en st h = none) (hR : xre me.2.2 en.1 en.2.1 st = some rv) : xX O d m pc lv st h (rv, h) := by
  refine ⟨1, ?_⟩
  rw [xgo, hP]
  simp only [hE, hN, hA, hC, hR]
end XRN
