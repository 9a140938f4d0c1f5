/-! draft 722.keepall -/
section
/-! ===== what the law's days rest on, and what keeps it ===== -/
/-- zones, the law's days, its rule, the class's builder, and no other series -/
def DT (n m k : Nat) (M : xM) : Prop := (∀ z, z < 3 → Zv M z) ∧ LD n M ∧ LRp m M ∧ LVr (iV M m) ∧ (∃ nb L, BD M 137 138 nb L ∧ nb ≤ 600) ∧ ∀ j : Nat, j < 12 → j ≠ k → iV M (29 + 6 * j) 0 = 0
section KPA
variable {O : Nat → Option va_E} {f k n m : Nat} {M N : xM} {P : Nat → Prop}
theorem Bs.iv (h : Bs M) (w : Wd N) (e : ∀ a j, 1 ≤ a → a ≤ 100 → iV N a j = iV M a j) : Bs N := by
  obtain ⟨-, s, b⟩ := h
  refine ⟨w, ?_, fun k hk => ?_⟩
  · unfold Sv at s ⊢
    rw [e 1 2 (by omega) (by omega), e 1 3 (by omega) (by omega)]
    exact s
  · rw [e _ _ (by omega) (by omega), e _ _ (by omega) (by omega)]
    exact b k hk
theorem LD.kq (h : LD n M) (u : Kq P M N) (hb : N.1 ≤ 500000000) (hp : ∀ a, 1044 ≤ a → P a) : LD n N := by
  obtain ⟨⟨a, b, c, e, g⟩, v⟩ := h
  have u1 := u.1
  refine ⟨⟨a, by omega, hb, by rw [u.2.1 n (by omega)]; exact e, fun j hj => ?_⟩, fun j d hj hd => ?_⟩
  · rw [(u.2.2 n (by omega) (hp n a)).2.2, u.2.1 (n + 1 + j) (by omega)]
    exact g j hj
  · rw [u.i (by omega) (hp _ (by omega))]
    exact v j d hj hd
theorem DT.un (h : DT n m k M) (u : Un P M N) (hk : k < 12) (m0 : 1044 ≤ m) (hp : ∀ a, (12 ≤ a ∧ a < 21) ∨ (21 ≤ a ∧ a < 101 ∧ (a < 29 + 6 * k ∨ 35 + 6 * k ≤ a)) ∨ a = 137 ∨ a = 138 ∨ 1044 ≤ a → P a) : DT n m k N := by
  obtain ⟨zv, ld, lr, lv, ⟨nb, L, bd, b6⟩, ab⟩ := h
  have em : iV N m = iV M m := funext (fun j => u.i (hp m (by omega)))
  refine ⟨fun z hz => (zv z hz).of (fun a j a0 a1 => u.i (hp a (by omega))), ld.un u (fun j hj => hp _ (by have := ld.1.1; omega)), lr.sm u.1, by rw [em]; exact lv, ⟨nb, L, bd.un u (hp _ (by omega)) (hp _ (by omega)), b6⟩, fun j hj hk2 => by rw [u.i (hp _ (by omega))]; exact ab j hj hk2⟩
theorem DT.ex (h : DT n m k M) (x : Ex M N) (w : Wd M) (hb : N.1 ≤ 500000000) : DT n m k N := by
  obtain ⟨zv, ld, lr, lv, ⟨nb, L, bd, b6⟩, ab⟩ := h
  have m4 := w.1
  refine ⟨fun z hz => (zv z hz).of (fun a j a0 a1 => x.i (by omega)), ld.ex x hb, lr.ex x hb, by rw [lr.iv x]; exact lv, ⟨nb, L, bd.kq (P := fun _ => True) x.kq hb trivial trivial, b6⟩, fun j hj hk2 => by rw [x.i (by omega)]; exact ab j hj hk2⟩
end KPA
end
