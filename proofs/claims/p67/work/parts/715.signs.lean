/-! draft 715.signs -/
section
/-! ===== the reader's signs ===== -/
section RSN
variable {O : Nat → Option va_E} {f : Nat} {M N : xM} {T A B W : List Int} {i x : Int} {γ : Type}
theorem sa_in (h : Wd M) (r : RD M T) (h0 : 0 ≤ i) (h1 : i < T.length) : f_Reader_signAt O f 134 i M = some (T.getD i.toNat 0, M) := by
  obtain ⟨r1, r2, r3, r4⟩ := r
  have c := r4 _ (getD_mem (show i.toNat < T.length by omega))
  obtain ⟨z, ez⟩ := Int.eq_ofNat_of_zero_le c.1
  have a := asc z (by omega)
  unfold f_Reader_signAt
  rw [lt_F h0 (by omega) (by omega), a_Reader_length h, r1, le_F (by omega) (by omega) (by omega), a_Reader_text h, n_Reader_text h, le_F (by omega) (by omega) (by omega), a_Reader_text h, r_Reader_text h h0 (by omega), r3 i.toNat (by omega), ez, if_pos a.2.1]
theorem sa_out (h : Wd M) (r : RD M T) (h1 : (T.length : Int) ≤ i) (h2 : i ≤ 2147483647) : f_Reader_signAt O f 134 i M = some (32, M) := by
  obtain ⟨r1, r2, r3, r4⟩ := r
  unfold f_Reader_signAt
  rw [lt_F (by omega) (by omega) (by omega), a_Reader_length h, r1, le_T h1 (by omega) h2, if_pos (by decide)]
theorem rd_i {a j : Nat} (r : RD M T) (ha : a ≠ 136) (hj : a ≠ 134 ∨ j ≠ 0) : RD (iS M a j x) T := by
  obtain ⟨r1, r2, r3, r4⟩ := r
  exact ⟨by rw [iV_o (by omega)]; exact r1, r2, fun k hk => by rw [iV_o (by omega)]; exact r3 k hk, r4⟩
theorem gd_mid {k : Nat} (h : k < W.length) : (A ++ (W ++ B)).getD (A.length + k) 0 = W.getD k 0 := by
  rw [gd_app, if_neg (by omega), Nat.add_sub_cancel_left, gd_app, if_pos h]
theorem gd_aft {k : Nat} : (A ++ (W ++ B)).getD (A.length + (W.length + k)) 0 = B.getD k 0 := by
  rw [gd_app, if_neg (by omega), Nat.add_sub_cancel_left, gd_app, if_neg (by omega), Nat.add_sub_cancel_left]
/-! a space, or none, is passed -/
theorem g8_sp {n : Nat} {e : Int} (h : Wd M) (r : RD M T) (es : iV M 134 3 = e) (e0 : 0 ≤ e) (e1 : e < T.length) (c : T.getD e.toNat 0 = 32) : f_Reader_goOn_8 O f (n + 1) 134 M = f_Reader_goOn_8 O f n 134 (iS M 134 3 (e + 1)) := by
  have r1 := r.1
  have r2 := r.2.1
  show Option.bind (gJ O M 134 8 3) _ = _
  rw [a_Reader_start h, a_Reader_length h, es, r1, le_F (by omega) (by omega) (by omega), a_Reader_start h, es, a_Reader_is h, sa_in h r e0 e1, xcl_e, c, eq_T rfl, a_Reader_start h, es, p_Reader_start h]
theorem g8_no {n : Nat} {e : Int} (h : Wd M) (r : RD M T) (es : iV M 134 3 = e) (e0 : 0 ≤ e) (e1 : e < T.length) (c : T.getD e.toNat 0 ≠ 32) : f_Reader_goOn_8 O f (n + 1) 134 M = f_Reader_goOn_45 O f 134 M := by
  have r1 := r.1
  have r2 := r.2.1
  have cr := r.2.2.2 _ (getD_mem (show e.toNat < T.length by omega))
  show Option.bind (gJ O M 134 8 3) _ = _
  rw [a_Reader_start h, a_Reader_length h, es, r1, le_F (by omega) (by omega) (by omega), a_Reader_start h, es, a_Reader_is h, sa_in h r e0 e1, xcl_e, eq_F c (by omega) (by omega) (by omega) (by omega)]
theorem g8_end {n : Nat} {e : Int} (h : Wd M) (r : RD M T) (es : iV M 134 3 = e) (e1 : e = T.length) : f_Reader_goOn_8 O f (n + 1) 134 M = f_Reader_goOn_45 O f 134 M := by
  have r1 := r.1
  have r2 := r.2.1
  show Option.bind (gJ O M 134 8 3) _ = _
  rw [a_Reader_start h, a_Reader_length h, es, r1, le_T (by omega) (by omega) (by omega)]
/-! letters are passed -/
theorem g131 : ∀ (r t e : Nat) (M : xM), Wd M → RD M T → iV M 134 4 = (e : Int) → iV M 134 5 = 0 → (∀ j : Nat, e ≤ j → j < e + r → 97 ≤ T.getD j 0 ∧ T.getD j 0 ≤ 122) → e + r ≤ T.length → (e + r = T.length ∨ T.getD (e + r) 0 < 97) → r < t → 1 ≤ f → ∃ N, f_Reader_goOn_131 O f t 134 M = some ((), N) ∧ Wd N ∧ RD N T ∧ iV N 134 4 = ((e + r : Nat) : Int) ∧ (∀ j : Nat, j ≠ 4 → iV N 134 j = iV M 134 j) ∧ Un (fun a => a ≠ 134) M N := by
  intro r
  induction r with
  | zero =>
    intro t e M h rd ee tk _ le nx ht hf
    obtain ⟨t, rfl⟩ : ∃ n', t = n' + 1 := ⟨t - 1, by omega⟩
    obtain ⟨g, rfl⟩ : ∃ n', f = n' + 1 := ⟨f - 1, by omega⟩
    have r1 := rd.1
    have r2 := rd.2.1
    have q188 : f_Reader_goOn_188 O (g + 1) (g + 1) 134 M = some ((), M) := by
      show Option.bind (gJ O M 134 8 5) _ = _
      rw [a_Reader_token h, tk, eq_F (by omega) (by omega) (by omega) (by omega) (by omega)]
    refine ⟨M, ?_, h, rd, ee, fun _ _ => rfl, Un.rf⟩
    show Option.bind (gJ O M 134 8 5) _ = _
    rw [a_Reader_token h, tk, eq_T rfl, a_Reader_end h, ee, a_Reader_length h, r1]
    rcases nx with nx | nx
    · rw [le_T (by omega) (by omega) (by omega), q188]
    · by_cases c : e + 0 = T.length
      · rw [le_T (by omega) (by omega) (by omega), q188]
      · have cr := rd.2.2.2 _ (getD_mem (show e < T.length by omega))
        rw [Nat.add_zero] at nx
        rw [le_F (by omega) (by omega) (by omega), a_Reader_end h, ee, a_Reader_is h, sa_in h rd (by omega) (by omega), xcl_e, Int.toNat_natCast, lt_T nx (by omega) (by omega), q188]
  | succ r ih =>
    intro t e M h rd ee tk ls le nx ht hf
    obtain ⟨t, rfl⟩ : ∃ n', t = n' + 1 := ⟨t - 1, by omega⟩
    have r1 := rd.1
    have r2 := rd.2.1
    have c := ls e (by omega) (by omega)
    obtain ⟨E, eE⟩ : ∃ E, E = iS M 134 4 ((e : Int) + 1) := ⟨_, rfl⟩
    have wE : Wd E := by rw [eE]; exact h
    have dE : RD E T := by rw [eE]; exact rd_i rd (by omega) (by omega)
    have oE : ∀ j : Nat, j ≠ 4 → iV E 134 j = iV M 134 j := fun j hj => by rw [eE, iV_o (by omega)]
    have uE : Un (fun a => a ≠ 134) M E := by rw [eE]; exact Un.rf.iS (by (try dsimp only); omega)
    obtain ⟨N, eN, wN, dN, n4, nO, uN⟩ := ih t (e + 1) E wE dE (by rw [eE, iV_s (by omega) (by omega)]; omega) (by rw [oE 5 (by decide)]; exact tk) (fun j h1 h2 => ls j (by omega) (by omega)) (by omega) (by rw [show e + 1 + r = e + (r + 1) by omega]; exact nx) (by omega) hf
    refine ⟨N, ?_, wN, dN, by rw [n4]; omega, fun j hj => by rw [nO j hj, oE j hj], uE.tr uN⟩
    show Option.bind (gJ O M 134 8 5) _ = _
    rw [a_Reader_token h, tk, eq_T rfl, a_Reader_end h, ee, a_Reader_length h, r1, le_F (by omega) (by omega) (by omega), a_Reader_end h, ee, a_Reader_is h, sa_in h rd (by omega) (by omega), xcl_e, Int.toNat_natCast, lt_F c.1 (by omega) (by omega), a_Reader_end h, ee, a_Reader_is h, sa_in h rd (by omega) (by omega), xcl_e, Int.toNat_natCast, lt_F c.2 (by omega) (by omega), a_Reader_end h, ee, p_Reader_end h, ← eE]
    exact eN
end RSN
end
