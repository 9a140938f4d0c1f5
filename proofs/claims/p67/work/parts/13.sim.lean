section XSN
variable {B : Nat} {ad : Nat → Nat} {dA : Nat → ClassId} {D : va_G} {H0 : Heap} {O : Nat → Option va_E} {P : Nat → Option xMe} {xY : Nat → MethodName} {xB : Nat → ByteArray}
set_option maxHeartbeats 8000000 in
theorem xsim (hcf : ∀ (ci N : Nat) (C : String) (T : u_T), vwCl[ci]? = some (C, T, N) → xcf xW ci C T N (xTy ci)) (hV : ∀ (m : Nat) (me : xMe), P m = some me → xVm xY xB P m me) : ∀ f : Nat, xAt B ad dA D H0 O P xY xB f
  | 0 => fun d m me pc lv st h rv hF _ hg => by simp [xgo] at hg
  | f + 1 => by
    have ih := xsim hcf hV f
    intro d m me pc lv st h rv hF hP hg p l e R s mm args below meth c H locs cells slots Cf Sf Q ls hx hb hml hts hown hini hKK hXR hlocs hl hfr hlo hC hS hCR hSR hend
    have hVm := hV m me hP
    have hmono := xgo_mono _ _ _ _ _ _ _ _ _ hg
    rw [xgo, hP] at hg
    simp only at hg
    split at hg
    · cases hg
    rename_i en hen
    obtain ⟨v1, v2, v3, v4⟩ := hVm.2.2.2.2 _ (xfd_mem hen)
    dsimp only at v1 v2 v3 v4
    split at hg
    · -- a step within the method
      rename_i pc' lv' st' h' hnx
      have mo := xgo_mono _ _ _ _ _ _ _ _ _ hg
      unfold xnx at hnx
      split at hnx
      · rename_i hq
        cases hnx
        exact xs1_ok hx hb B ad v1 hq hl (fun ls' hl' => ih d m me _ _ _ _ rv hF hP hg p l e R s mm args below meth c H locs cells slots Cf Sf Q ls' hx hb hml hts hown hini hKK hXR hlocs hl' hfr hlo hC hS hCR hSR hend)
      · split at hnx
        · rename_i hq
          cases hnx
          have mq := xhs_mono hq
          obtain ⟨mc, hmc⟩ := Nat.le.dest mq.1
          obtain ⟨ms, hms⟩ := Nat.le.dest mq.2
          exact xhs_ok hcf hx hb hts hown hKK hXR hlocs (ini := (xY m).name == "<init>") (fun q => hini (by simpa using q)) v3 v1 hq hmc.symm hms.symm (by omega) (by omega) (fun H1 locs1 hX1 hl1 => ih d m me _ _ _ _ rv hF hP hg p l e R s mm args below meth c H1 locs1 (cells + mc) (slots + ms) Cf Sf Q ls hx hb hml hts hown hini hKK hX1 hl1 hl hfr hlo (by omega) (by omega) hCR hSR hend)
        · split at hnx
          · rename_i hq
            cases hnx
            exact xbr_ok hx hb B ad v1 v2 hq (ih d m me _ _ _ _ rv hF hP hg p l e R s mm args below meth c H locs cells slots Cf Sf Q ls hx hb hml hts hown hini hKK hXR hlocs hl hfr hlo hC hS hCR hSR hend)
          · cases hnx
    · split at hg
      · -- Object's constructor, arraycopy
        rename_i st' h' hna
        have mo := xgo_mono _ _ _ _ _ _ _ _ _ hg
        have mq := xna_mono hna
        have hgo := fun (mc ms : Nat) (e1 : h'.1 = h.1 + mc) (e2 : h'.2.1 = h.2.1 + ms) (H1 : Heap) (locs1 : List Loc) (hX1 : XR B ad dA D H0 h' H1) (hl1 : ∀ q ∈ locs1, B ≤ q.base) => ih d m me _ _ _ _ rv hF hP hg p l e R s mm args below meth c H1 locs1 (cells + mc) (slots + ms) Cf Sf Q ls hx hb hml hts hown hini hKK hX1 hl1 hl hfr hlo (by omega) (by omega) hCR hSR hend
        unfold xna at hna
        unfold xvc at v4
        split at hna
        · rename_i hi e1 e2 e3
          rw [e1] at v1 v4
          rw [e2] at v1
          rw [e3] at v4
          try dsimp only at v4
          split at hna
          · split at hna
            · rename_i hca
              cases hna
              refine W.objInit hx hb hown (hts _ v4.1) (hts _ v4.2.1) (hts _ v4.2.2) rfl (by rw [hml]; exact hl.1) rfl v1 (by omega) ?_ (hgo 0 0 rfl rfl H locs hXR hlocs)
              show 2 * 0 + ((List.map (xv B ad) _).map fun v => v.category).sum + 12 ≤ R.locals
              rw [xcat_conv]
              omega
            · cases hna
          · cases hna
        · rename_i hi e1 e2 e3
          rw [e1] at v1 v4
          rw [e2] at v1
          rw [e3] at v4
          try dsimp only at v4
          split at hna
          · rename_i n dp a1 sp a0 r hnn
            split at hna
            · rename_i x hcb
              split at hna
              · rename_i hca
                obtain ⟨u0, u3, u4⟩ := hca
                have hloc : ((r.map (xv B ad)).map fun v => v.category).sum + (nativeFrameWords "java/lang/System" "arraycopy" 5 + 11) ≤ R.locals := by
                  rw [xcat_conv]
                  have : nativeFrameWords "java/lang/System" "arraycopy" 5 = 7 := by decide
                  omega
                cases hna
                unfold xcb at hcb
                split at hcb
                · rename_i w0 w1
                  split at hcb
                  · rename_i hq
                    obtain ⟨q0, q1, q2, q3, q4, q5, q6, q7⟩ := hq
                    subst q0
                    subst q1
                    cases hcb
                    exact xr_cpb hx hb (by rw [hml]; exact hl.1.symm) hown (hts _ v4.1) (hts _ v4.2.1) (hts _ v4.2.2.1) (hts _ v4.2.2.2) hKK.1 hXR hKK.2.1 hlocs w0 u3 u4 w1 q2 q3 q4 q5 q6 q7 (by omega) hloc v1 (hgo 0 0 rfl rfl)
                  · cases hcb
                · cases hcb
              · cases hna
            · split at hna
              · rename_i hca
                obtain ⟨u0, u1, u2, u3, u4⟩ := hca
                have hloc : ((r.map (xv B ad)).map fun v => v.category).sum + (nativeFrameWords "java/lang/System" "arraycopy" 5 + 11) ≤ R.locals := by
                  rw [xcat_conv]
                  have : nativeFrameWords "java/lang/System" "arraycopy" 5 = 7 := by decide
                  omega
                split at hna
                · rename_i w0 w1
                  split at hna
                  · rename_i hq
                    obtain ⟨q0, q1, q2, q3, q4, q5, q6⟩ := hq
                    subst q1
                    subst q0
                    cases hna
                    exact xr_cpi hx hb (by rw [hml]; exact hl.1.symm) hown (hts _ v4.1) (hts _ v4.2.1) (hts _ v4.2.2.1) (hts _ v4.2.2.2) hKK.1 hXR hlocs u1 u2 w0 u3 u4 w1 q2 q3 q4 q5 q6 (by omega) hloc v1 (hgo 0 0 rfl rfl)
                  · cases hna
                · rename_i w0 w1
                  split at hna
                  · rename_i hq
                    obtain ⟨q0, q1, q2, q3, q4, q5, q6⟩ := hq
                    subst q1
                    subst q0
                    cases hna
                    exact xr_cpl hx hb (by rw [hml]; exact hl.1.symm) hown (hts _ v4.1) (hts _ v4.2.1) (hts _ v4.2.2.1) (hts _ v4.2.2.2) hKK.1 hXR hlocs u1 u2 w0 u3 u4 w1 q2 q3 q4 q5 q6 (by omega) hloc v1 (hgo 0 0 rfl rfl)
                  · cases hna
                · cases hna
              · cases hna
          · cases hna
        · rename_i hi e1 e2 e3
          rw [e1] at v1 v4
          rw [e2] at v1
          rw [e3] at v4
          try dsimp only at v4
          split at hna
          · rename_i k r hst
            split at hna
            · rename_i hca
              obtain ⟨u0, u1, u2, u3⟩ := hca
              split at hna
              · rename_i t n f hk
                split at hna
                · rename_i hq
                  obtain ⟨rfl, q1⟩ := hq
                  cases hna
                  have mo1 : h.1 + 1 ≤ hF.1 := mo.1
                  have mo2 : h.2.1 + n ≤ hF.2.1 := mo.2
                  exact xr_cln hx hb (by rw [hml]; exact hl.1.symm) hown (hts _ v4.1) (hts _ v4.2.1) (hts _ v4.2.2.1) (hts _ v4.2.2.2.1) (hts _ v4.2.2.2.2.1) (hKK.2.2.2.2.2 _ v4.2.2.2.2.2) hKK.1 hXR u1 u2 hk q1 (by omega) (by rw [xcat_conv]; omega) u3 (by omega) (by omega) v1 (fun H1 a => hgo 1 n rfl rfl H1 locs a hlocs)
                · cases hna
              · cases hna
            · cases hna
          · cases hna
        · cases hna
      · split at hg
        · -- a call
          rename_i m' av rest hca
          split at hg
          · cases hg
          rename_i d'
          split at hg
          · cases hg
          rename_i me' hP'
          split at hg
          · rename_i hlen
            split at hg
            · rename_i rv1 h1 hg1
              have hVc := hV m' me' hP'
              have mo1 := xgo_mono _ _ _ _ _ _ _ _ _ hg1
              have mo2 := xgo_mono _ _ _ _ _ _ _ _ _ hg
              obtain ⟨mc, hmc⟩ := Nat.le.dest mo1.1
              obtain ⟨ms, hms⟩ := Nat.le.dest mo1.2
              have hMet := xmet ih hP' hVc hlen hg1 l hmc.symm hms.symm
              have hgo := fun (H1 : Heap) (locs1 : List Loc) (hX1 : XR B ad dA D H0 h1 H1) (hl1 : ∀ q ∈ locs1, B ≤ q.base) => ih (d' + 1) m me _ _ _ _ rv hF hP hg p l e R s mm args below meth c H1 locs1 (cells + mc) (slots + ms) Cf Sf Q ls hx hb hml hts hown hini hKK hX1 hl1 hl hfr hlo (by omega) (by omega) hCR hSR hend
              have hroom : (xrm d' mc ms).frames + 1 ≤ R.frames ∧ 8 + (me'.2.1 + 11) + (xrm d' mc ms).locals ≤ R.locals := by
                have := hVc.2.2.2.1
                exact ⟨by show 2 * d' + 1 + 1 ≤ _; omega, by show 8 + (me'.2.1 + 11) + (d' + 1) * 200 ≤ _; omega⟩
              have hm1000 : m' < 1000 := xca_lt hca
              have hws := xWs_in (hVc.1 hm1000)
              have hfix : CallFix p mm c (xB m) me.2.1 s args xW (xY m).cls := ⟨hx, hb, hml, hown, hts⟩
              unfold xca at hca
              split at hca
              · rename_i hpre
                obtain ⟨z1, z0, z2, z3⟩ := hpre
                rw [z1] at v1
                have hW8 : ((List.map (xv B ad) (st.drop en.2.2.2.1)).map fun v => v.category).sum ≤ 8 := by rw [xcat_conv]; exact z3
                have hst := congrArg (List.map (xv B ad)) (xsplit st en.2.2.2.1)
                rw [List.map_append, List.map_reverse] at hst
                have hav : ((st.take en.2.2.2.1).reverse).length = en.2.2.2.1 := by rw [List.length_reverse, List.length_take]; omega
                unfold xvc at v4
                split at hca
                · -- static
                  rename_i i e1 e3
                  rw [e1] at v1 v4
                  rw [e3] at v4
                  try dsimp only at v4
                  cases hca
                  obtain ⟨g1, g2, g3, g4⟩ := v4
                  refine xr_call (va_runS (As := ((st.take en.2.2.2.1).reverse).map (xv B ad)) (rest := (st.drop en.2.2.2.1).map (xv B ad)) hfix hMet (va_cwS en.2.2.2.1 hts (xgoodIn (fun w hw => ?_)) rfl rfl rfl ⟨hVc.2.2.1.1, hVc.2.2.1.2, g4⟩ hroom) ⟨xPc_blind, fun U hU hW => ⟨rfl, by rw [hU]; exact hXR, hKK.warm hW⟩⟩ rfl (by rw [List.length_map]; exact hav) hl.1 hst (lv_room hW8) v1 ⟨by show cells + mc ≤ _; omega, by show slots + ms ≤ _; omega⟩) hlocs hgo
                  unfold va_wsS at hw
                  rcases List.mem_append.mp hw with q | q
                  · simp only [List.mem_cons, List.not_mem_nil, or_false] at q
                    rcases q with rfl | rfl | rfl
                    · exact g1
                    · exact g2
                    · exact g3
                  · exact hws w q
                · -- virtual
                  rename_i i e1 e3
                  rw [e1] at v1 v4
                  rw [e3] at v4
                  try dsimp only at v4
                  obtain ⟨g1, g2, g3, g4, g5, ⟨ci, g6, g7, r, g8, g9⟩, n, g10, g11⟩ := v4
                  split at hca
                  · rename_i k as hask
                    split at hca
                    · rename_i ci' fs hk
                      split at hca
                      · rename_i hci
                        cases hca
                        have hcc : ci' = ci := xci_eq (hci.1.trans g7) hci.2 g6
                        subst hcc
                        have hrecv := XR.recv hXR hKK.2.1 hKK.1 g8 hk
                        rw [g9] at hrecv
                        rw [hask] at hst hav
                        have hn : as.length = n := by simp only [List.length_cons] at hav; omega
                        refine xr_call (va_runV (As := as.map (xv B ad)) (rest := (st.drop en.2.2.2.1).map (xv B ad)) (b := xr B ad k) (C := (xY en.2.2.1).cls) hfix hMet (cwV n hts (xgoodInV g1 g2 g3 g4 g5 hws) rfl rfl rfl ⟨rfl, hVc.2.2.1.1, hVc.2.2.1.2, g11⟩ hroom) ⟨xPc_blind, hrecv, fun U hU hW => ⟨rfl, by rw [hU]; exact hXR, hKK.warm hW⟩⟩ rfl (by rw [List.length_map]; exact hn) hl.1 ?_ (lv_room hW8) v1 ⟨by show cells + mc ≤ _; omega, by show slots + ms ≤ _; omega⟩) hlocs hgo
                        rw [List.map_cons, List.reverse_cons, List.append_assoc] at hst
                        exact hst
                      · cases hca
                    · cases hca
                  · cases hca
                · -- inherited
                  rename_i i e1 e3
                  rw [e1] at v1 v4
                  rw [e3] at v4
                  try dsimp only at v4
                  obtain ⟨g1, g2, g3, g5, ⟨ci, g6, g7, r, g8, g9⟩, n, g10, g11⟩ := v4
                  split at hca
                  · rename_i k as hask
                    split at hca
                    · rename_i ci' fs hk
                      split at hca
                      · rename_i hci
                        cases hca
                        have hcc : ci' = ci := xci_eq (hci.1.trans g7) hci.2 g6
                        subst hcc
                        have hrecv := XR.recv hXR hKK.2.1 hKK.1 g8 hk
                        rw [hask] at hst hav
                        have hn : as.length = n := by simp only [List.length_cons] at hav; omega
                        refine xr_call (va_runU (As := as.map (xv B ad)) (rest := (st.drop en.2.2.2.1).map (xv B ad)) (b := xr B ad k) (C := r.1) (x := xY en.2.2.1) (owner := (xY en.2.2.1).cls) hfix hMet (va_cwU n hts (xgoodInU g1 g2 g9 g3 g5 hws) rfl rfl rfl rfl ⟨hVc.2.2.1.1, hVc.2.2.1.2, g11⟩ hroom) ⟨xPc_blind, hrecv, fun U hU hW => ⟨rfl, by rw [hU]; exact hXR, hKK.warm hW⟩⟩ rfl (by rw [List.length_map]; exact hn) hl.1 ?_ (lv_room hW8) v1 ⟨by show cells + mc ≤ _; omega, by show slots + ms ≤ _; omega⟩) hlocs hgo
                        rw [List.map_cons, List.reverse_cons, List.append_assoc] at hst
                        exact hst
                      · cases hca
                    · cases hca
                  · cases hca
                · -- overriding
                  rename_i i e1 e3
                  rw [e1] at v1 v4
                  rw [e3] at v4
                  try dsimp only at v4
                  obtain ⟨g1, g2, g3, g4, g5, ⟨b0, m0, r0, g0⟩, ⟨ci, g6, g7, r, g8, g9⟩, n, g10, g11⟩ := v4
                  split at hca
                  · rename_i k as hask
                    split at hca
                    · rename_i ci' fs hk
                      split at hca
                      · rename_i hci
                        cases hca
                        have hcc : ci' = ci := xci_eq (hci.1.trans g7) hci.2 g6
                        subst hcc
                        have hrecv := XR.recv hXR hKK.2.1 hKK.1 g8 hk
                        rw [hask] at hst hav
                        have hn : as.length = n := by simp only [List.length_cons] at hav; omega
                        refine xr_call (va_runU (As := as.map (xv B ad)) (rest := (st.drop en.2.2.2.1).map (xv B ad)) (b := xr B ad k) (C := r.1) (x := ⟨"java/lang/AbstractStringBuilder", (xY en.2.2.1).name, (xY en.2.2.1).desc⟩) (owner := "java/lang/AbstractStringBuilder") hfix hMet (va_cwO n hts (xgoodInO g1 g2 g3 g9 g4 g5 hws) rfl rfl rfl g0 ⟨by decide, by decide, g11⟩ hroom) ⟨xPc_blind, hrecv, fun U hU hW => ⟨rfl, by rw [hU]; exact hXR, hKK.warm hW⟩⟩ rfl (by rw [List.length_map]; exact hn) hl.1 ?_ (lv_room hW8) v1 ⟨by show cells + mc ≤ _; omega, by show slots + ms ≤ _; omega⟩) hlocs hgo
                        rw [List.map_cons, List.reverse_cons, List.append_assoc] at hst
                        exact hst
                      · cases hca
                    · cases hca
                  · cases hca
                · -- super
                  rename_i i e1 e3
                  rw [e1] at v1 v4
                  rw [e3] at v4
                  try dsimp only at v4
                  obtain ⟨g1, g2, g3, g4, g5, ⟨ci, g6, g7, r, g8⟩, g9, n, g10, g11⟩ := v4
                  split at hca
                  · rename_i k as hask
                    split at hca
                    · rename_i ci' fs hk
                      split at hca
                      · rename_i hci
                        cases hca
                        have hcc : ci' = ci := xci_eq (hci.1.trans g7) hci.2 g6
                        subst hcc
                        have hrecv := XR.recv hXR hKK.2.1 hKK.1 g8 hk
                        rw [hask] at hst hav
                        have hn : as.length = n := by simp only [List.length_cons] at hav; omega
                        refine xr_call (va_runSU (As := as.map (xv B ad)) (rest := (st.drop en.2.2.2.1).map (xv B ad)) (b := xr B ad k) (C := r.1) (hKK.1.1 _ _ g8).2 hfix hMet (va_cwSU n hts (xgoodInS g1 g2 g3 g4 g5 hws) rfl rfl rfl ⟨g9, g11⟩ hroom) ⟨xPc_blind, hrecv, fun U hU hW => ⟨rfl, by rw [hU]; exact hXR, hKK.warm hW⟩⟩ rfl (by rw [List.length_map]; exact hn) hl.1 ?_ (lv_room hW8) v1 ⟨by show cells + mc ≤ _; omega, by show slots + ms ≤ _; omega⟩) hlocs hgo
                        rw [List.map_cons, List.reverse_cons, List.append_assoc] at hst
                        exact hst
                      · cases hca
                    · cases hca
                  · cases hca
                · -- a constructor
                  rename_i i e1 e3
                  rw [e1] at v1 v4
                  rw [e3] at v4
                  try dsimp only at v4
                  obtain ⟨g1, g2, g3, g4, g5, n, g10, g11⟩ := v4
                  split at hca
                  · rename_i k as hask
                    cases hca
                    have hret := g5 me' hP'
                    rw [hask] at hst hav
                    have hn : as.length = n := by simp only [List.length_cons] at hav; omega
                    rw [show xWs xY xB en.2.2.1 me' = Jvm.Cond.code (xY en.2.2.1) (xB en.2.2.1) me'.2.1 me'.2.2 :: xW from rfl, hret] at hMet hws
                    refine xr_call (va_runI (As := as.map (xv B ad)) (rest := (st.drop en.2.2.2.1).map (xv B ad)) (b := xr B ad k) hfix hMet (cwI n hts (xgoodIn hws) rfl rfl rfl (hts _ g3) (hts _ g1) (hts _ g2) g4 ⟨hVc.2.2.1.1, hVc.2.2.1.2, g11⟩ hroom) ⟨xPc_blind, fun U hU hW => ⟨rfl, by rw [hU]; exact hXR, hKK.warm hW⟩⟩ rfl (by rw [List.length_map]; exact hn) hl.1 ?_ (lv_room hW8) v1 ⟨by show cells + mc ≤ _; omega, by show slots + ms ≤ _; omega⟩) hlocs hgo
                    rw [List.map_cons, List.reverse_cons, List.append_assoc] at hst
                    exact hst
                  · cases hca
                · -- a nest mate's constructor
                  rename_i i e1 e3
                  rw [e1] at v1 v4
                  rw [e3] at v4
                  try dsimp only at v4
                  obtain ⟨⟨host, g1⟩, g2, g3, g4, g5, n, g10, g11⟩ := v4
                  split at hca
                  · rename_i k as hask
                    cases hca
                    have hret := g5 me' hP'
                    rw [hask] at hst hav
                    have hn : as.length = n := by simp only [List.length_cons] at hav; omega
                    rw [show xWs xY xB en.2.2.1 me' = Jvm.Cond.code (xY en.2.2.1) (xB en.2.2.1) me'.2.1 me'.2.2 :: xW from rfl, hret] at hMet hws
                    refine xr_call (va_runIN (As := as.map (xv B ad)) (rest := (st.drop en.2.2.2.1).map (xv B ad)) (b := xr B ad k) (host := host) hfix hMet ⟨va_cnB n hts (xgoodIn hws) rfl rfl rfl (hKK.2.2.2.2.2 _ g1) (hts _ g3) ⟨hVc.2.2.1.1, hVc.2.2.1.2, g11⟩ hroom, g4, hts _ g2⟩ ⟨xPc_blind, fun U hU hW => ⟨rfl, by rw [hU]; exact hXR, hKK.warm hW⟩⟩ rfl (by rw [List.length_map]; exact hn) hl.1 ?_ (lv_room hW8) v1 ⟨by show cells + mc ≤ _; omega, by show slots + ms ≤ _; omega⟩) hlocs hgo
                    rw [List.map_cons, List.reverse_cons, List.append_assoc] at hst
                    exact hst
                  · cases hca
                · cases hca
              · cases hca
            · cases hg
          · cases hg
        · split at hg
          · rename_i rv' hre
            cases hg
            have e1 : Cf = cells := by omega
            have e2 : Sf = slots := by omega
            subst e1
            subst e2
            exact hend pc ls H locs en.1 en.2.1 st v1 hre hXR hlocs
          · cases hg
end XSN
