set_option maxRecDepth 100000 in
set_option maxHeartbeats 4000000 in
theorem m_X9_put {D : va_G} {cA : Nat → ClassId} {S : List AbS} {M : AbM} {m : Nat} {a : St} (B_t : shMo S m) (H : MRel a M m) {x y : Int} : Meth yX9_put cX9_put 6 (some .int) rmX9_put D cA S [vP m, vI x, vI y] M (qI fun q M2 => same (MP m) M M2 ∧ ∃ b, oPut a x y q b ∧ MRel b M2 m) := by
  refine ab_intro (lv := [vP m, vI x, vI y, vU, vU, vU]) (by decide +kernel) rfl (Nat.le_of_ble_eq_true rfl) ?_
  intro hO hargs K hKD hKA C r
  have C : Cx K cX9_put RX9 rmX9_put := C
  have i_x : inI x := hargs _ (List.mem_cons_of_mem _ (List.mem_cons_self))
  have i_y : inI y := hargs _ (List.mem_cons_of_mem _ (List.mem_cons_of_mem _ (List.mem_cons_self)))
  obtain ⟨s_t, s_t_words, s_t_begins, s_t_squares, s_t_lengths, s_t_numbers, s_t_made, s_t_tape, s_t_rows, s_t_leads, s_t_otherRows, s_t_otherLeads, s_t_row, s_t_equations, s_t_firsts, s_t_sum, s_t_lanes, s_t_sizes, s_t_items⟩ := id B_t
  obtain ⟨A_t, hLw, hR, ⟨hSm, hSm0⟩, hTp, hSh⟩ := id H
  obtain ⟨⟨n1, n2, hPr⟩, m_n, m_p, m_L, m_w⟩ := id A_t
  obtain ⟨p1, p2, -⟩ := id hPr
  have hLB := Lg_B a.n
  obtain ⟨wL, bL, -⟩ := m_w (Lg a.n) (by omega) (Int.le_refl _)
  have hBL := sz_B n1 n2 (show 0 ≤ Lg a.n by omega) (Int.le_refl _)
  have ecn : cntF (fun z => M (m + 15) (wsm a.n (Lg a.n) + z)) (pw a.n (Lg a.n)) = cntF (fun w => a.sum (wsm a.n (Lg a.n) + w)) (pw a.n (Lg a.n)) := cntF_congr (fun w u v => by rw [(hSm.1 _ (by omega) (by omega)).1])
  have cnB := cntF_B (f := fun w => a.sum (wsm a.n (Lg a.n) + w)) (N := pw a.n (Lg a.n)) (by omega)
  refine ab_iload_n C dX9_put_0 rfl rfl ?_
  refine ab_i2l C dX9_put_1 ?_
  refine ab_lconst (n := 0) C dX9_put_2 (by decide) (by decide +kernel) ?_
  refine ab_lconst (n := 1) C dX9_put_3 (by decide) (by decide +kernel) ?_
  refine ab_callS C cl_RX9_90 (m_X9_in) (by decide) rfl rfl (Nat.le_of_ble_eq_true rfl) dX9_put_4 (ab_kI (fun r_4 M_4 h_4 => ?_))
  obtain ⟨rfl, rfl⟩ := h_4
  refine ab_if_eq (tgt := 26) C dX9_put_7 rfl (fun h_7 => ?_) (fun h_7 => ?_)
  · skip
    have hx := b01_eq h_7
    refine ab_iconst C dX9_put_26 (by decide) ?_
    refine ab_iret (st := []) C r dX9_put_27 ?_
    refine ⟨_, rfl, same_rf _ _, a, Or.inl ⟨fun z => ?_, rfl, rfl⟩, H⟩
    first
    | exact hx z.1
    | exact hy ⟨z.2.1, by have := z.2.2; omega⟩
  · skip
    have hx := b01_ne h_7
    refine ab_iload_n C dX9_put_10 rfl rfl ?_
    refine ab_i2l C dX9_put_11 ?_
    refine ab_lconst (n := 0) C dX9_put_12 (by decide) (by decide +kernel) ?_
    refine ab_aload_n C dX9_put_13 rfl rfl ?_
    refine gf_RX9_7 C s_t rfl dX9_put_14 ?_
    rw [m_n]
    refine ab_iconst C dX9_put_17 (by decide) ?_
    refine ab_isub C dX9_put_18 (by omega) ?_
    refine ab_i2l C dX9_put_19 ?_
    refine ab_callS C cl_RX9_90 (m_X9_in) (by decide) rfl rfl (Nat.le_of_ble_eq_true rfl) dX9_put_20 (ab_kI (fun r_20 M_20 h_20 => ?_))
    obtain ⟨rfl, rfl⟩ := h_20
    refine ab_if_ne (tgt := 28) C dX9_put_23 rfl (fun h_23 => ?_) (fun h_23 => ?_)
    · skip
      have hy := b01_ne h_23
      refine ab_aload_n C dX9_put_28 rfl rfl ?_
      refine gf_RX9_64 C s_t rfl dX9_put_29 ?_
      refine ab_aload_n C dX9_put_32 rfl rfl ?_
      refine gf_RX9_23 C s_t rfl dX9_put_33 ?_
      refine ab_aload_n C dX9_put_36 rfl rfl ?_
      refine gf_RX9_16 C s_t rfl dX9_put_37 ?_
      rw [m_L]
      refine ab_iaload C s_t_begins (by omega) (by omega) dX9_put_40 ?_
      rw [bL]
      refine ab_aload_n C dX9_put_41 rfl rfl ?_
      refine gf_RX9_19 C s_t rfl dX9_put_42 ?_
      refine ab_aload_n C dX9_put_45 rfl rfl ?_
      refine gf_RX9_16 C s_t rfl dX9_put_46 ?_
      rw [m_L]
      refine ab_iaload C s_t_words (by omega) (by omega) dX9_put_49 ?_
      rw [wL]
      refine ab_callS C cl_RX9_178 (m_X9_termsOf s_t_sum (by omega) (by omega) (by omega) (by omega)) (by decide) rfl rfl (Nat.le_of_ble_eq_true rfl) dX9_put_50 (ab_kI (fun r_50 M_50 h_50 => ?_))
      obtain ⟨rfl, rfl⟩ := h_50
      rw [ecn]
      refine ab_if_le (tgt := 59) C dX9_put_53 rfl (fun h_53 => ?_) (fun h_53 => ?_)
      · skip
        refine ab_aload_n C dX9_put_59 rfl rfl ?_
        refine gf_RX9_16 C s_t rfl dX9_put_60 ?_
        rw [m_L]
        refine ab_istore3 (lv := []) C rfl dX9_put_63 ?_
        refine ab_loopM (fun (u : Int × AbM × AbV × AbV) => AJ K S 64 [vP m, vI x, vI y, vI u.1, u.2.2.1, u.2.2.2] [] u.2.1) (fun u => (-1 ≤ u.1 ∧ u.1 ≤ Lg a.n) ∧ same [m + 15] M u.2.1 ∧ (∀ e, u.1 < e → e ≤ Lg a.n → ∀ z, 0 ≤ z → z < pw a.n e → u.2.1 (m + 15) (wsm a.n e + z) = putV a x y e z) ∧ (∀ j, j < wsm a.n (u.1 + 1) → u.2.1 (m + 15) j = M (m + 15) j) ∧ (∀ j, wsm a.n (Lg a.n + 1) ≤ j → u.2.1 (m + 15) j = M (m + 15) j)) (fun u => (u.1 + 1).toNat) ?_ (Lg a.n, M, vU, vU) ⟨⟨by dsimp only; omega, Int.le_refl _⟩, same_rf _ _, fun e x y => by dsimp only at x; omega, fun j _ => rfl, fun j _ => rfl⟩
        · intro u hI ih
          obtain ⟨d, M5, y4, y5⟩ := u
          obtain ⟨⟨da, db⟩, hs5, kA, kB, kC⟩ := hI
          dsimp only at da db hs5 kA kB kC ih ⊢
          refine ab_iload_n C dX9_put_64 rfl rfl ?_
          refine ab_if_lt (tgt := 196) C dX9_put_65 rfl (fun h_65 => ?_) (fun h_65 => ?_)
          · skip
            refine ab_aload_n C dX9_put_196 rfl rfl ?_
            refine gf_RX9_64 C s_t rfl dX9_put_197 ?_
            refine ab_iconst C dX9_put_200 (by decide) ?_
            refine ab_sipush C dX9_put_201 (by decide) (by decide +kernel) ?_
            refine ab_callS C cl_RX9_178 (m_X9_termsOf s_t_sum (by omega) (by omega) (by omega) (by omega)) (by decide) rfl rfl (Nat.le_of_ble_eq_true rfl) dX9_put_204 (ab_kI (fun r_204 M_204 h_204 => ?_))
            obtain ⟨rfl, rfl⟩ := h_204
            refine ab_iret (st := []) C r dX9_put_207 ?_
            have ed : d = -1 := by omega
            subst ed
            have htot := wsm_tot n1 n2
            have hPS : PutS a x y (M5 (m + 15)) := ⟨fun e e0 e1 w w0 w1 => kA e (by omega) e1 w w0 w1, fun j u v => by
              have hw0 : 0 ≤ wsm a.n (Lg a.n + 1) := by rw [← wsm_0 a.n]; exact wsm_le n1 (by omega) (by omega)
              rw [kC j u, (hSm.1 j (by omega) v).1]
              exact hSm.2 j u v⟩
            have hz4 : ∀ j, 364 ≤ j → j < 400 → M5 (m + 15) j = 0 := fun j u v => by
              rw [kC j (by omega)]; exact hSm0 j u v
            refine ⟨_, rfl, same_mono hs5 (by simp), a.setS (M5 (m + 15)), Or.inr (Or.inr ⟨⟨hx, hy.1, by omega⟩, by omega, _, hPS, ?_, rfl⟩), ?_⟩
            · exact cnt_400 (fun j x y => by rw [Int.zero_add]) (fun j x y => by rw [Int.zero_add]; exact hz4 j x y)
            · refine MRel.sum H hs5 ⟨fun j u v => ⟨rfl, ?_⟩, hPS.2⟩ hz4
              show 0 ≤ M5 (m + 15) j ∧ M5 (m + 15) j < a.p
              rcases (show j < wsm a.n (Lg a.n + 1) ∨ wsm a.n (Lg a.n + 1) ≤ j by omega) with q | q
              · obtain ⟨e, w, e0, e1, w0, w1, rfl⟩ := place u q
                rw [hPS.1 e e0 e1 w w0 w1]
                unfold putV
                have hBe := sz_B n1 n2 e0 e1
                by_cases z : 1 ≤ e ∧ (if x = 0 then w / pw a.n (e - 1) else w % a.n) = y
                · rw [if_pos z]
                  have hBe1 := sz_B n1 n2 (show 0 ≤ e - 1 by omega) (show e - 1 ≤ Lg a.n by omega)
                  obtain ⟨tl0, tl1, -⟩ := tail_B n1 z.1 w0 w1
                  obtain ⟨hd0, hd1, -⟩ := head_B n1 z.1 w0 w1
                  refine (hSm.1 _ ?_ ?_).2
                  · split <;> omega
                  · split <;> omega
                · rw [if_neg z]; omega
              · rw [hPS.2 j q v]; omega
          · skip
            obtain ⟨e_w, e_b, -⟩ := m_w d (by omega) (by omega)
            have hB := sz_B n1 n2 (show 0 ≤ d by omega) (show d ≤ Lg a.n by omega)
            refine ab_iconst C dX9_put_68 (by decide) ?_
            refine ab_istore4 (lv := []) C rfl dX9_put_69 ?_
            refine ab_loop (fun w (u : AbM × AbV) => AJ K S 71 [vP m, vI x, vI y, vI d, vI w, u.2] [] u.1) (fun w u => 0 ≤ w ∧ same [m + 15] M u.1 ∧ (∀ e, d < e → e ≤ Lg a.n → ∀ z, 0 ≤ z → z < pw a.n e → u.1 (m + 15) (wsm a.n e + z) = putV a x y e z) ∧ (∀ z, 0 ≤ z → z < w → u.1 (m + 15) (wsm a.n d + z) = putV a x y d z) ∧ (∀ j, j < wsm a.n d → u.1 (m + 15) j = M (m + 15) j) ∧ (∀ j, wsm a.n (Lg a.n + 1) ≤ j → u.1 (m + 15) j = M (m + 15) j)) (pw a.n d) ?_ 0 (M5, y5) (by omega) ⟨by omega, hs5, kA, fun z z0 z1 => by omega, fun j hj => kB j (by have := wsm_s (n := a.n) (d := d) (by omega); omega), kC⟩
            · intro w u hw hI ihw
              obtain ⟨M6, y5⟩ := u
              obtain ⟨w0, hs6, kA, kD, kB, kC⟩ := hI
              dsimp only at hs6 kA kD kB kC ihw ⊢
              have t1 : M6 (m + 1) d = pw a.n d := by rw [hs6 (m + 1) (by simp), e_w]
              have t2 : M6 (m + 2) d = wsm a.n d := by rw [hs6 (m + 2) (by simp), e_b]
              have tn : M6 m 0 = a.n := by rw [hs6 m (by simp), m_n]
              refine ab_iload C dX9_put_71 rfl ?_
              refine ab_aload_n C dX9_put_73 rfl rfl ?_
              refine gf_RX9_19 C s_t rfl dX9_put_74 ?_
              refine ab_iload_n C dX9_put_77 rfl rfl ?_
              refine ab_iaload C s_t_words (by omega) (by omega) dX9_put_78 ?_
              rw [t1]
              refine ab_icmp_ge (tgt := 190) C dX9_put_79 rfl (fun h_79 => ?_) (fun h_79 => ?_)
              · skip
                refine ab_iinc3 (lv := []) C rfl dX9_put_190 (by omega) ?_
                refine ab_goto (tgt := 64) C dX9_put_193 rfl ?_
                have ew : w = pw a.n d := by omega
                subst ew
                refine ih (d + -1, M6, _, _) (by dsimp only; omega) ⟨⟨by dsimp only; omega, by dsimp only; omega⟩, hs6, fun e x0 x1 z z0 z1 => ?_, fun j hj => ?_, kC⟩
                · dsimp only at x0
                  show M6 (m + 15) _ = _
                  rcases (show d < e ∨ e = d by omega) with q | q
                  · exact kA e q x1 z z0 z1
                  · subst q; exact kD z z0 z1
                · dsimp only at hj
                  rw [show d + -1 + 1 = d by omega] at hj
                  exact kB j hj
              · skip
                refine ab_iload_n C dX9_put_82 rfl rfl ?_
                refine ab_if_le (tgt := 119) C dX9_put_83 rfl (fun h_83 => ?_) (fun h_83 => ?_)
                · skip
                  refine ab_iconst C dX9_put_119 (by decide) ?_
                  refine ab_istore5 (lv := []) C rfl dX9_put_120 ?_
                  refine ab_aload_n C dX9_put_122 rfl rfl ?_
                  refine gf_RX9_64 C s_t rfl dX9_put_123 ?_
                  refine ab_aload_n C dX9_put_126 rfl rfl ?_
                  refine gf_RX9_23 C s_t rfl dX9_put_127 ?_
                  refine ab_iload_n C dX9_put_130 rfl rfl ?_
                  refine ab_iaload C s_t_begins (by omega) (by omega) dX9_put_131 ?_
                  rw [t2]
                  refine ab_iload C dX9_put_132 rfl ?_
                  refine ab_iadd C dX9_put_134 (by omega) ?_
                  refine ab_iload C dX9_put_135 rfl ?_
                  refine ab_if_eq (tgt := 182) C dX9_put_137 rfl (fun h_137 => ?_) (fun h_137 => ?_)
                  · skip
                    refine ab_iconst C dX9_put_182 (by decide) ?_
                    refine ab_iastore C s_t_sum (by omega) (by omega) dX9_put_183 ?_
                    refine ab_iinc4 (lv := []) C rfl dX9_put_184 (by omega) ?_
                    refine ab_goto (tgt := 71) C dX9_put_187 rfl ?_
                    have hV : ∀ V, V = putV a x y d w → AJ K S 71 [vP m, vI x, vI y, vI d, vI (w + 1), vI 1] [] (up M6 (m + 15) (wsm a.n d + w) V) ∧ AJ K S 71 [vP m, vI x, vI y, vI d, vI (w + 1), vI 0] [] (up M6 (m + 15) (wsm a.n d + w) V) := fun V hV => by
                      obtain ⟨M7, hM7⟩ : ∃ M7, up M6 (m + 15) (wsm a.n d + w) V = M7 := ⟨_, rfl⟩
                      rw [hM7]
                      have ro : ∀ j, j ≠ wsm a.n d + w → M7 (m + 15) j = M6 (m + 15) j := fun j hj => by rw [← hM7, up_i hj]
                      have rs : M7 (m + 15) (wsm a.n d + w) = V := by rw [← hM7, up_s]
                      have s7 : same [m + 15] M6 M7 := by rw [← hM7]; exact same_up (by simp)
                      have key : ∀ u5 : AbV, AJ K S 71 [vP m, vI x, vI y, vI d, vI (w + 1), u5] [] M7 := fun u5 => by
                        refine ihw (M7, u5) (by omega) ⟨by omega, same_tr hs6 s7, fun e x0 x1 z z0 z1 => ?_, fun z z0 z1 => ?_, fun j hj => ?_, fun j hj => ?_⟩
                        · show M7 (m + 15) _ = _
                          have := wsm_le (n := a.n) n1 (show 0 ≤ d + 1 by omega) (show d + 1 ≤ e by omega)
                          rw [wsm_s (by omega)] at this
                          rw [ro _ (by omega)]
                          exact kA e x0 x1 z z0 z1
                        · show M7 (m + 15) _ = _
                          rcases (show z < w ∨ z = w by omega) with q | q
                          · rw [ro _ (by omega)]; exact kD z z0 q
                          · rw [q, rs]; exact hV
                        · show M7 (m + 15) j = _
                          rw [ro _ (by omega)]
                          exact kB j hj
                        · show M7 (m + 15) j = _
                          have := wsm_le (n := a.n) n1 (show 0 ≤ d + 1 by omega) (show d + 1 ≤ Lg a.n + 1 by omega)
                          rw [wsm_s (by omega)] at this
                          have hj : wsm a.n (Lg a.n + 1) ≤ j := hj
                          rw [ro _ (by omega)]
                          exact kC j hj
                      exact ⟨key _, key _⟩
                    first
                    | exact (hV _ (by unfold putV; rw [if_neg (fun z => absurd z.1 (by omega))])).2
                    | exact (hV _ (by unfold putV; rw [if_neg (fun z => h_112 (by have := z.2; rw [if_pos h_87] at this; exact this))])).2
                    | exact (hV _ (by unfold putV; rw [if_neg (fun z => h_112 (by have := z.2; rw [if_neg h_87] at this; exact this))])).2
                    | exact (hV _ (by unfold putV; rw [if_pos ⟨by omega, by rw [if_pos h_87]; exact h_112⟩, if_pos h_87, kB _ (by omega)]; exact (hSm.1 _ (by omega) (by omega)).1)).1
                    | exact (hV _ (by unfold putV; rw [if_pos ⟨by omega, by rw [if_neg h_87]; exact h_112⟩, if_neg h_87, kB _ (by omega)]; exact (hSm.1 _ (by omega) (by omega)).1)).1
                  · exact absurd h_137 (by decide)
                · skip
                  obtain ⟨f_w, f_b, -⟩ := m_w (d - 1) (by omega) (by omega)
                  have hB1 := sz_B n1 n2 (show 0 ≤ d - 1 by omega) (show d - 1 ≤ Lg a.n by omega)
                  have u1 : M6 (m + 1) (d - 1) = pw a.n (d - 1) := by rw [hs6 (m + 1) (by simp), f_w]
                  have u2 : M6 (m + 2) (d - 1) = wsm a.n (d - 1) := by rw [hs6 (m + 2) (by simp), f_b]
                  obtain ⟨tl0, tl1, -⟩ := tail_B n1 (show 1 ≤ d by omega) w0 (show w < pw a.n d by omega)
                  obtain ⟨hd0, hd1, -⟩ := head_B n1 (show 1 ≤ d by omega) w0 (show w < pw a.n d by omega)
                  have hws : wsm a.n (d - 1) + pw a.n (d - 1) = wsm a.n d := by have := wsm_s (n := a.n) (d := d - 1) (by omega); rw [show d - 1 + 1 = d by omega] at this; omega
                  refine ab_iload_n C dX9_put_86 rfl rfl ?_
                  refine ab_if_ne (tgt := 104) C dX9_put_87 rfl (fun h_87 => ?_) (fun h_87 => ?_)
                  · skip
                    refine ab_iload C dX9_put_104 rfl ?_
                    refine ab_aload_n C dX9_put_106 rfl rfl ?_
                    refine gf_RX9_7 C s_t rfl dX9_put_107 ?_
                    rw [tn]
                    refine ab_irem C dX9_put_110 (by omega) (by omega) ?_
                    refine ab_iload_n C dX9_put_111 rfl rfl ?_
                    refine ab_icmp_ne (tgt := 119) C dX9_put_112 rfl (fun h_112 => ?_) (fun h_112 => ?_)
                    · skip
                      refine ab_iconst C dX9_put_119 (by decide) ?_
                      refine ab_istore5 (lv := []) C rfl dX9_put_120 ?_
                      refine ab_aload_n C dX9_put_122 rfl rfl ?_
                      refine gf_RX9_64 C s_t rfl dX9_put_123 ?_
                      refine ab_aload_n C dX9_put_126 rfl rfl ?_
                      refine gf_RX9_23 C s_t rfl dX9_put_127 ?_
                      refine ab_iload_n C dX9_put_130 rfl rfl ?_
                      refine ab_iaload C s_t_begins (by omega) (by omega) dX9_put_131 ?_
                      rw [t2]
                      refine ab_iload C dX9_put_132 rfl ?_
                      refine ab_iadd C dX9_put_134 (by omega) ?_
                      refine ab_iload C dX9_put_135 rfl ?_
                      refine ab_if_eq (tgt := 182) C dX9_put_137 rfl (fun h_137 => ?_) (fun h_137 => ?_)
                      · skip
                        refine ab_iconst C dX9_put_182 (by decide) ?_
                        refine ab_iastore C s_t_sum (by omega) (by omega) dX9_put_183 ?_
                        refine ab_iinc4 (lv := []) C rfl dX9_put_184 (by omega) ?_
                        refine ab_goto (tgt := 71) C dX9_put_187 rfl ?_
                        have hV : ∀ V, V = putV a x y d w → AJ K S 71 [vP m, vI x, vI y, vI d, vI (w + 1), vI 1] [] (up M6 (m + 15) (wsm a.n d + w) V) ∧ AJ K S 71 [vP m, vI x, vI y, vI d, vI (w + 1), vI 0] [] (up M6 (m + 15) (wsm a.n d + w) V) := fun V hV => by
                          obtain ⟨M7, hM7⟩ : ∃ M7, up M6 (m + 15) (wsm a.n d + w) V = M7 := ⟨_, rfl⟩
                          rw [hM7]
                          have ro : ∀ j, j ≠ wsm a.n d + w → M7 (m + 15) j = M6 (m + 15) j := fun j hj => by rw [← hM7, up_i hj]
                          have rs : M7 (m + 15) (wsm a.n d + w) = V := by rw [← hM7, up_s]
                          have s7 : same [m + 15] M6 M7 := by rw [← hM7]; exact same_up (by simp)
                          have key : ∀ u5 : AbV, AJ K S 71 [vP m, vI x, vI y, vI d, vI (w + 1), u5] [] M7 := fun u5 => by
                            refine ihw (M7, u5) (by omega) ⟨by omega, same_tr hs6 s7, fun e x0 x1 z z0 z1 => ?_, fun z z0 z1 => ?_, fun j hj => ?_, fun j hj => ?_⟩
                            · show M7 (m + 15) _ = _
                              have := wsm_le (n := a.n) n1 (show 0 ≤ d + 1 by omega) (show d + 1 ≤ e by omega)
                              rw [wsm_s (by omega)] at this
                              rw [ro _ (by omega)]
                              exact kA e x0 x1 z z0 z1
                            · show M7 (m + 15) _ = _
                              rcases (show z < w ∨ z = w by omega) with q | q
                              · rw [ro _ (by omega)]; exact kD z z0 q
                              · rw [q, rs]; exact hV
                            · show M7 (m + 15) j = _
                              rw [ro _ (by omega)]
                              exact kB j hj
                            · show M7 (m + 15) j = _
                              have := wsm_le (n := a.n) n1 (show 0 ≤ d + 1 by omega) (show d + 1 ≤ Lg a.n + 1 by omega)
                              rw [wsm_s (by omega)] at this
                              have hj : wsm a.n (Lg a.n + 1) ≤ j := hj
                              rw [ro _ (by omega)]
                              exact kC j hj
                          exact ⟨key _, key _⟩
                        first
                        | exact (hV _ (by unfold putV; rw [if_neg (fun z => absurd z.1 (by omega))])).2
                        | exact (hV _ (by unfold putV; rw [if_neg (fun z => h_112 (by have := z.2; rw [if_pos h_87] at this; exact this))])).2
                        | exact (hV _ (by unfold putV; rw [if_neg (fun z => h_112 (by have := z.2; rw [if_neg h_87] at this; exact this))])).2
                        | exact (hV _ (by unfold putV; rw [if_pos ⟨by omega, by rw [if_pos h_87]; exact h_112⟩, if_pos h_87, kB _ (by omega)]; exact (hSm.1 _ (by omega) (by omega)).1)).1
                        | exact (hV _ (by unfold putV; rw [if_pos ⟨by omega, by rw [if_neg h_87]; exact h_112⟩, if_neg h_87, kB _ (by omega)]; exact (hSm.1 _ (by omega) (by omega)).1)).1
                      · exact absurd h_137 (by decide)
                    · skip
                      refine ab_iconst C dX9_put_115 (by decide) ?_
                      refine ab_goto (tgt := 120) C dX9_put_116 rfl ?_
                      refine ab_istore5 (lv := []) C rfl dX9_put_120 ?_
                      refine ab_aload_n C dX9_put_122 rfl rfl ?_
                      refine gf_RX9_64 C s_t rfl dX9_put_123 ?_
                      refine ab_aload_n C dX9_put_126 rfl rfl ?_
                      refine gf_RX9_23 C s_t rfl dX9_put_127 ?_
                      refine ab_iload_n C dX9_put_130 rfl rfl ?_
                      refine ab_iaload C s_t_begins (by omega) (by omega) dX9_put_131 ?_
                      rw [t2]
                      refine ab_iload C dX9_put_132 rfl ?_
                      refine ab_iadd C dX9_put_134 (by omega) ?_
                      refine ab_iload C dX9_put_135 rfl ?_
                      refine ab_if_eq (tgt := 182) C dX9_put_137 rfl (fun h_137 => ?_) (fun h_137 => ?_)
                      · exact absurd h_137 (by decide)
                      · skip
                        refine ab_aload_n C dX9_put_140 rfl rfl ?_
                        refine gf_RX9_64 C s_t rfl dX9_put_141 ?_
                        refine ab_aload_n C dX9_put_144 rfl rfl ?_
                        refine gf_RX9_23 C s_t rfl dX9_put_145 ?_
                        refine ab_iload_n C dX9_put_148 rfl rfl ?_
                        refine ab_iconst C dX9_put_149 (by decide) ?_
                        refine ab_isub C dX9_put_150 (by omega) ?_
                        refine ab_iaload C s_t_begins (by omega) (by omega) dX9_put_151 ?_
                        rw [u2]
                        refine ab_iload_n C dX9_put_152 rfl rfl ?_
                        refine ab_if_ne (tgt := 170) C dX9_put_153 rfl (fun h_153 => ?_) (fun h_153 => ?_)
                        · skip
                          refine ab_iload C dX9_put_170 rfl ?_
                          refine ab_aload_n C dX9_put_172 rfl rfl ?_
                          refine gf_RX9_7 C s_t rfl dX9_put_173 ?_
                          rw [tn]
                          refine ab_idiv C dX9_put_176 (by omega) (by omega) ?_
                          refine ab_iadd C dX9_put_177 (by omega) ?_
                          refine ab_iaload C s_t_sum (by omega) (by omega) dX9_put_178 ?_
                          refine ab_goto (tgt := 183) C dX9_put_179 rfl ?_
                          refine ab_iastore C s_t_sum (by omega) (by omega) dX9_put_183 ?_
                          refine ab_iinc4 (lv := []) C rfl dX9_put_184 (by omega) ?_
                          refine ab_goto (tgt := 71) C dX9_put_187 rfl ?_
                          have hV : ∀ V, V = putV a x y d w → AJ K S 71 [vP m, vI x, vI y, vI d, vI (w + 1), vI 1] [] (up M6 (m + 15) (wsm a.n d + w) V) ∧ AJ K S 71 [vP m, vI x, vI y, vI d, vI (w + 1), vI 0] [] (up M6 (m + 15) (wsm a.n d + w) V) := fun V hV => by
                            obtain ⟨M7, hM7⟩ : ∃ M7, up M6 (m + 15) (wsm a.n d + w) V = M7 := ⟨_, rfl⟩
                            rw [hM7]
                            have ro : ∀ j, j ≠ wsm a.n d + w → M7 (m + 15) j = M6 (m + 15) j := fun j hj => by rw [← hM7, up_i hj]
                            have rs : M7 (m + 15) (wsm a.n d + w) = V := by rw [← hM7, up_s]
                            have s7 : same [m + 15] M6 M7 := by rw [← hM7]; exact same_up (by simp)
                            have key : ∀ u5 : AbV, AJ K S 71 [vP m, vI x, vI y, vI d, vI (w + 1), u5] [] M7 := fun u5 => by
                              refine ihw (M7, u5) (by omega) ⟨by omega, same_tr hs6 s7, fun e x0 x1 z z0 z1 => ?_, fun z z0 z1 => ?_, fun j hj => ?_, fun j hj => ?_⟩
                              · show M7 (m + 15) _ = _
                                have := wsm_le (n := a.n) n1 (show 0 ≤ d + 1 by omega) (show d + 1 ≤ e by omega)
                                rw [wsm_s (by omega)] at this
                                rw [ro _ (by omega)]
                                exact kA e x0 x1 z z0 z1
                              · show M7 (m + 15) _ = _
                                rcases (show z < w ∨ z = w by omega) with q | q
                                · rw [ro _ (by omega)]; exact kD z z0 q
                                · rw [q, rs]; exact hV
                              · show M7 (m + 15) j = _
                                rw [ro _ (by omega)]
                                exact kB j hj
                              · show M7 (m + 15) j = _
                                have := wsm_le (n := a.n) n1 (show 0 ≤ d + 1 by omega) (show d + 1 ≤ Lg a.n + 1 by omega)
                                rw [wsm_s (by omega)] at this
                                have hj : wsm a.n (Lg a.n + 1) ≤ j := hj
                                rw [ro _ (by omega)]
                                exact kC j hj
                            exact ⟨key _, key _⟩
                          first
                          | exact (hV _ (by unfold putV; rw [if_neg (fun z => absurd z.1 (by omega))])).2
                          | exact (hV _ (by unfold putV; rw [if_neg (fun z => h_112 (by have := z.2; rw [if_pos h_87] at this; exact this))])).2
                          | exact (hV _ (by unfold putV; rw [if_neg (fun z => h_112 (by have := z.2; rw [if_neg h_87] at this; exact this))])).2
                          | exact (hV _ (by unfold putV; rw [if_pos ⟨by omega, by rw [if_pos h_87]; exact h_112⟩, if_pos h_87, kB _ (by omega)]; exact (hSm.1 _ (by omega) (by omega)).1)).1
                          | exact (hV _ (by unfold putV; rw [if_pos ⟨by omega, by rw [if_neg h_87]; exact h_112⟩, if_neg h_87, kB _ (by omega)]; exact (hSm.1 _ (by omega) (by omega)).1)).1
                        · skip
                          exact absurd h_153 h_87
                  · skip
                    refine ab_iload C dX9_put_90 rfl ?_
                    refine ab_aload_n C dX9_put_92 rfl rfl ?_
                    refine gf_RX9_19 C s_t rfl dX9_put_93 ?_
                    refine ab_iload_n C dX9_put_96 rfl rfl ?_
                    refine ab_iconst C dX9_put_97 (by decide) ?_
                    refine ab_isub C dX9_put_98 (by omega) ?_
                    refine ab_iaload C s_t_words (by omega) (by omega) dX9_put_99 ?_
                    rw [u1]
                    refine ab_idiv C dX9_put_100 (by omega) (by omega) ?_
                    refine ab_goto (tgt := 111) C dX9_put_101 rfl ?_
                    refine ab_iload_n C dX9_put_111 rfl rfl ?_
                    refine ab_icmp_ne (tgt := 119) C dX9_put_112 rfl (fun h_112 => ?_) (fun h_112 => ?_)
                    · skip
                      refine ab_iconst C dX9_put_119 (by decide) ?_
                      refine ab_istore5 (lv := []) C rfl dX9_put_120 ?_
                      refine ab_aload_n C dX9_put_122 rfl rfl ?_
                      refine gf_RX9_64 C s_t rfl dX9_put_123 ?_
                      refine ab_aload_n C dX9_put_126 rfl rfl ?_
                      refine gf_RX9_23 C s_t rfl dX9_put_127 ?_
                      refine ab_iload_n C dX9_put_130 rfl rfl ?_
                      refine ab_iaload C s_t_begins (by omega) (by omega) dX9_put_131 ?_
                      rw [t2]
                      refine ab_iload C dX9_put_132 rfl ?_
                      refine ab_iadd C dX9_put_134 (by omega) ?_
                      refine ab_iload C dX9_put_135 rfl ?_
                      refine ab_if_eq (tgt := 182) C dX9_put_137 rfl (fun h_137 => ?_) (fun h_137 => ?_)
                      · skip
                        refine ab_iconst C dX9_put_182 (by decide) ?_
                        refine ab_iastore C s_t_sum (by omega) (by omega) dX9_put_183 ?_
                        refine ab_iinc4 (lv := []) C rfl dX9_put_184 (by omega) ?_
                        refine ab_goto (tgt := 71) C dX9_put_187 rfl ?_
                        have hV : ∀ V, V = putV a x y d w → AJ K S 71 [vP m, vI x, vI y, vI d, vI (w + 1), vI 1] [] (up M6 (m + 15) (wsm a.n d + w) V) ∧ AJ K S 71 [vP m, vI x, vI y, vI d, vI (w + 1), vI 0] [] (up M6 (m + 15) (wsm a.n d + w) V) := fun V hV => by
                          obtain ⟨M7, hM7⟩ : ∃ M7, up M6 (m + 15) (wsm a.n d + w) V = M7 := ⟨_, rfl⟩
                          rw [hM7]
                          have ro : ∀ j, j ≠ wsm a.n d + w → M7 (m + 15) j = M6 (m + 15) j := fun j hj => by rw [← hM7, up_i hj]
                          have rs : M7 (m + 15) (wsm a.n d + w) = V := by rw [← hM7, up_s]
                          have s7 : same [m + 15] M6 M7 := by rw [← hM7]; exact same_up (by simp)
                          have key : ∀ u5 : AbV, AJ K S 71 [vP m, vI x, vI y, vI d, vI (w + 1), u5] [] M7 := fun u5 => by
                            refine ihw (M7, u5) (by omega) ⟨by omega, same_tr hs6 s7, fun e x0 x1 z z0 z1 => ?_, fun z z0 z1 => ?_, fun j hj => ?_, fun j hj => ?_⟩
                            · show M7 (m + 15) _ = _
                              have := wsm_le (n := a.n) n1 (show 0 ≤ d + 1 by omega) (show d + 1 ≤ e by omega)
                              rw [wsm_s (by omega)] at this
                              rw [ro _ (by omega)]
                              exact kA e x0 x1 z z0 z1
                            · show M7 (m + 15) _ = _
                              rcases (show z < w ∨ z = w by omega) with q | q
                              · rw [ro _ (by omega)]; exact kD z z0 q
                              · rw [q, rs]; exact hV
                            · show M7 (m + 15) j = _
                              rw [ro _ (by omega)]
                              exact kB j hj
                            · show M7 (m + 15) j = _
                              have := wsm_le (n := a.n) n1 (show 0 ≤ d + 1 by omega) (show d + 1 ≤ Lg a.n + 1 by omega)
                              rw [wsm_s (by omega)] at this
                              have hj : wsm a.n (Lg a.n + 1) ≤ j := hj
                              rw [ro _ (by omega)]
                              exact kC j hj
                          exact ⟨key _, key _⟩
                        first
                        | exact (hV _ (by unfold putV; rw [if_neg (fun z => absurd z.1 (by omega))])).2
                        | exact (hV _ (by unfold putV; rw [if_neg (fun z => h_112 (by have := z.2; rw [if_pos h_87] at this; exact this))])).2
                        | exact (hV _ (by unfold putV; rw [if_neg (fun z => h_112 (by have := z.2; rw [if_neg h_87] at this; exact this))])).2
                        | exact (hV _ (by unfold putV; rw [if_pos ⟨by omega, by rw [if_pos h_87]; exact h_112⟩, if_pos h_87, kB _ (by omega)]; exact (hSm.1 _ (by omega) (by omega)).1)).1
                        | exact (hV _ (by unfold putV; rw [if_pos ⟨by omega, by rw [if_neg h_87]; exact h_112⟩, if_neg h_87, kB _ (by omega)]; exact (hSm.1 _ (by omega) (by omega)).1)).1
                      · exact absurd h_137 (by decide)
                    · skip
                      refine ab_iconst C dX9_put_115 (by decide) ?_
                      refine ab_goto (tgt := 120) C dX9_put_116 rfl ?_
                      refine ab_istore5 (lv := []) C rfl dX9_put_120 ?_
                      refine ab_aload_n C dX9_put_122 rfl rfl ?_
                      refine gf_RX9_64 C s_t rfl dX9_put_123 ?_
                      refine ab_aload_n C dX9_put_126 rfl rfl ?_
                      refine gf_RX9_23 C s_t rfl dX9_put_127 ?_
                      refine ab_iload_n C dX9_put_130 rfl rfl ?_
                      refine ab_iaload C s_t_begins (by omega) (by omega) dX9_put_131 ?_
                      rw [t2]
                      refine ab_iload C dX9_put_132 rfl ?_
                      refine ab_iadd C dX9_put_134 (by omega) ?_
                      refine ab_iload C dX9_put_135 rfl ?_
                      refine ab_if_eq (tgt := 182) C dX9_put_137 rfl (fun h_137 => ?_) (fun h_137 => ?_)
                      · exact absurd h_137 (by decide)
                      · skip
                        refine ab_aload_n C dX9_put_140 rfl rfl ?_
                        refine gf_RX9_64 C s_t rfl dX9_put_141 ?_
                        refine ab_aload_n C dX9_put_144 rfl rfl ?_
                        refine gf_RX9_23 C s_t rfl dX9_put_145 ?_
                        refine ab_iload_n C dX9_put_148 rfl rfl ?_
                        refine ab_iconst C dX9_put_149 (by decide) ?_
                        refine ab_isub C dX9_put_150 (by omega) ?_
                        refine ab_iaload C s_t_begins (by omega) (by omega) dX9_put_151 ?_
                        rw [u2]
                        refine ab_iload_n C dX9_put_152 rfl rfl ?_
                        refine ab_if_ne (tgt := 170) C dX9_put_153 rfl (fun h_153 => ?_) (fun h_153 => ?_)
                        · skip
                          exact absurd h_87 h_153
                        · skip
                          refine ab_iload C dX9_put_156 rfl ?_
                          refine ab_aload_n C dX9_put_158 rfl rfl ?_
                          refine gf_RX9_19 C s_t rfl dX9_put_159 ?_
                          refine ab_iload_n C dX9_put_162 rfl rfl ?_
                          refine ab_iconst C dX9_put_163 (by decide) ?_
                          refine ab_isub C dX9_put_164 (by omega) ?_
                          refine ab_iaload C s_t_words (by omega) (by omega) dX9_put_165 ?_
                          rw [u1]
                          refine ab_irem C dX9_put_166 (by omega) (by omega) ?_
                          refine ab_goto (tgt := 177) C dX9_put_167 rfl ?_
                          refine ab_iadd C dX9_put_177 (by omega) ?_
                          refine ab_iaload C s_t_sum (by omega) (by omega) dX9_put_178 ?_
                          refine ab_goto (tgt := 183) C dX9_put_179 rfl ?_
                          refine ab_iastore C s_t_sum (by omega) (by omega) dX9_put_183 ?_
                          refine ab_iinc4 (lv := []) C rfl dX9_put_184 (by omega) ?_
                          refine ab_goto (tgt := 71) C dX9_put_187 rfl ?_
                          have hV : ∀ V, V = putV a x y d w → AJ K S 71 [vP m, vI x, vI y, vI d, vI (w + 1), vI 1] [] (up M6 (m + 15) (wsm a.n d + w) V) ∧ AJ K S 71 [vP m, vI x, vI y, vI d, vI (w + 1), vI 0] [] (up M6 (m + 15) (wsm a.n d + w) V) := fun V hV => by
                            obtain ⟨M7, hM7⟩ : ∃ M7, up M6 (m + 15) (wsm a.n d + w) V = M7 := ⟨_, rfl⟩
                            rw [hM7]
                            have ro : ∀ j, j ≠ wsm a.n d + w → M7 (m + 15) j = M6 (m + 15) j := fun j hj => by rw [← hM7, up_i hj]
                            have rs : M7 (m + 15) (wsm a.n d + w) = V := by rw [← hM7, up_s]
                            have s7 : same [m + 15] M6 M7 := by rw [← hM7]; exact same_up (by simp)
                            have key : ∀ u5 : AbV, AJ K S 71 [vP m, vI x, vI y, vI d, vI (w + 1), u5] [] M7 := fun u5 => by
                              refine ihw (M7, u5) (by omega) ⟨by omega, same_tr hs6 s7, fun e x0 x1 z z0 z1 => ?_, fun z z0 z1 => ?_, fun j hj => ?_, fun j hj => ?_⟩
                              · show M7 (m + 15) _ = _
                                have := wsm_le (n := a.n) n1 (show 0 ≤ d + 1 by omega) (show d + 1 ≤ e by omega)
                                rw [wsm_s (by omega)] at this
                                rw [ro _ (by omega)]
                                exact kA e x0 x1 z z0 z1
                              · show M7 (m + 15) _ = _
                                rcases (show z < w ∨ z = w by omega) with q | q
                                · rw [ro _ (by omega)]; exact kD z z0 q
                                · rw [q, rs]; exact hV
                              · show M7 (m + 15) j = _
                                rw [ro _ (by omega)]
                                exact kB j hj
                              · show M7 (m + 15) j = _
                                have := wsm_le (n := a.n) n1 (show 0 ≤ d + 1 by omega) (show d + 1 ≤ Lg a.n + 1 by omega)
                                rw [wsm_s (by omega)] at this
                                have hj : wsm a.n (Lg a.n + 1) ≤ j := hj
                                rw [ro _ (by omega)]
                                exact kC j hj
                            exact ⟨key _, key _⟩
                          first
                          | exact (hV _ (by unfold putV; rw [if_neg (fun z => absurd z.1 (by omega))])).2
                          | exact (hV _ (by unfold putV; rw [if_neg (fun z => h_112 (by have := z.2; rw [if_pos h_87] at this; exact this))])).2
                          | exact (hV _ (by unfold putV; rw [if_neg (fun z => h_112 (by have := z.2; rw [if_neg h_87] at this; exact this))])).2
                          | exact (hV _ (by unfold putV; rw [if_pos ⟨by omega, by rw [if_pos h_87]; exact h_112⟩, if_pos h_87, kB _ (by omega)]; exact (hSm.1 _ (by omega) (by omega)).1)).1
                          | exact (hV _ (by unfold putV; rw [if_pos ⟨by omega, by rw [if_neg h_87]; exact h_112⟩, if_neg h_87, kB _ (by omega)]; exact (hSm.1 _ (by omega) (by omega)).1)).1
      · skip
        refine ab_bipush C dX9_put_56 (by decide) (by decide +kernel) ?_
        refine ab_iret (st := []) C r dX9_put_58 ?_
        exact ⟨_, rfl, same_rf _ _, a, Or.inr (Or.inl ⟨⟨hx, hy.1, by omega⟩, by omega, rfl, rfl⟩), H⟩
    · skip
      have hy := b01_eq h_23
      refine ab_iconst C dX9_put_26 (by decide) ?_
      refine ab_iret (st := []) C r dX9_put_27 ?_
      refine ⟨_, rfl, same_rf _ _, a, Or.inl ⟨fun z => ?_, rfl, rfl⟩, H⟩
      first
      | exact hx z.1
      | exact hy ⟨z.2.1, by have := z.2.2; omega⟩
