set_option maxRecDepth 100000 in
set_option maxHeartbeats 4000000 in
theorem m_X9_find {D : va_G} {cA : Nat → ClassId} {S : List AbS} {M : AbM} {m : Nat} {n p : Int} (B_t : shMo S m) (A_t : MoA M m n p) (hL : LawsM n p M m) (hR : MRd n p M m) : Meth yX9_find cX9_find 4 none rmX9_find D cA S [vP m] M (qV fun M2 => same [m, m + 8, m + 9, m + 10, m + 11, m + 12] M M2 ∧ (∀ j, j ≠ 13 → j ≠ 14 → M2 m j = M m j) ∧ M2 m 13 ≠ 0 ∧ MRd n p M2 m) := by
  refine ab_intro (lv := [vP m, vU, vU, vU]) (by decide +kernel) rfl (Nat.le_of_ble_eq_true rfl) ?_
  intro hO hargs K hKD hKA C r
  have C : Cx K cX9_find RX9 rmX9_find := C
  obtain ⟨s_t, s_t_words, s_t_begins, s_t_squares, s_t_lengths, s_t_numbers, s_t_made, s_t_tape, s_t_rows, s_t_leads, s_t_otherRows, s_t_otherLeads, s_t_row, s_t_equations, s_t_firsts, s_t_sum, s_t_lanes, s_t_sizes, s_t_items⟩ := id B_t
  obtain ⟨⟨n1, n2, hPr⟩, m_n, m_p, m_L, m_w⟩ := id A_t
  obtain ⟨p1, p2, -⟩ := id hPr
  have hLB := Lg_B n
  obtain ⟨l0, l8, hLw⟩ := id hL
  refine ab_aload_n C dX9_find_0 rfl rfl ?_
  refine gf_RX9_82 C s_t rfl dX9_find_1 ?_
  refine ab_if_eq (tgt := 8) C dX9_find_4 rfl (fun h_4 => ?_) (fun h_4 => ?_)
  · skip
    refine ab_aload_n C dX9_find_8 rfl rfl ?_
    refine ab_iconst C dX9_find_9 (by decide) ?_
    refine pf_RX9_82 C (by omega) s_t rfl dX9_find_10 ?_
    refine ab_iconst C dX9_find_13 (by decide) ?_
    refine ab_istore1 (lv := []) C rfl dX9_find_14 ?_
    refine ab_loop (fun k (s : AbM × AbV × AbV) => AJ K S 15 [vP m, vI k, s.2.1, s.2.2] [] s.1) (fun k s => 0 ≤ k ∧ same [m, m + 8, m + 9, m + 10, m + 11] M s.1 ∧ s.1 m = up M m 13 1 m) 70000 ?_ 0 (up M m 13 1, vU, vU) (by omega) ⟨by omega, same_up (by simp), rfl⟩
    · intro k s hk hI ih
      obtain ⟨M5, y2, y3⟩ := s
      obtain ⟨k0, hs5, hm5⟩ := hI
      dsimp only at hs5 hm5 ih ⊢
      refine ab_iload_n C dX9_find_15 rfl rfl ?_
      refine ab_ldc (n := 70000) C gw799 dX9_find_16 (by decide) (by decide +kernel) ?_
      refine ab_icmp_ge (tgt := 41) C dX9_find_18 rfl (fun h_18 => ?_) (fun h_18 => ?_)
      · skip
        refine ab_iconst C dX9_find_41 (by decide) ?_
        refine ab_istore1 (lv := []) C rfl dX9_find_42 ?_
        refine ab_loop (fun k (s : AbM × AbV × AbV) => AJ K S 43 [vP m, vI k, s.2.1, s.2.2] [] s.1) (fun k s => 0 ≤ k ∧ same [m, m + 8, m + 9, m + 10, m + 11] M s.1 ∧ s.1 m = up M m 13 1 m ∧ ∀ j, 0 ≤ j → j < k → s.1 (m + 9) j = 0 ∧ s.1 (m + 11) j = 0) 400 ?_ 0 (M5, y2, y3) (by omega) ⟨by omega, hs5, hm5, fun j a b => by omega⟩
        · intro k s hk hI ih
          clear hs5 hm5 M5
          obtain ⟨M6, y2, y3⟩ := s
          obtain ⟨k0, hs6, hm6, hz6⟩ := hI
          dsimp only at hs6 hm6 hz6 ih ⊢
          refine ab_iload_n C dX9_find_43 rfl rfl ?_
          refine ab_sipush C dX9_find_44 (by decide) (by decide +kernel) ?_
          refine ab_icmp_ge (tgt := 70) C dX9_find_47 rfl (fun h_47 => ?_) (fun h_47 => ?_)
          · skip
            refine ab_iconst C dX9_find_70 (by decide) ?_
            refine ab_istore1 (lv := []) C rfl dX9_find_71 ?_
            obtain rfl : k = 400 := by omega
            have hLe : ∀ e, e < 2 → ∀ x, ¬ (LwD n e (M m 6) (M (m + 4)) (M (m + 5))) x := fun e he x hx => by
              obtain ⟨i, i0, i1, hi, -⟩ := hx
              have := (hLw i i0 i1).1
              omega
            have hle0 : ∀ e, 0 ≤ e → e ≤ Lg n → ∀ w, 0 ≤ w → w < pw n e → ldq n e (M6 (m + 9)) w = 0 := fun e e0 e1 w w0 w1 => by
              have hB := sz_B n1 n2 e0 e1
              exact (hz6 _ (by omega) (by omega)).1
            refine ab_loop (fun d (s : AbM × AbV × AbV) => AJ K S 72 [vP m, vI d, s.2.1, s.2.2] [] s.1) (fun d s => 2 ≤ d ∧ same [m + 8, m + 9, m + 12] M6 s.1 ∧ (∀ e, 0 ≤ e → e < d → DoneM n p e (s.1 (m + 8)) (s.1 (m + 9)) (LwD n e (M m 6) (M (m + 4)) (M (m + 5)))) ∧ ∀ x, wsm n d ≤ x → x < 400 → s.1 (m + 9) x = 0) (Lg n + 1) ?_ 2 (M6, y2, y3) (by omega) ⟨by omega, same_rf _ _, fun e e0 e1 => doneM_none n1 (hle0 e e0 (by omega)) (fun z => hle0 (e - 1) (by omega) (by omega)) (hLe e (by omega)), fun x x0 x1 => (hz6 x (by have := sz_B n1 n2 (show (0 : Int) ≤ 2 by omega) (show 2 ≤ Lg n by omega); omega) (by omega)).1⟩
            · intro d s hd hI ih
              obtain ⟨M7, z2, z3⟩ := s
              obtain ⟨d2, hs7, hD, hzz⟩ := hI
              dsimp only at hs7 hD hzz ih ⊢
              have r7m : M7 m = up M m 13 1 m := by rw [hs7 m (by simp), hm6]
              have tL : M7 m 2 = Lg n := by rw [r7m]; simp [up, m_L]
              have A7 : MoA M7 m n p := by
                unfold MoA
                rw [r7m, hs7 (m + 1) (by simp), hs7 (m + 2) (by simp), hs7 (m + 3) (by simp), hs6 (m + 1) (by simp), hs6 (m + 2) (by simp), hs6 (m + 3) (by simp)]
                exact ⟨⟨n1, n2, hPr⟩, by simp [up, m_n], by simp [up, m_p], by simp [up, m_L], m_w⟩
              refine ab_iload_n C dX9_find_72 rfl rfl ?_
              refine ab_aload_n C dX9_find_73 rfl rfl ?_
              refine gf_RX9_16 C s_t rfl dX9_find_74 ?_
              rw [tL]
              refine ab_icmp_gt (tgt := 190) C dX9_find_77 rfl (fun h_77 => ?_) (fun h_77 => ?_)
              · skip
                refine ab_aload_n C dX9_find_190 rfl rfl ?_
                refine ab_iconst C dX9_find_191 (by decide) ?_
                refine pf_RX9_150 C (by omega) s_t rfl dX9_find_192 ?_
                refine ab_vret (st := []) C r dX9_find_195 ?_
                have hsz : same [m, m + 8, m + 9, m + 10, m + 11, m + 12] M (up M7 m 14 0) := fun q hq => by
                  simp only [List.mem_cons, List.not_mem_nil, or_false, not_or] at hq
                  rw [up_row (by omega), hs7 q (by simp; omega), hs6 q (by simp; omega)]
                have e8 : up M7 m 14 0 (m + 8) = M7 (m + 8) := up_row (by omega)
                have e9 : up M7 m 14 0 (m + 9) = M7 (m + 9) := up_row (by omega)
                have e11 : up M7 m 14 0 (m + 11) = M6 (m + 11) := by rw [up_row (by omega), hs7 (m + 11) (by simp)]
                have e6 : up M7 m 14 0 m 6 = M m 6 := by simp [up, r7m]
                have e4 : up M7 m 14 0 (m + 4) = M (m + 4) := by rw [up_row (by omega), hs7 (m + 4) (by simp), hs6 (m + 4) (by simp)]
                have e5 : up M7 m 14 0 (m + 5) = M (m + 5) := by rw [up_row (by omega), hs7 (m + 5) (by simp), hs6 (m + 5) (by simp)]
                refine ⟨rfl, hsz, fun j j1 j2 => by simp [up, r7m, j1, j2], by simp [up, r7m], fun _ => ?_⟩
                rw [e8, e9, e11, e6, e4, e5]
                exact ⟨fun e a b => hD e a (by omega), fun _ j a b => (hz6 j a b).2, fun z => absurd (show up M7 m 14 0 m 14 = 0 by simp [up]) z⟩
              · skip
                have hB := sz_B n1 n2 (show 0 ≤ d by omega) (show d ≤ Lg n by omega)
                have hQd := sq_B n1 n2 (show 0 ≤ d by omega) (show d ≤ Lg n by omega)
                have hz7 : ∀ w, 0 ≤ w → w < pw n d → ldq n d (M7 (m + 9)) w = 0 := fun w w0 w1 => hzz _ (by omega) (by omega)
                have hE : EchOK n p d (M7 (m + 8)) (M7 (m + 9)) := fun w w0 w1 => ⟨Or.inl (hz7 w w0 w1), fun z => absurd (hz7 w w0 w1) z⟩
                obtain ⟨e_w, e_b, e_s⟩ := m_w d (by omega) (by omega)
                refine ab_aload_n C dX9_find_80 rfl rfl ?_
                refine ab_aload_n C dX9_find_81 rfl rfl ?_
                refine gf_RX9_42 C s_t rfl dX9_find_82 ?_
                refine ab_aload_n C dX9_find_85 rfl rfl ?_
                refine gf_RX9_45 C s_t rfl dX9_find_86 ?_
                refine ab_iload_n C dX9_find_89 rfl rfl ?_
                refine ab_callV C cl_RX9_144 (m_X9_grow B_t A7 s_t_rows s_t_leads (by omega) (by omega) (by omega) (hD (d - 1) (by omega) (by omega)).1 hE) (by decide) rfl s_t rfl rfl (Nat.le_of_ble_eq_true rfl) dX9_find_90 (ab_kV (fun M_90 h_90 => ?_))
                refine ab_iconst C dX9_find_93 (by decide) ?_
                refine ab_istore2 (lv := []) C rfl dX9_find_94 ?_
                refine ab_loop (fun l (s : AbM × AbV) => AJ K S 95 [vP m, vI d, vI l, s.2] [] s.1) (fun l s => 0 ≤ l ∧ GrI n p d m (m + 8) (m + 9) M7 s.1 (fun V => GrV n d (M7 (m + 8)) (M7 (m + 9)) (pw n (d - 1)) V ∧ ∀ i, 0 ≤ i → i < l → M (m + 4) i = d → V (lawR n d i (M (m + 5))))) (M m 6) ?_ 0 (M_90, z3) (by omega) ⟨by omega, h_90.iff (fun V _ => ⟨fun a => ⟨a, fun i i0 i1 => by omega⟩, fun a => a.1⟩)⟩
                · intro l s hl9 hI9 ih9
                  obtain ⟨M9, x3⟩ := s
                  obtain ⟨q0, hG9⟩ := hI9
                  dsimp only at hG9 ih9 ⊢
                  have hs9 := hG9.1
                  have t6 : M9 m 6 = M m 6 := by rw [hs9 m (by simp), r7m]; simp [up]
                  have t4 : ∀ j, M9 (m + 4) j = M (m + 4) j := fun j => by rw [hs9 (m + 4) (by simp), hs7 (m + 4) (by simp), hs6 (m + 4) (by simp)]
                  have t5 : ∀ j, M9 (m + 5) j = M (m + 5) j := fun j => by rw [hs9 (m + 5) (by simp), hs7 (m + 5) (by simp), hs6 (m + 5) (by simp)]
                  have t1 : M9 (m + 1) d = M (m + 1) d := by rw [hs9 (m + 1) (by simp), hs7 (m + 1) (by simp), hs6 (m + 1) (by simp)]
                  refine ab_iload_n C dX9_find_95 rfl rfl ?_
                  refine ab_aload_n C dX9_find_96 rfl rfl ?_
                  refine gf_RX9_79 C s_t rfl dX9_find_97 ?_
                  rw [t6]
                  refine ab_icmp_ge (tgt := 171) C dX9_find_100 rfl (fun h_100 => ?_) (fun h_100 => ?_)
                  · skip
                    have A9 : MoA M9 m n p := hG9.1.moA A7 (by simp)
                    refine ab_aload_n C dX9_find_171 rfl rfl ?_
                    refine ab_aload_n C dX9_find_172 rfl rfl ?_
                    refine gf_RX9_42 C s_t rfl dX9_find_173 ?_
                    refine ab_aload_n C dX9_find_176 rfl rfl ?_
                    refine gf_RX9_45 C s_t rfl dX9_find_177 ?_
                    refine ab_iload_n C dX9_find_180 rfl rfl ?_
                    refine ab_callV C cl_RX9_147 (m_X9_tidy B_t A9 s_t_rows s_t_leads (by omega) (by omega) (by omega) hG9.2.1) (by decide) rfl s_t rfl rfl (Nat.le_of_ble_eq_true rfl) dX9_find_181 (ab_kV (fun M_181 h_181 => ?_))
                    obtain ⟨A, hA, tE, tR, tO, tV⟩ := h_181
                    refine ab_iinc1 (lv := []) C rfl dX9_find_184 (by omega) ?_
                    refine ab_goto (tgt := 72) C dX9_find_187 rfl ?_
                    have hA8 : M_181 (m + 8) = A := by rw [hA]; funext y; exact upA_s
                    have hA9 : M_181 (m + 9) = M9 (m + 9) := by rw [hA]; exact upA_row (by omega)
                    have lo8 : ∀ x, x < sqm n d → M_181 (m + 8) x = M7 (m + 8) x := fun x hx => by rw [hA8, tO x (Or.inl hx)]; exact hG9.2.2.1.1 x (Or.inl hx)
                    have lo9 : ∀ x, x < wsm n d → M_181 (m + 9) x = M7 (m + 9) x := fun x hx => by rw [hA9]; exact hG9.2.2.1.2 x (Or.inl hx)
                    refine ih (M_181, _, _) (by omega) ⟨by omega, same_tr hs7 (same_tr hG9.1 (by rw [hA]; exact same_upA (by simp))), fun e e0 e1 => ?_, fun x x0 x1 => ?_⟩
                    · rcases (show e < d ∨ e = d by omega) with q | q
                      · exact (rEq_lo n1 e0 q lo8 lo9).done n1 (fun z => rEq_lo n1 (by omega) (show e - 1 < d by omega) lo8 lo9) (hD e e0 q)
                      · subst q
                        dsimp only
                        rw [hA8] at lo8 ⊢
                        rw [hA9] at lo9 ⊢
                        refine ⟨tE, tR, fun z => by omega, fun _ V hV => ?_⟩
                        refine (tV V hV).trans ((hG9.2.2.2 V hV).trans ?_)
                        have gg := (rEq_lo n1 (show 0 ≤ e - 1 by omega) (show e - 1 < e by omega) lo8 lo9).gr (V := V)
                        constructor
                        · intro a
                          refine ⟨gg.mp a.2.1, fun x hx => ?_⟩
                          obtain ⟨i, i0, i1, hi, rfl⟩ := hx
                          exact a.2.2 i i0 (by omega) hi
                        · intro a
                          exact ⟨fun w w0 w1 hl => absurd (hz7 w w0 w1) hl, gg.mpr a.1, fun i i0 i1 hi => a.2 _ ⟨i, i0, by omega, hi, rfl⟩⟩
                    · dsimp only
                      rw [wsm_s (by omega)] at x0
                      rw [hA9, hG9.2.2.1.2 x (Or.inr x0)]
                      exact hzz x (by omega) x1
                  · skip
                    refine ab_aload_n C dX9_find_103 rfl rfl ?_
                    refine gf_RX9_29 C s_t rfl dX9_find_104 ?_
                    refine ab_iload_n C dX9_find_107 rfl rfl ?_
                    refine ab_iaload C s_t_lengths (by omega) (by omega) dX9_find_108 ?_
                    rw [t4]
                    refine ab_iload_n C dX9_find_109 rfl rfl ?_
                    refine ab_icmp_ne (tgt := 165) C dX9_find_110 rfl (fun h_110 => ?_) (fun h_110 => ?_)
                    · skip
                      refine ab_iinc2 (lv := []) C rfl dX9_find_165 (by omega) ?_
                      refine ab_goto (tgt := 95) C dX9_find_168 rfl ?_
                      first
                      | (refine ih9 (M9, _) (by omega) ⟨by omega, hG9.iff (fun V _ => ⟨fun a => ⟨a.1, fun i i0 i1 hi => ?_⟩, fun a => ⟨a.1, fun i i0 i1 hi => a.2 i i0 (by omega) hi⟩⟩)⟩
                         rcases (show i < l ∨ i = l by omega) with q | q
                         · exact a.2 i i0 q hi
                         · subst q; exact absurd hi h_110)
                      | (refine ih9 (M_162, _) (by omega) ⟨by omega, g11.iff (fun V hV => ?_)⟩
                         (try dsimp only)
                         rw [r10]
                         constructor
                         · intro a
                           refine ⟨a.1.1, fun i i0 i1 hi => ?_⟩
                           rcases (show i < l ∨ i = l by omega) with q | q
                           · exact a.1.2 i i0 q hi
                           · subst q; exact (rwL_V hV).mp a.2
                         · intro a
                           exact ⟨⟨a.1, fun i i0 i1 hi => a.2 i i0 (by omega) hi⟩, (rwL_V hV).mpr (a.2 l q0 (by omega) h_110)⟩)
                    · skip
                      have hlaw := hLw l q0 (by omega)
                      rw [h_110] at hlaw
                      have hd4 := law_len n1 n2 d2 hlaw.2.1
                      refine ab_aload_n C dX9_find_113 rfl rfl ?_
                      refine ab_callV C cl_RX9_137 (m_X9_clearRow B_t) (by decide) rfl s_t rfl rfl (Nat.le_of_ble_eq_true rfl) dX9_find_114 (ab_kV (fun M_114 h_114 => ?_))
                      subst h_114
                      refine ab_iconst C dX9_find_117 (by decide) ?_
                      refine ab_istore3 (lv := []) C rfl dX9_find_118 ?_
                      refine ab_mem (M2 := upA M9 (m + 12) (rwL l (M (m + 5)) (M9 (m + 12)) 0)) (upA_ext (fun j => (rwL_0 j).symm)) ?_
                      refine ab_loop (fun x (_ : Unit) => AJ K S 119 [vP m, vI d, vI l, vI x] [] (upA M9 (m + 12) (rwL l (M (m + 5)) (M9 (m + 12)) x))) (fun x _ => 0 ≤ x) (pw n d) ?_ 0 () (by omega) (by omega)
                      · intro x _ hx x0 ihx
                        have u1 : upA M9 (m + 12) (rwL l (M (m + 5)) (M9 (m + 12)) x) (m + 1) d = pw n d := by rw [upA_k (by omega), t1, e_w]
                        have u5 : upA M9 (m + 12) (rwL l (M (m + 5)) (M9 (m + 12)) x) (m + 5) (81 * l + x) = M (m + 5) (81 * l + x) := by rw [upA_k (by omega), t5]
                        refine ab_iload_n C dX9_find_119 rfl rfl ?_
                        refine ab_aload_n C dX9_find_120 rfl rfl ?_
                        refine gf_RX9_19 C s_t rfl dX9_find_121 ?_
                        refine ab_iload_n C dX9_find_124 rfl rfl ?_
                        refine ab_iaload C s_t_words (by omega) (by omega) dX9_find_125 ?_
                        rw [u1]
                        refine ab_icmp_ge (tgt := 152) C dX9_find_126 rfl (fun h_126 => ?_) (fun h_126 => ?_)
                        · skip
                          obtain rfl : x = pw n d := by omega
                          have hG10 := hG9.row (f := (rwL l (M (m + 5)) (M9 (m + 12)) (pw n d))) (by omega) (by omega)
                          obtain ⟨M10, hM10⟩ : ∃ M10, upA M9 (m + 12) (rwL l (M (m + 5)) (M9 (m + 12)) (pw n d)) = M10 := ⟨_, rfl⟩
                          rw [hM10] at hG10 ⊢
                          have r10 : M10 (m + 12) = (rwL l (M (m + 5)) (M9 (m + 12)) (pw n d)) := by rw [← hM10]; funext j; exact upA_s
                          have A10 : MoA M10 m n p := hG10.1.moA A7 (by simp)
                          refine ab_aload_n C dX9_find_152 rfl rfl ?_
                          refine ab_aload_n C dX9_find_153 rfl rfl ?_
                          refine gf_RX9_42 C s_t rfl dX9_find_154 ?_
                          refine ab_aload_n C dX9_find_157 rfl rfl ?_
                          refine gf_RX9_45 C s_t rfl dX9_find_158 ?_
                          refine ab_iload_n C dX9_find_161 rfl rfl ?_
                          refine ab_callV C cl_RX9_140 (m_X9_insert B_t A10 s_t_rows s_t_leads (by omega) (by omega) (by omega) (by rw [r10]; intro x x0 x1; unfold rwL; rw [if_pos ⟨x0, x1⟩, Int.mul_comm]; exact hlaw.2.2 x x0 x1) hG10.2.1) (by decide) rfl s_t rfl rfl (Nat.le_of_ble_eq_true rfl) dX9_find_162 (ab_kV (fun M_162 h_162 => ?_))
                          have g11 := hG10.tr (M3 := M_162) (G2 := fun V => V (qvV (pw n d) (M10 (m + 12)))) ⟨h_162.1, h_162.2.1, ⟨h_162.2.2.1, h_162.2.2.2.1⟩, fun V hV => ⟨h_162.2.2.2.2.1 V hV, fun a => h_162.2.2.2.2.2 V hV a.1 a.2⟩⟩
                          refine ab_iinc2 (lv := []) C rfl dX9_find_165 (by omega) ?_
                          refine ab_goto (tgt := 95) C dX9_find_168 rfl ?_
                          first
                          | (refine ih9 (M9, _) (by omega) ⟨by omega, hG9.iff (fun V _ => ⟨fun a => ⟨a.1, fun i i0 i1 hi => ?_⟩, fun a => ⟨a.1, fun i i0 i1 hi => a.2 i i0 (by omega) hi⟩⟩)⟩
                             rcases (show i < l ∨ i = l by omega) with q | q
                             · exact a.2 i i0 q hi
                             · subst q; exact absurd hi h_110)
                          | (refine ih9 (M_162, _) (by omega) ⟨by omega, g11.iff (fun V hV => ?_)⟩
                             (try dsimp only)
                             rw [r10]
                             constructor
                             · intro a
                               refine ⟨a.1.1, fun i i0 i1 hi => ?_⟩
                               rcases (show i < l ∨ i = l by omega) with q | q
                               · exact a.1.2 i i0 q hi
                               · subst q; exact (rwL_V hV).mp a.2
                             · intro a
                               exact ⟨⟨a.1, fun i i0 i1 hi => a.2 i i0 (by omega) hi⟩, (rwL_V hV).mpr (a.2 l q0 (by omega) h_110)⟩)
                        · skip
                          refine ab_aload_n C dX9_find_129 rfl rfl ?_
                          refine gf_RX9_55 C s_t rfl dX9_find_130 ?_
                          refine ab_iload_n C dX9_find_133 rfl rfl ?_
                          refine ab_aload_n C dX9_find_134 rfl rfl ?_
                          refine gf_RX9_32 C s_t rfl dX9_find_135 ?_
                          refine ab_bipush C dX9_find_138 (by decide) (by decide +kernel) ?_
                          refine ab_iload_n C dX9_find_140 rfl rfl ?_
                          refine ab_imul C dX9_find_141 (by omega) ?_
                          refine ab_iload_n C dX9_find_142 rfl rfl ?_
                          refine ab_iadd C dX9_find_143 (by omega) ?_
                          refine ab_iaload C s_t_numbers (by omega) (by omega) dX9_find_144 ?_
                          rw [u5]
                          refine ab_iastore C s_t_row (by omega) (by omega) dX9_find_145 ?_
                          refine ab_iinc3 (lv := []) C rfl dX9_find_146 (by omega) ?_
                          refine ab_goto (tgt := 119) C dX9_find_149 rfl ?_
                          refine ab_mem (M2 := upA M9 (m + 12) (rwL l (M (m + 5)) (M9 (m + 12)) (x + 1))) ?_ (ihx () (by omega) (by omega))
                          rw [up_upA]
                          exact upA_ext (rwL_s x0)
          · skip
            refine ab_aload_n C dX9_find_50 rfl rfl ?_
            refine gf_RX9_45 C s_t rfl dX9_find_51 ?_
            refine ab_iload_n C dX9_find_54 rfl rfl ?_
            refine ab_iconst C dX9_find_55 (by decide) ?_
            refine ab_bastore C s_t_leads (by omega) (by omega) (by omega) dX9_find_56 ?_
            refine ab_aload_n C dX9_find_57 rfl rfl ?_
            refine gf_RX9_52 C s_t rfl dX9_find_58 ?_
            refine ab_iload_n C dX9_find_61 rfl rfl ?_
            refine ab_iconst C dX9_find_62 (by decide) ?_
            refine ab_bastore C s_t_otherLeads (by omega) (by omega) (by omega) dX9_find_63 ?_
            refine ab_iinc1 (lv := []) C rfl dX9_find_64 (by omega) ?_
            refine ab_goto (tgt := 43) C dX9_find_67 rfl ?_
            refine ih (_, _, _) (by omega) ⟨by omega, same_tr hs6 (same_tr (same_up (by simp)) (same_up (by simp))), ?_, fun j j0 j1 => ?_⟩
            · show up (up M6 (m + 9) k 0) (m + 11) k 0 m = _
              rw [up_row (by omega), up_row (by omega), hm6]
            · show up (up M6 (m + 9) k 0) (m + 11) k 0 (m + 9) j = 0 ∧ up (up M6 (m + 9) k 0) (m + 11) k 0 (m + 11) j = 0
              rcases (show j < k ∨ j = k by omega) with q | q
              · obtain ⟨z1, z2⟩ := hz6 j j0 q
                simp [up, z1, z2, show j ≠ k by omega]
              · subst q
                simp [up]
      · skip
        refine ab_aload_n C dX9_find_21 rfl rfl ?_
        refine gf_RX9_42 C s_t rfl dX9_find_22 ?_
        refine ab_iload_n C dX9_find_25 rfl rfl ?_
        refine ab_iconst C dX9_find_26 (by decide) ?_
        refine ab_iastore C s_t_rows (by omega) (by omega) dX9_find_27 ?_
        refine ab_aload_n C dX9_find_28 rfl rfl ?_
        refine gf_RX9_49 C s_t rfl dX9_find_29 ?_
        refine ab_iload_n C dX9_find_32 rfl rfl ?_
        refine ab_iconst C dX9_find_33 (by decide) ?_
        refine ab_iastore C s_t_otherRows (by omega) (by omega) dX9_find_34 ?_
        refine ab_iinc1 (lv := []) C rfl dX9_find_35 (by omega) ?_
        refine ab_goto (tgt := 15) C dX9_find_38 rfl ?_
        refine ih (_, _, _) (by omega) ⟨by omega, same_tr hs5 (same_tr (same_up (by simp)) (same_up (by simp))), ?_⟩
        show up (up M5 (m + 8) k 0) (m + 10) k 0 m = _
        rw [up_row (by omega), up_row (by omega), hm5]
  · skip
    refine ab_vret (st := []) C r dX9_find_7 ?_
    exact ⟨rfl, same_rf _ _, fun _ _ _ => rfl, h_4, hR⟩
