set_option maxRecDepth 100000 in
set_option maxHeartbeats 4000000 in
theorem m_X9_start {D : va_G} {cA : Nat → ClassId} {S : List AbS} {M : AbM} {m : Nat} {n p : Int} (B_t : shMo S m) (n1 : 1 ≤ n) (n2 : n ≤ 3) (hPr : Pr p) (m_n : M m 0 = n) (m_p : M m 1 = p) : Meth yX9_start cX9_start 2 none rmX9_start D cA S [vP m] M (qV fun M2 => MoA M2 m n p ∧ same [m, m + 1, m + 2, m + 3, m + 15] M M2 ∧ (∀ j, j ≠ 2 → j ≠ 6 → j ≠ 13 → M2 m j = M m j) ∧ M2 m 6 = 0 ∧ M2 m 13 = 0 ∧ ∀ j, 0 ≤ j → j < 400 → M2 (m + 15) j = 0) := by
  refine ab_intro (lv := [vP m, vU]) (by decide +kernel) rfl (Nat.le_of_ble_eq_true rfl) ?_
  intro hO hargs K hKD hKA C r
  have C : Cx K cX9_start RX9 rmX9_start := C
  obtain ⟨s_t, s_t_words, s_t_begins, s_t_squares, s_t_lengths, s_t_numbers, s_t_made, s_t_tape, s_t_rows, s_t_leads, s_t_otherRows, s_t_otherLeads, s_t_row, s_t_equations, s_t_firsts, s_t_sum, s_t_lanes, s_t_sizes, s_t_items⟩ := id B_t
  obtain ⟨p1, p2, -⟩ := id hPr
  have hLB := Lg_B n
  refine ab_aload_n C dX9_start_0 rfl rfl ?_
  refine ab_aload_n C dX9_start_1 rfl rfl ?_
  refine gf_RX9_7 C s_t rfl dX9_start_2 ?_
  refine ab_iconst C dX9_start_5 (by decide) ?_
  rw [m_n]
  refine ab_icmp_ne (tgt := 14) C dX9_start_6 rfl (fun h_6 => ?_) (fun h_6 => ?_)
  · skip
    refine ab_aload_n C dX9_start_14 rfl rfl ?_
    refine gf_RX9_7 C s_t rfl dX9_start_15 ?_
    refine ab_iconst C dX9_start_18 (by decide) ?_
    rw [m_n]
    refine ab_icmp_ne (tgt := 27) C dX9_start_19 rfl (fun h_19 => ?_) (fun h_19 => ?_)
    · skip
      refine ab_iconst C dX9_start_27 (by decide) ?_
      refine pf_RX9_16 C s_t rfl dX9_start_28 ?_
      refine ab_mem (M2 := up M m 2 (Lg n)) (by congr 1; unfold Lg; (first | rw [if_pos (by omega)] | rw [if_neg (by omega), if_pos (by omega)] | rw [if_neg (by omega), if_neg (by omega)])) ?_
      refine ab_aload_n C dX9_start_31 rfl rfl ?_
      refine gf_RX9_19 C s_t rfl dX9_start_32 ?_
      refine ab_iconst C dX9_start_35 (by decide) ?_
      refine ab_iconst C dX9_start_36 (by decide) ?_
      refine ab_iastore C s_t_words (by omega) (by omega) dX9_start_37 ?_
      refine ab_aload_n C dX9_start_38 rfl rfl ?_
      refine gf_RX9_23 C s_t rfl dX9_start_39 ?_
      refine ab_iconst C dX9_start_42 (by decide) ?_
      refine ab_iconst C dX9_start_43 (by decide) ?_
      refine ab_iastore C s_t_begins (by omega) (by omega) dX9_start_44 ?_
      refine ab_aload_n C dX9_start_45 rfl rfl ?_
      refine gf_RX9_26 C s_t rfl dX9_start_46 ?_
      refine ab_iconst C dX9_start_49 (by decide) ?_
      refine ab_iconst C dX9_start_50 (by decide) ?_
      refine ab_iastore C s_t_squares (by omega) (by omega) dX9_start_51 ?_
      refine ab_iconst C dX9_start_52 (by decide) ?_
      refine ab_istore1 (lv := []) C rfl dX9_start_53 ?_
      refine ab_loop (fun d (M5 : AbM) => AJ K S 54 [vP m, vI d] [] M5) (fun d M5 => 0 ≤ d ∧ same [m + 1, m + 2, m + 3] (up (up (up (up M m 2 (Lg n)) (m + 1) 0 1) (m + 2) 0 0) (m + 3) 0 0) M5 ∧ ∀ j, 0 ≤ j → j ≤ d → M5 (m + 1) j = pw n j ∧ M5 (m + 2) j = wsm n j ∧ M5 (m + 3) j = sqm n j) (Lg n + 1) ?_ 0 (up (up (up (up M m 2 (Lg n)) (m + 1) 0 1) (m + 2) 0 0) (m + 3) 0 0) (by omega) ⟨by omega, same_rf _ _, fun j a b => ?_⟩
      · intro d M5 hd hI ih
        obtain ⟨d0, hs5, hv⟩ := hI
        have k5 : ∀ j, M5 m j = up M m 2 (Lg n) m j := fun j => by rw [hs5 m (by simp), up_k (by omega), up_k (by omega), up_k (by omega)]
        have k0 : M5 m 0 = n := by rw [k5, up_i (by decide), m_n]
        have k2 : M5 m 2 = Lg n := by rw [k5, up_s]
        refine ab_iload_n C dX9_start_54 rfl rfl ?_
        refine ab_aload_n C dX9_start_55 rfl rfl ?_
        refine gf_RX9_16 C s_t rfl dX9_start_56 ?_
        rw [k2]
        refine ab_icmp_gt (tgt := 136) C dX9_start_59 rfl (fun h_59 => ?_) (fun h_59 => ?_)
        · skip
          refine ab_aload_n C dX9_start_136 rfl rfl ?_
          refine ab_iconst C dX9_start_137 (by decide) ?_
          refine pf_RX9_79 C s_t rfl dX9_start_138 ?_
          refine ab_iconst C dX9_start_141 (by decide) ?_
          refine ab_istore1 (lv := []) C rfl dX9_start_142 ?_
          refine ab_mem (M2 := upA (up M5 m 6 0) (m + 15) (fun j => if 0 ≤ j ∧ j < (0 : Int) then 0 else M5 (m + 15) j)) (upA_id (fun j => by rw [if_neg (by omega), up_k (by omega)])) ?_
          refine ab_loop (fun i (_ : Unit) => AJ K S 143 [vP m, vI i] [] (upA (up M5 m 6 0) (m + 15) (fun j => if 0 ≤ j ∧ j < i then 0 else M5 (m + 15) j))) (fun i _ => 0 ≤ i) 400 ?_ 0 () (by omega) (by omega)
          · intro i _ hi i0 ih
            refine ab_iload_n C dX9_start_143 rfl rfl ?_
            refine ab_sipush C dX9_start_144 (by decide) (by decide +kernel) ?_
            refine ab_icmp_ge (tgt := 163) C dX9_start_147 rfl (fun h_147 => ?_) (fun h_147 => ?_)
            · skip
              refine ab_aload_n C dX9_start_163 rfl rfl ?_
              refine ab_iconst C dX9_start_164 (by decide) ?_
              refine pf_RX9_82 C (by omega) s_t rfl dX9_start_165 ?_
              refine ab_vret (st := []) C r dX9_start_168 ?_
              have ei : i = 400 := by omega
              subst ei
              have F : ∀ k, k ≠ m → k ≠ m + 15 → up (upA (up M5 m 6 0) (m + 15) (fun j => if 0 ≤ j ∧ j < 400 then 0 else M5 (m + 15) j)) m 13 0 k = M5 k := fun k a b => by rw [up_row a, upA_row b, up_row a]
              have Fm : ∀ j, j ≠ 13 → j ≠ 6 → up (upA (up M5 m 6 0) (m + 15) (fun j => if 0 ≤ j ∧ j < 400 then 0 else M5 (m + 15) j)) m 13 0 m j = M5 m j := fun j a b => by rw [up_i a, upA_k (by omega), up_i b]
              have kk : ∀ j, j ≠ 2 → M5 m j = M m j := fun j a => by rw [k5, up_i a]
              refine ⟨rfl, ⟨⟨n1, n2, hPr⟩, ?_, ?_, ?_, fun e e0 e1 => ?_⟩, fun k hk => ?_, fun j a b c => ?_, ?_, up_s, fun j a b => ?_⟩
              · rw [Fm 0 (by decide) (by decide), k0]
              · rw [Fm 1 (by decide) (by decide), kk 1 (by decide), m_p]
              · rw [Fm 2 (by decide) (by decide), k2]
              · rw [F (m + 1) (by omega) (by omega), F (m + 2) (by omega) (by omega), F (m + 3) (by omega) (by omega)]
                exact hv e e0 (by omega)
              · simp only [List.mem_cons, List.not_mem_nil, or_false, not_or] at hk
                rw [F k (by omega) (by omega), hs5 k (by simp; omega), up_row (by omega), up_row (by omega), up_row (by omega), up_row (by omega)]
              · rw [Fm j c b, kk j a]
              · rw [up_i (by decide), upA_k (by omega), up_s]
              · rw [up_k (by omega), upA_s, if_pos ⟨a, b⟩]
            · skip
              refine ab_aload_n C dX9_start_150 rfl rfl ?_
              refine gf_RX9_64 C s_t rfl dX9_start_151 ?_
              refine ab_iload_n C dX9_start_154 rfl rfl ?_
              refine ab_iconst C dX9_start_155 (by decide) ?_
              refine ab_iastore C s_t_sum (by omega) (by omega) dX9_start_156 ?_
              refine ab_iinc1 (lv := []) C rfl dX9_start_157 (by omega) ?_
              refine ab_goto (tgt := 143) C dX9_start_160 rfl ?_
              refine ab_mem (M2 := upA (up M5 m 6 0) (m + 15) (fun j => if 0 ≤ j ∧ j < (i + 1) then 0 else M5 (m + 15) j)) ?_ (ih () (by omega) (by omega))
              rw [up_upA]
              exact upA_ext (fun j => by
                by_cases q1 : j = i
                · rw [if_pos q1, if_pos (by omega)]
                · rw [if_neg q1]
                  by_cases q2 : 0 ≤ j ∧ j < i
                  · rw [if_pos q2, if_pos (by omega)]
                  · rw [if_neg q2, if_neg (by omega)])
        · skip
          have hB := sz_B n1 n2 d0 (by omega)
          have hQ := sq_B n1 n2 d0 (by omega)
          have hm2 : 0 ≤ n * pw n d ∧ n * pw n d ≤ 3 * 243 := ⟨Int.mul_nonneg (by omega) (by omega), Int.mul_le_mul (by omega) (by omega) (by omega) (by omega)⟩
          obtain ⟨w1, w2, w3⟩ := hv d d0 (Int.le_refl d)
          refine ab_aload_n C dX9_start_62 rfl rfl ?_
          refine gf_RX9_19 C s_t rfl dX9_start_63 ?_
          refine ab_iload_n C dX9_start_66 rfl rfl ?_
          refine ab_iconst C dX9_start_67 (by decide) ?_
          refine ab_iadd C dX9_start_68 (by omega) ?_
          refine ab_aload_n C dX9_start_69 rfl rfl ?_
          refine gf_RX9_7 C s_t rfl dX9_start_70 ?_
          rw [k0]
          refine ab_aload_n C dX9_start_73 rfl rfl ?_
          refine gf_RX9_19 C s_t rfl dX9_start_74 ?_
          refine ab_iload_n C dX9_start_77 rfl rfl ?_
          refine ab_iaload C s_t_words (by omega) (by omega) dX9_start_78 ?_
          rw [w1]
          refine ab_imul C dX9_start_79 (by omega) ?_
          refine ab_iastore C s_t_words (by omega) (by omega) dX9_start_80 ?_
          refine ab_aload_n C dX9_start_81 rfl rfl ?_
          refine gf_RX9_23 C s_t rfl dX9_start_82 ?_
          refine ab_iload_n C dX9_start_85 rfl rfl ?_
          refine ab_iconst C dX9_start_86 (by decide) ?_
          refine ab_iadd C dX9_start_87 (by omega) ?_
          refine ab_aload_n C dX9_start_88 rfl rfl ?_
          refine gf_RX9_23 C s_t rfl dX9_start_89 ?_
          refine ab_iload_n C dX9_start_92 rfl rfl ?_
          refine ab_iaload C s_t_begins (by omega) (by omega) dX9_start_93 ?_
          rw [up_k (show m + 2 ≠ m + 1 by omega), w2]
          refine ab_aload_n C dX9_start_94 rfl rfl ?_
          refine gf_RX9_19 C s_t rfl dX9_start_95 ?_
          refine ab_iload_n C dX9_start_98 rfl rfl ?_
          refine ab_iaload C s_t_words (by omega) (by omega) dX9_start_99 ?_
          rw [up_i (show d ≠ d + 1 by omega), w1]
          refine ab_iadd C dX9_start_100 (by omega) ?_
          refine ab_iastore C s_t_begins (by omega) (by omega) dX9_start_101 ?_
          refine ab_aload_n C dX9_start_102 rfl rfl ?_
          refine gf_RX9_26 C s_t rfl dX9_start_103 ?_
          refine ab_iload_n C dX9_start_106 rfl rfl ?_
          refine ab_iconst C dX9_start_107 (by decide) ?_
          refine ab_iadd C dX9_start_108 (by omega) ?_
          refine ab_aload_n C dX9_start_109 rfl rfl ?_
          refine gf_RX9_26 C s_t rfl dX9_start_110 ?_
          refine ab_iload_n C dX9_start_113 rfl rfl ?_
          refine ab_iaload C s_t_squares (by omega) (by omega) dX9_start_114 ?_
          rw [up_k (show m + 3 ≠ m + 2 by omega), up_k (show m + 3 ≠ m + 1 by omega), w3]
          refine ab_aload_n C dX9_start_115 rfl rfl ?_
          refine gf_RX9_19 C s_t rfl dX9_start_116 ?_
          refine ab_iload_n C dX9_start_119 rfl rfl ?_
          refine ab_iaload C s_t_words (by omega) (by omega) dX9_start_120 ?_
          rw [up_k (show m + 1 ≠ m + 2 by omega), up_i (show d ≠ d + 1 by omega), w1]
          refine ab_aload_n C dX9_start_121 rfl rfl ?_
          refine gf_RX9_19 C s_t rfl dX9_start_122 ?_
          refine ab_iload_n C dX9_start_125 rfl rfl ?_
          refine ab_iaload C s_t_words (by omega) (by omega) dX9_start_126 ?_
          rw [up_k (show m + 1 ≠ m + 2 by omega), up_i (show d ≠ d + 1 by omega), w1]
          refine ab_imul C dX9_start_127 (by omega) ?_
          refine ab_iadd C dX9_start_128 (by omega) ?_
          refine ab_iastore C s_t_squares (by omega) (by omega) dX9_start_129 ?_
          refine ab_iinc1 (lv := []) C rfl dX9_start_130 (by omega) ?_
          refine ab_goto (tgt := 54) C dX9_start_133 rfl ?_
          refine ih _ (by omega) ⟨by omega, ?_, fun j a b => ?_⟩
          · exact same_tr hs5 (same_tr (same_tr (same_up (by simp)) (same_up (by simp))) (same_up (by simp)))
          · by_cases q : j = d + 1
            · subst q
              rw [pw_s d0, wsm_s d0, sqm_s d0]
              refine ⟨?_, ?_, ?_⟩
              · rw [up_k (by omega), up_k (by omega), up_s, Int.mul_comm]
              · rw [up_k (by omega), up_s]
              · rw [up_s]
            · have := hv j a (by omega)
              refine ⟨?_, ?_, ?_⟩
              · rw [up_k (by omega), up_k (by omega), up_i q]; exact this.1
              · rw [up_k (by omega), up_i q, up_k (by omega)]; exact this.2.1
              · rw [up_i q, up_k (by omega), up_k (by omega)]; exact this.2.2
      · have e : j = 0 := by omega
        subst e
        rw [pw_0, wsm_0, sqm_0]
        refine ⟨?_, ?_, ?_⟩
        · rw [up_k (by omega), up_k (by omega), up_s]
        · rw [up_k (by omega), up_s]
        · rw [up_s]
    · skip
      refine ab_bipush C dX9_start_22 (by decide) (by decide +kernel) ?_
      refine ab_goto (tgt := 28) C dX9_start_24 rfl ?_
      refine pf_RX9_16 C s_t rfl dX9_start_28 ?_
      refine ab_mem (M2 := up M m 2 (Lg n)) (by congr 1; unfold Lg; (first | rw [if_pos (by omega)] | rw [if_neg (by omega), if_pos (by omega)] | rw [if_neg (by omega), if_neg (by omega)])) ?_
      refine ab_aload_n C dX9_start_31 rfl rfl ?_
      refine gf_RX9_19 C s_t rfl dX9_start_32 ?_
      refine ab_iconst C dX9_start_35 (by decide) ?_
      refine ab_iconst C dX9_start_36 (by decide) ?_
      refine ab_iastore C s_t_words (by omega) (by omega) dX9_start_37 ?_
      refine ab_aload_n C dX9_start_38 rfl rfl ?_
      refine gf_RX9_23 C s_t rfl dX9_start_39 ?_
      refine ab_iconst C dX9_start_42 (by decide) ?_
      refine ab_iconst C dX9_start_43 (by decide) ?_
      refine ab_iastore C s_t_begins (by omega) (by omega) dX9_start_44 ?_
      refine ab_aload_n C dX9_start_45 rfl rfl ?_
      refine gf_RX9_26 C s_t rfl dX9_start_46 ?_
      refine ab_iconst C dX9_start_49 (by decide) ?_
      refine ab_iconst C dX9_start_50 (by decide) ?_
      refine ab_iastore C s_t_squares (by omega) (by omega) dX9_start_51 ?_
      refine ab_iconst C dX9_start_52 (by decide) ?_
      refine ab_istore1 (lv := []) C rfl dX9_start_53 ?_
      refine ab_loop (fun d (M5 : AbM) => AJ K S 54 [vP m, vI d] [] M5) (fun d M5 => 0 ≤ d ∧ same [m + 1, m + 2, m + 3] (up (up (up (up M m 2 (Lg n)) (m + 1) 0 1) (m + 2) 0 0) (m + 3) 0 0) M5 ∧ ∀ j, 0 ≤ j → j ≤ d → M5 (m + 1) j = pw n j ∧ M5 (m + 2) j = wsm n j ∧ M5 (m + 3) j = sqm n j) (Lg n + 1) ?_ 0 (up (up (up (up M m 2 (Lg n)) (m + 1) 0 1) (m + 2) 0 0) (m + 3) 0 0) (by omega) ⟨by omega, same_rf _ _, fun j a b => ?_⟩
      · intro d M5 hd hI ih
        obtain ⟨d0, hs5, hv⟩ := hI
        have k5 : ∀ j, M5 m j = up M m 2 (Lg n) m j := fun j => by rw [hs5 m (by simp), up_k (by omega), up_k (by omega), up_k (by omega)]
        have k0 : M5 m 0 = n := by rw [k5, up_i (by decide), m_n]
        have k2 : M5 m 2 = Lg n := by rw [k5, up_s]
        refine ab_iload_n C dX9_start_54 rfl rfl ?_
        refine ab_aload_n C dX9_start_55 rfl rfl ?_
        refine gf_RX9_16 C s_t rfl dX9_start_56 ?_
        rw [k2]
        refine ab_icmp_gt (tgt := 136) C dX9_start_59 rfl (fun h_59 => ?_) (fun h_59 => ?_)
        · skip
          refine ab_aload_n C dX9_start_136 rfl rfl ?_
          refine ab_iconst C dX9_start_137 (by decide) ?_
          refine pf_RX9_79 C s_t rfl dX9_start_138 ?_
          refine ab_iconst C dX9_start_141 (by decide) ?_
          refine ab_istore1 (lv := []) C rfl dX9_start_142 ?_
          refine ab_mem (M2 := upA (up M5 m 6 0) (m + 15) (fun j => if 0 ≤ j ∧ j < (0 : Int) then 0 else M5 (m + 15) j)) (upA_id (fun j => by rw [if_neg (by omega), up_k (by omega)])) ?_
          refine ab_loop (fun i (_ : Unit) => AJ K S 143 [vP m, vI i] [] (upA (up M5 m 6 0) (m + 15) (fun j => if 0 ≤ j ∧ j < i then 0 else M5 (m + 15) j))) (fun i _ => 0 ≤ i) 400 ?_ 0 () (by omega) (by omega)
          · intro i _ hi i0 ih
            refine ab_iload_n C dX9_start_143 rfl rfl ?_
            refine ab_sipush C dX9_start_144 (by decide) (by decide +kernel) ?_
            refine ab_icmp_ge (tgt := 163) C dX9_start_147 rfl (fun h_147 => ?_) (fun h_147 => ?_)
            · skip
              refine ab_aload_n C dX9_start_163 rfl rfl ?_
              refine ab_iconst C dX9_start_164 (by decide) ?_
              refine pf_RX9_82 C (by omega) s_t rfl dX9_start_165 ?_
              refine ab_vret (st := []) C r dX9_start_168 ?_
              have ei : i = 400 := by omega
              subst ei
              have F : ∀ k, k ≠ m → k ≠ m + 15 → up (upA (up M5 m 6 0) (m + 15) (fun j => if 0 ≤ j ∧ j < 400 then 0 else M5 (m + 15) j)) m 13 0 k = M5 k := fun k a b => by rw [up_row a, upA_row b, up_row a]
              have Fm : ∀ j, j ≠ 13 → j ≠ 6 → up (upA (up M5 m 6 0) (m + 15) (fun j => if 0 ≤ j ∧ j < 400 then 0 else M5 (m + 15) j)) m 13 0 m j = M5 m j := fun j a b => by rw [up_i a, upA_k (by omega), up_i b]
              have kk : ∀ j, j ≠ 2 → M5 m j = M m j := fun j a => by rw [k5, up_i a]
              refine ⟨rfl, ⟨⟨n1, n2, hPr⟩, ?_, ?_, ?_, fun e e0 e1 => ?_⟩, fun k hk => ?_, fun j a b c => ?_, ?_, up_s, fun j a b => ?_⟩
              · rw [Fm 0 (by decide) (by decide), k0]
              · rw [Fm 1 (by decide) (by decide), kk 1 (by decide), m_p]
              · rw [Fm 2 (by decide) (by decide), k2]
              · rw [F (m + 1) (by omega) (by omega), F (m + 2) (by omega) (by omega), F (m + 3) (by omega) (by omega)]
                exact hv e e0 (by omega)
              · simp only [List.mem_cons, List.not_mem_nil, or_false, not_or] at hk
                rw [F k (by omega) (by omega), hs5 k (by simp; omega), up_row (by omega), up_row (by omega), up_row (by omega), up_row (by omega)]
              · rw [Fm j c b, kk j a]
              · rw [up_i (by decide), upA_k (by omega), up_s]
              · rw [up_k (by omega), upA_s, if_pos ⟨a, b⟩]
            · skip
              refine ab_aload_n C dX9_start_150 rfl rfl ?_
              refine gf_RX9_64 C s_t rfl dX9_start_151 ?_
              refine ab_iload_n C dX9_start_154 rfl rfl ?_
              refine ab_iconst C dX9_start_155 (by decide) ?_
              refine ab_iastore C s_t_sum (by omega) (by omega) dX9_start_156 ?_
              refine ab_iinc1 (lv := []) C rfl dX9_start_157 (by omega) ?_
              refine ab_goto (tgt := 143) C dX9_start_160 rfl ?_
              refine ab_mem (M2 := upA (up M5 m 6 0) (m + 15) (fun j => if 0 ≤ j ∧ j < (i + 1) then 0 else M5 (m + 15) j)) ?_ (ih () (by omega) (by omega))
              rw [up_upA]
              exact upA_ext (fun j => by
                by_cases q1 : j = i
                · rw [if_pos q1, if_pos (by omega)]
                · rw [if_neg q1]
                  by_cases q2 : 0 ≤ j ∧ j < i
                  · rw [if_pos q2, if_pos (by omega)]
                  · rw [if_neg q2, if_neg (by omega)])
        · skip
          have hB := sz_B n1 n2 d0 (by omega)
          have hQ := sq_B n1 n2 d0 (by omega)
          have hm2 : 0 ≤ n * pw n d ∧ n * pw n d ≤ 3 * 243 := ⟨Int.mul_nonneg (by omega) (by omega), Int.mul_le_mul (by omega) (by omega) (by omega) (by omega)⟩
          obtain ⟨w1, w2, w3⟩ := hv d d0 (Int.le_refl d)
          refine ab_aload_n C dX9_start_62 rfl rfl ?_
          refine gf_RX9_19 C s_t rfl dX9_start_63 ?_
          refine ab_iload_n C dX9_start_66 rfl rfl ?_
          refine ab_iconst C dX9_start_67 (by decide) ?_
          refine ab_iadd C dX9_start_68 (by omega) ?_
          refine ab_aload_n C dX9_start_69 rfl rfl ?_
          refine gf_RX9_7 C s_t rfl dX9_start_70 ?_
          rw [k0]
          refine ab_aload_n C dX9_start_73 rfl rfl ?_
          refine gf_RX9_19 C s_t rfl dX9_start_74 ?_
          refine ab_iload_n C dX9_start_77 rfl rfl ?_
          refine ab_iaload C s_t_words (by omega) (by omega) dX9_start_78 ?_
          rw [w1]
          refine ab_imul C dX9_start_79 (by omega) ?_
          refine ab_iastore C s_t_words (by omega) (by omega) dX9_start_80 ?_
          refine ab_aload_n C dX9_start_81 rfl rfl ?_
          refine gf_RX9_23 C s_t rfl dX9_start_82 ?_
          refine ab_iload_n C dX9_start_85 rfl rfl ?_
          refine ab_iconst C dX9_start_86 (by decide) ?_
          refine ab_iadd C dX9_start_87 (by omega) ?_
          refine ab_aload_n C dX9_start_88 rfl rfl ?_
          refine gf_RX9_23 C s_t rfl dX9_start_89 ?_
          refine ab_iload_n C dX9_start_92 rfl rfl ?_
          refine ab_iaload C s_t_begins (by omega) (by omega) dX9_start_93 ?_
          rw [up_k (show m + 2 ≠ m + 1 by omega), w2]
          refine ab_aload_n C dX9_start_94 rfl rfl ?_
          refine gf_RX9_19 C s_t rfl dX9_start_95 ?_
          refine ab_iload_n C dX9_start_98 rfl rfl ?_
          refine ab_iaload C s_t_words (by omega) (by omega) dX9_start_99 ?_
          rw [up_i (show d ≠ d + 1 by omega), w1]
          refine ab_iadd C dX9_start_100 (by omega) ?_
          refine ab_iastore C s_t_begins (by omega) (by omega) dX9_start_101 ?_
          refine ab_aload_n C dX9_start_102 rfl rfl ?_
          refine gf_RX9_26 C s_t rfl dX9_start_103 ?_
          refine ab_iload_n C dX9_start_106 rfl rfl ?_
          refine ab_iconst C dX9_start_107 (by decide) ?_
          refine ab_iadd C dX9_start_108 (by omega) ?_
          refine ab_aload_n C dX9_start_109 rfl rfl ?_
          refine gf_RX9_26 C s_t rfl dX9_start_110 ?_
          refine ab_iload_n C dX9_start_113 rfl rfl ?_
          refine ab_iaload C s_t_squares (by omega) (by omega) dX9_start_114 ?_
          rw [up_k (show m + 3 ≠ m + 2 by omega), up_k (show m + 3 ≠ m + 1 by omega), w3]
          refine ab_aload_n C dX9_start_115 rfl rfl ?_
          refine gf_RX9_19 C s_t rfl dX9_start_116 ?_
          refine ab_iload_n C dX9_start_119 rfl rfl ?_
          refine ab_iaload C s_t_words (by omega) (by omega) dX9_start_120 ?_
          rw [up_k (show m + 1 ≠ m + 2 by omega), up_i (show d ≠ d + 1 by omega), w1]
          refine ab_aload_n C dX9_start_121 rfl rfl ?_
          refine gf_RX9_19 C s_t rfl dX9_start_122 ?_
          refine ab_iload_n C dX9_start_125 rfl rfl ?_
          refine ab_iaload C s_t_words (by omega) (by omega) dX9_start_126 ?_
          rw [up_k (show m + 1 ≠ m + 2 by omega), up_i (show d ≠ d + 1 by omega), w1]
          refine ab_imul C dX9_start_127 (by omega) ?_
          refine ab_iadd C dX9_start_128 (by omega) ?_
          refine ab_iastore C s_t_squares (by omega) (by omega) dX9_start_129 ?_
          refine ab_iinc1 (lv := []) C rfl dX9_start_130 (by omega) ?_
          refine ab_goto (tgt := 54) C dX9_start_133 rfl ?_
          refine ih _ (by omega) ⟨by omega, ?_, fun j a b => ?_⟩
          · exact same_tr hs5 (same_tr (same_tr (same_up (by simp)) (same_up (by simp))) (same_up (by simp)))
          · by_cases q : j = d + 1
            · subst q
              rw [pw_s d0, wsm_s d0, sqm_s d0]
              refine ⟨?_, ?_, ?_⟩
              · rw [up_k (by omega), up_k (by omega), up_s, Int.mul_comm]
              · rw [up_k (by omega), up_s]
              · rw [up_s]
            · have := hv j a (by omega)
              refine ⟨?_, ?_, ?_⟩
              · rw [up_k (by omega), up_k (by omega), up_i q]; exact this.1
              · rw [up_k (by omega), up_i q, up_k (by omega)]; exact this.2.1
              · rw [up_i q, up_k (by omega), up_k (by omega)]; exact this.2.2
      · have e : j = 0 := by omega
        subst e
        rw [pw_0, wsm_0, sqm_0]
        refine ⟨?_, ?_, ?_⟩
        · rw [up_k (by omega), up_k (by omega), up_s]
        · rw [up_k (by omega), up_s]
        · rw [up_s]
  · skip
    refine ab_bipush C dX9_start_9 (by decide) (by decide +kernel) ?_
    refine ab_goto (tgt := 28) C dX9_start_11 rfl ?_
    refine pf_RX9_16 C s_t rfl dX9_start_28 ?_
    refine ab_mem (M2 := up M m 2 (Lg n)) (by congr 1; unfold Lg; (first | rw [if_pos (by omega)] | rw [if_neg (by omega), if_pos (by omega)] | rw [if_neg (by omega), if_neg (by omega)])) ?_
    refine ab_aload_n C dX9_start_31 rfl rfl ?_
    refine gf_RX9_19 C s_t rfl dX9_start_32 ?_
    refine ab_iconst C dX9_start_35 (by decide) ?_
    refine ab_iconst C dX9_start_36 (by decide) ?_
    refine ab_iastore C s_t_words (by omega) (by omega) dX9_start_37 ?_
    refine ab_aload_n C dX9_start_38 rfl rfl ?_
    refine gf_RX9_23 C s_t rfl dX9_start_39 ?_
    refine ab_iconst C dX9_start_42 (by decide) ?_
    refine ab_iconst C dX9_start_43 (by decide) ?_
    refine ab_iastore C s_t_begins (by omega) (by omega) dX9_start_44 ?_
    refine ab_aload_n C dX9_start_45 rfl rfl ?_
    refine gf_RX9_26 C s_t rfl dX9_start_46 ?_
    refine ab_iconst C dX9_start_49 (by decide) ?_
    refine ab_iconst C dX9_start_50 (by decide) ?_
    refine ab_iastore C s_t_squares (by omega) (by omega) dX9_start_51 ?_
    refine ab_iconst C dX9_start_52 (by decide) ?_
    refine ab_istore1 (lv := []) C rfl dX9_start_53 ?_
    refine ab_loop (fun d (M5 : AbM) => AJ K S 54 [vP m, vI d] [] M5) (fun d M5 => 0 ≤ d ∧ same [m + 1, m + 2, m + 3] (up (up (up (up M m 2 (Lg n)) (m + 1) 0 1) (m + 2) 0 0) (m + 3) 0 0) M5 ∧ ∀ j, 0 ≤ j → j ≤ d → M5 (m + 1) j = pw n j ∧ M5 (m + 2) j = wsm n j ∧ M5 (m + 3) j = sqm n j) (Lg n + 1) ?_ 0 (up (up (up (up M m 2 (Lg n)) (m + 1) 0 1) (m + 2) 0 0) (m + 3) 0 0) (by omega) ⟨by omega, same_rf _ _, fun j a b => ?_⟩
    · intro d M5 hd hI ih
      obtain ⟨d0, hs5, hv⟩ := hI
      have k5 : ∀ j, M5 m j = up M m 2 (Lg n) m j := fun j => by rw [hs5 m (by simp), up_k (by omega), up_k (by omega), up_k (by omega)]
      have k0 : M5 m 0 = n := by rw [k5, up_i (by decide), m_n]
      have k2 : M5 m 2 = Lg n := by rw [k5, up_s]
      refine ab_iload_n C dX9_start_54 rfl rfl ?_
      refine ab_aload_n C dX9_start_55 rfl rfl ?_
      refine gf_RX9_16 C s_t rfl dX9_start_56 ?_
      rw [k2]
      refine ab_icmp_gt (tgt := 136) C dX9_start_59 rfl (fun h_59 => ?_) (fun h_59 => ?_)
      · skip
        refine ab_aload_n C dX9_start_136 rfl rfl ?_
        refine ab_iconst C dX9_start_137 (by decide) ?_
        refine pf_RX9_79 C s_t rfl dX9_start_138 ?_
        refine ab_iconst C dX9_start_141 (by decide) ?_
        refine ab_istore1 (lv := []) C rfl dX9_start_142 ?_
        refine ab_mem (M2 := upA (up M5 m 6 0) (m + 15) (fun j => if 0 ≤ j ∧ j < (0 : Int) then 0 else M5 (m + 15) j)) (upA_id (fun j => by rw [if_neg (by omega), up_k (by omega)])) ?_
        refine ab_loop (fun i (_ : Unit) => AJ K S 143 [vP m, vI i] [] (upA (up M5 m 6 0) (m + 15) (fun j => if 0 ≤ j ∧ j < i then 0 else M5 (m + 15) j))) (fun i _ => 0 ≤ i) 400 ?_ 0 () (by omega) (by omega)
        · intro i _ hi i0 ih
          refine ab_iload_n C dX9_start_143 rfl rfl ?_
          refine ab_sipush C dX9_start_144 (by decide) (by decide +kernel) ?_
          refine ab_icmp_ge (tgt := 163) C dX9_start_147 rfl (fun h_147 => ?_) (fun h_147 => ?_)
          · skip
            refine ab_aload_n C dX9_start_163 rfl rfl ?_
            refine ab_iconst C dX9_start_164 (by decide) ?_
            refine pf_RX9_82 C (by omega) s_t rfl dX9_start_165 ?_
            refine ab_vret (st := []) C r dX9_start_168 ?_
            have ei : i = 400 := by omega
            subst ei
            have F : ∀ k, k ≠ m → k ≠ m + 15 → up (upA (up M5 m 6 0) (m + 15) (fun j => if 0 ≤ j ∧ j < 400 then 0 else M5 (m + 15) j)) m 13 0 k = M5 k := fun k a b => by rw [up_row a, upA_row b, up_row a]
            have Fm : ∀ j, j ≠ 13 → j ≠ 6 → up (upA (up M5 m 6 0) (m + 15) (fun j => if 0 ≤ j ∧ j < 400 then 0 else M5 (m + 15) j)) m 13 0 m j = M5 m j := fun j a b => by rw [up_i a, upA_k (by omega), up_i b]
            have kk : ∀ j, j ≠ 2 → M5 m j = M m j := fun j a => by rw [k5, up_i a]
            refine ⟨rfl, ⟨⟨n1, n2, hPr⟩, ?_, ?_, ?_, fun e e0 e1 => ?_⟩, fun k hk => ?_, fun j a b c => ?_, ?_, up_s, fun j a b => ?_⟩
            · rw [Fm 0 (by decide) (by decide), k0]
            · rw [Fm 1 (by decide) (by decide), kk 1 (by decide), m_p]
            · rw [Fm 2 (by decide) (by decide), k2]
            · rw [F (m + 1) (by omega) (by omega), F (m + 2) (by omega) (by omega), F (m + 3) (by omega) (by omega)]
              exact hv e e0 (by omega)
            · simp only [List.mem_cons, List.not_mem_nil, or_false, not_or] at hk
              rw [F k (by omega) (by omega), hs5 k (by simp; omega), up_row (by omega), up_row (by omega), up_row (by omega), up_row (by omega)]
            · rw [Fm j c b, kk j a]
            · rw [up_i (by decide), upA_k (by omega), up_s]
            · rw [up_k (by omega), upA_s, if_pos ⟨a, b⟩]
          · skip
            refine ab_aload_n C dX9_start_150 rfl rfl ?_
            refine gf_RX9_64 C s_t rfl dX9_start_151 ?_
            refine ab_iload_n C dX9_start_154 rfl rfl ?_
            refine ab_iconst C dX9_start_155 (by decide) ?_
            refine ab_iastore C s_t_sum (by omega) (by omega) dX9_start_156 ?_
            refine ab_iinc1 (lv := []) C rfl dX9_start_157 (by omega) ?_
            refine ab_goto (tgt := 143) C dX9_start_160 rfl ?_
            refine ab_mem (M2 := upA (up M5 m 6 0) (m + 15) (fun j => if 0 ≤ j ∧ j < (i + 1) then 0 else M5 (m + 15) j)) ?_ (ih () (by omega) (by omega))
            rw [up_upA]
            exact upA_ext (fun j => by
              by_cases q1 : j = i
              · rw [if_pos q1, if_pos (by omega)]
              · rw [if_neg q1]
                by_cases q2 : 0 ≤ j ∧ j < i
                · rw [if_pos q2, if_pos (by omega)]
                · rw [if_neg q2, if_neg (by omega)])
      · skip
        have hB := sz_B n1 n2 d0 (by omega)
        have hQ := sq_B n1 n2 d0 (by omega)
        have hm2 : 0 ≤ n * pw n d ∧ n * pw n d ≤ 3 * 243 := ⟨Int.mul_nonneg (by omega) (by omega), Int.mul_le_mul (by omega) (by omega) (by omega) (by omega)⟩
        obtain ⟨w1, w2, w3⟩ := hv d d0 (Int.le_refl d)
        refine ab_aload_n C dX9_start_62 rfl rfl ?_
        refine gf_RX9_19 C s_t rfl dX9_start_63 ?_
        refine ab_iload_n C dX9_start_66 rfl rfl ?_
        refine ab_iconst C dX9_start_67 (by decide) ?_
        refine ab_iadd C dX9_start_68 (by omega) ?_
        refine ab_aload_n C dX9_start_69 rfl rfl ?_
        refine gf_RX9_7 C s_t rfl dX9_start_70 ?_
        rw [k0]
        refine ab_aload_n C dX9_start_73 rfl rfl ?_
        refine gf_RX9_19 C s_t rfl dX9_start_74 ?_
        refine ab_iload_n C dX9_start_77 rfl rfl ?_
        refine ab_iaload C s_t_words (by omega) (by omega) dX9_start_78 ?_
        rw [w1]
        refine ab_imul C dX9_start_79 (by omega) ?_
        refine ab_iastore C s_t_words (by omega) (by omega) dX9_start_80 ?_
        refine ab_aload_n C dX9_start_81 rfl rfl ?_
        refine gf_RX9_23 C s_t rfl dX9_start_82 ?_
        refine ab_iload_n C dX9_start_85 rfl rfl ?_
        refine ab_iconst C dX9_start_86 (by decide) ?_
        refine ab_iadd C dX9_start_87 (by omega) ?_
        refine ab_aload_n C dX9_start_88 rfl rfl ?_
        refine gf_RX9_23 C s_t rfl dX9_start_89 ?_
        refine ab_iload_n C dX9_start_92 rfl rfl ?_
        refine ab_iaload C s_t_begins (by omega) (by omega) dX9_start_93 ?_
        rw [up_k (show m + 2 ≠ m + 1 by omega), w2]
        refine ab_aload_n C dX9_start_94 rfl rfl ?_
        refine gf_RX9_19 C s_t rfl dX9_start_95 ?_
        refine ab_iload_n C dX9_start_98 rfl rfl ?_
        refine ab_iaload C s_t_words (by omega) (by omega) dX9_start_99 ?_
        rw [up_i (show d ≠ d + 1 by omega), w1]
        refine ab_iadd C dX9_start_100 (by omega) ?_
        refine ab_iastore C s_t_begins (by omega) (by omega) dX9_start_101 ?_
        refine ab_aload_n C dX9_start_102 rfl rfl ?_
        refine gf_RX9_26 C s_t rfl dX9_start_103 ?_
        refine ab_iload_n C dX9_start_106 rfl rfl ?_
        refine ab_iconst C dX9_start_107 (by decide) ?_
        refine ab_iadd C dX9_start_108 (by omega) ?_
        refine ab_aload_n C dX9_start_109 rfl rfl ?_
        refine gf_RX9_26 C s_t rfl dX9_start_110 ?_
        refine ab_iload_n C dX9_start_113 rfl rfl ?_
        refine ab_iaload C s_t_squares (by omega) (by omega) dX9_start_114 ?_
        rw [up_k (show m + 3 ≠ m + 2 by omega), up_k (show m + 3 ≠ m + 1 by omega), w3]
        refine ab_aload_n C dX9_start_115 rfl rfl ?_
        refine gf_RX9_19 C s_t rfl dX9_start_116 ?_
        refine ab_iload_n C dX9_start_119 rfl rfl ?_
        refine ab_iaload C s_t_words (by omega) (by omega) dX9_start_120 ?_
        rw [up_k (show m + 1 ≠ m + 2 by omega), up_i (show d ≠ d + 1 by omega), w1]
        refine ab_aload_n C dX9_start_121 rfl rfl ?_
        refine gf_RX9_19 C s_t rfl dX9_start_122 ?_
        refine ab_iload_n C dX9_start_125 rfl rfl ?_
        refine ab_iaload C s_t_words (by omega) (by omega) dX9_start_126 ?_
        rw [up_k (show m + 1 ≠ m + 2 by omega), up_i (show d ≠ d + 1 by omega), w1]
        refine ab_imul C dX9_start_127 (by omega) ?_
        refine ab_iadd C dX9_start_128 (by omega) ?_
        refine ab_iastore C s_t_squares (by omega) (by omega) dX9_start_129 ?_
        refine ab_iinc1 (lv := []) C rfl dX9_start_130 (by omega) ?_
        refine ab_goto (tgt := 54) C dX9_start_133 rfl ?_
        refine ih _ (by omega) ⟨by omega, ?_, fun j a b => ?_⟩
        · exact same_tr hs5 (same_tr (same_tr (same_up (by simp)) (same_up (by simp))) (same_up (by simp)))
        · by_cases q : j = d + 1
          · subst q
            rw [pw_s d0, wsm_s d0, sqm_s d0]
            refine ⟨?_, ?_, ?_⟩
            · rw [up_k (by omega), up_k (by omega), up_s, Int.mul_comm]
            · rw [up_k (by omega), up_s]
            · rw [up_s]
          · have := hv j a (by omega)
            refine ⟨?_, ?_, ?_⟩
            · rw [up_k (by omega), up_k (by omega), up_i q]; exact this.1
            · rw [up_k (by omega), up_i q, up_k (by omega)]; exact this.2.1
            · rw [up_i q, up_k (by omega), up_k (by omega)]; exact this.2.2
    · have e : j = 0 := by omega
      subst e
      rw [pw_0, wsm_0, sqm_0]
      refine ⟨?_, ?_, ?_⟩
      · rw [up_k (by omega), up_k (by omega), up_s]
      · rw [up_k (by omega), up_s]
      · rw [up_s]
set_option maxRecDepth 100000 in
set_option maxHeartbeats 4000000 in
theorem m_X9_begin {D : va_G} {cA : Nat → ClassId} {S : List AbS} {M : AbM} {m : Nat} {a : St} (B_t : shMo S m) (H : MRel a M m) {x y : Int} : Meth yX9_begin cX9_begin 5 (some .int) rmX9_begin D cA S [vP m, vI x, vI y] M (qI fun q M2 => same (MP m) M M2 ∧ ∃ b, oBegin a x y q b ∧ MRel b M2 m) := by
  refine ab_intro (lv := [vP m, vI x, vI y, vU, vU]) (by decide +kernel) rfl (Nat.le_of_ble_eq_true rfl) ?_
  intro hO hargs K hKD hKA C r
  have C : Cx K cX9_begin RX9 rmX9_begin := C
  have i_x : inI x := hargs _ (List.mem_cons_of_mem _ (List.mem_cons_self))
  have i_y : inI y := hargs _ (List.mem_cons_of_mem _ (List.mem_cons_of_mem _ (List.mem_cons_self)))
  obtain ⟨s_t, s_t_words, s_t_begins, s_t_squares, s_t_lengths, s_t_numbers, s_t_made, s_t_tape, s_t_rows, s_t_leads, s_t_otherRows, s_t_otherLeads, s_t_row, s_t_equations, s_t_firsts, s_t_sum, s_t_lanes, s_t_sizes, s_t_items⟩ := id B_t
  obtain ⟨A_t, hLw, hR, ⟨hSm, hSm0⟩, hTp, hSh⟩ := id H
  obtain ⟨⟨n1, n2, hPr⟩, m_n, m_p, m_L, m_w⟩ := id A_t
  obtain ⟨p1, p2, -⟩ := id hPr
  have hLB := Lg_B a.n
  refine ab_iload_n C dX9_begin_0 rfl rfl ?_
  refine ab_i2l C dX9_begin_1 ?_
  refine ab_ldc2 (n := 2) C gw808 dX9_begin_2 (by decide) (by decide +kernel) ?_
  refine ab_ldc2 (n := 97) C gw809 dX9_begin_5 (by decide) (by decide +kernel) ?_
  refine ab_callS C cl_RX9_90 (m_X9_in) (by decide) rfl rfl (Nat.le_of_ble_eq_true rfl) dX9_begin_8 (ab_kI (fun r_8 M_8 h_8 => ?_))
  obtain ⟨rfl, rfl⟩ := h_8
  refine ab_istore3 (lv := []) C rfl dX9_begin_11 ?_
  obtain ⟨k0, hk0⟩ : ∃ k0, (if 2 ≤ y ∧ y ≤ 97 then (1 : Int) else 0) = k0 := ⟨_, rfl⟩
  rw [hk0]
  have hk1 : k0 = 1 ↔ (2 ≤ y ∧ y ≤ 97) := by rw [← hk0]; split <;> omega
  have hk2 : k0 = 0 ∨ k0 = 1 := by rw [← hk0]; split <;> omega
  refine ab_iconst C dX9_begin_12 (by decide) ?_
  refine ab_istore4 (lv := []) C rfl dX9_begin_13 ?_
  refine ab_loop (fun i (k : Int) => AJ K S 15 [vP m, vI x, vI y, vI k, vI i] [] M) (fun i k => 2 ≤ i ∧ (0 ≤ k ∧ (k = 1 ↔ (2 ≤ y ∧ y ≤ 97 ∧ ∀ z9, 2 ≤ z9 → z9 < i → y % z9 ≠ 0)) ∧ (k = 0 ∨ k = 1))) (max 2 y) ?_ 2 k0 (by omega) ⟨by omega, by omega, ⟨fun z => ⟨(hk1.mp z).1, (hk1.mp z).2, fun i a b => by omega⟩, fun z => hk1.mpr ⟨z.1, z.2.1⟩⟩, hk2⟩
  · intro i k hi hI ih
    obtain ⟨i2, k0_, hk, k01⟩ := hI
    refine ab_iload C dX9_begin_15 rfl ?_
    refine ab_iload_n C dX9_begin_17 rfl rfl ?_
    refine ab_icmp_ge (tgt := 44) C dX9_begin_18 rfl (fun h_18 => ?_) (fun h_18 => ?_)
    · skip
      refine ab_iload_n C dX9_begin_44 rfl rfl ?_
      refine ab_i2l C dX9_begin_45 ?_
      refine ab_lconst (n := 1) C dX9_begin_46 (by decide) (by decide +kernel) ?_
      refine ab_ldc2 (n := 3) C gw810 dX9_begin_47 (by decide) (by decide +kernel) ?_
      refine ab_callS C cl_RX9_90 (m_X9_in) (by decide) rfl rfl (Nat.le_of_ble_eq_true rfl) dX9_begin_50 (ab_kI (fun r_50 M_50 h_50 => ?_))
      obtain ⟨rfl, rfl⟩ := h_50
      refine ab_if_eq (tgt := 60) C dX9_begin_53 rfl (fun h_53 => ?_) (fun h_53 => ?_)
      · skip
        have hx := b01_eq h_53
        refine ab_iconst C dX9_begin_60 (by decide) ?_
        refine ab_iret (st := []) C r dX9_begin_61 ?_
        refine ⟨_, rfl, same_rf _ _, a, Or.inr ⟨fun z => ?_, rfl, rfl⟩, H⟩
        first
        | exact hx ⟨z.1, z.2.1⟩
        | (obtain ⟨-, -, z1, z2, z3⟩ := z
           have := hk.mpr ⟨z1, z2, fun j a b => z3 j a (by omega)⟩
           omega)
      · skip
        have hx := b01_ne h_53
        refine ab_iload_n C dX9_begin_56 rfl rfl ?_
        refine ab_if_ne (tgt := 62) C dX9_begin_57 rfl (fun h_57 => ?_) (fun h_57 => ?_)
        · skip
          have hPy : Pr y := by
            have h9 := hk.mp (by omega)
            refine ⟨h9.1, h9.2.1, fun j a b => ?_⟩
            rcases (show j < i ∨ i ≤ j by omega) with q | q
            · exact h9.2.2 j a q
            · exfalso; omega
          refine ab_aload_n C dX9_begin_62 rfl rfl ?_
          refine ab_iload_n C dX9_begin_63 rfl rfl ?_
          refine pf_RX9_7 C s_t rfl dX9_begin_64 ?_
          refine ab_aload_n C dX9_begin_67 rfl rfl ?_
          refine ab_iload_n C dX9_begin_68 rfl rfl ?_
          refine pf_RX9_13 C s_t rfl dX9_begin_69 ?_
          refine ab_aload_n C dX9_begin_72 rfl rfl ?_
          refine ab_callV C cl_RX9_76 (m_X9_start (n := x) (p := y) B_t (by omega) (by omega) hPy (by rw [up_i (by decide), up_s]) (by rw [up_s])) (by decide) rfl s_t rfl rfl (Nat.le_of_ble_eq_true rfl) dX9_begin_73 (ab_kV (fun M_73 h_73 => ?_))
          obtain ⟨hA2, hs2, hj2, h62, h132, h152⟩ := h_73
          refine ab_aload_n C dX9_begin_76 rfl rfl ?_
          refine gf_RX9_16 C s_t rfl dX9_begin_77 ?_
          refine ab_iret (st := []) C r dX9_begin_80 ?_
          rw [hA2.2.2.2.1]
          have hx2 : 1 ≤ x ∧ x ≤ 3 ∧ Pr y := ⟨hx.1, hx.2, hPy⟩
          have hsA : same (MP m) M M_73 := same_tr (same_tr (same_up (by simp)) (same_up (by simp))) (same_mono hs2 (by intro k hk; simp only [List.mem_cons, List.not_mem_nil, or_false] at hk ⊢; omega))
          refine ⟨_, rfl, hsA, a.beg x y, Or.inl ⟨hx2, rfl, rfl⟩, ?_⟩
          have R : ∀ k, k ≠ m → k ≠ m + 1 → k ≠ m + 2 → k ≠ m + 3 → k ≠ m + 15 → M_73 k = M k := fun k a b c d e => by rw [hs2 k (by simp; omega), up_row a, up_row a]
          have h11 : M_73 m 11 = M m 11 := by rw [hj2 11 (by decide) (by decide) (by decide), up_i (by decide), up_i (by decide)]
          unfold MRel
          rw [R (m + 4) (by omega) (by omega) (by omega) (by omega) (by omega), R (m + 5) (by omega) (by omega) (by omega) (by omega) (by omega), R (m + 7) (by omega) (by omega) (by omega) (by omega) (by omega), R (m + 16) (by omega) (by omega) (by omega) (by omega) (by omega), R (m + 17) (by omega) (by omega) (by omega) (by omega) (by omega), R (m + 18) (by omega) (by omega) (by omega) (by omega) (by omega), h11, h62]
          refine ⟨hA2, ⟨rfl, ⟨Int.le_refl 0, by show (0 : Int) ≤ 8; decide⟩, fun i i0 i1 => absurd (show i < 0 from i1) (by omega)⟩, MRd.no h132, ⟨⟨fun j j0 j1 => ⟨h152 j j0 (by omega), Int.le_refl 0, ?_⟩, fun j _ _ => rfl⟩, fun j j0 j1 => h152 j (by omega) j1⟩, hTp, hSh⟩
          show (0 : Int) < y
          have := hPy.1
          omega
        · skip
          refine ab_iconst C dX9_begin_60 (by decide) ?_
          refine ab_iret (st := []) C r dX9_begin_61 ?_
          refine ⟨_, rfl, same_rf _ _, a, Or.inr ⟨fun z => ?_, rfl, rfl⟩, H⟩
          first
          | exact hx ⟨z.1, z.2.1⟩
          | (obtain ⟨-, -, z1, z2, z3⟩ := z
             have := hk.mpr ⟨z1, z2, fun j a b => z3 j a (by omega)⟩
             omega)
    · skip
      refine ab_iload_n C dX9_begin_21 rfl rfl ?_
      refine ab_if_eq (tgt := 44) C dX9_begin_22 rfl (fun h_22 => ?_) (fun h_22 => ?_)
      · skip
        refine ab_iload_n C dX9_begin_44 rfl rfl ?_
        refine ab_i2l C dX9_begin_45 ?_
        refine ab_lconst (n := 1) C dX9_begin_46 (by decide) (by decide +kernel) ?_
        refine ab_ldc2 (n := 3) C gw810 dX9_begin_47 (by decide) (by decide +kernel) ?_
        refine ab_callS C cl_RX9_90 (m_X9_in) (by decide) rfl rfl (Nat.le_of_ble_eq_true rfl) dX9_begin_50 (ab_kI (fun r_50 M_50 h_50 => ?_))
        obtain ⟨rfl, rfl⟩ := h_50
        refine ab_if_eq (tgt := 60) C dX9_begin_53 rfl (fun h_53 => ?_) (fun h_53 => ?_)
        · skip
          have hx := b01_eq h_53
          refine ab_iconst C dX9_begin_60 (by decide) ?_
          refine ab_iret (st := []) C r dX9_begin_61 ?_
          refine ⟨_, rfl, same_rf _ _, a, Or.inr ⟨fun z => ?_, rfl, rfl⟩, H⟩
          first
          | exact hx ⟨z.1, z.2.1⟩
          | (obtain ⟨-, -, z1, z2, z3⟩ := z
             have := hk.mpr ⟨z1, z2, fun j a b => z3 j a (by omega)⟩
             omega)
        · skip
          have hx := b01_ne h_53
          refine ab_iload_n C dX9_begin_56 rfl rfl ?_
          refine ab_if_ne (tgt := 62) C dX9_begin_57 rfl (fun h_57 => ?_) (fun h_57 => ?_)
          · skip
            have hPy : Pr y := by
              have h9 := hk.mp (by omega)
              refine ⟨h9.1, h9.2.1, fun j a b => ?_⟩
              rcases (show j < i ∨ i ≤ j by omega) with q | q
              · exact h9.2.2 j a q
              · exfalso; omega
            refine ab_aload_n C dX9_begin_62 rfl rfl ?_
            refine ab_iload_n C dX9_begin_63 rfl rfl ?_
            refine pf_RX9_7 C s_t rfl dX9_begin_64 ?_
            refine ab_aload_n C dX9_begin_67 rfl rfl ?_
            refine ab_iload_n C dX9_begin_68 rfl rfl ?_
            refine pf_RX9_13 C s_t rfl dX9_begin_69 ?_
            refine ab_aload_n C dX9_begin_72 rfl rfl ?_
            refine ab_callV C cl_RX9_76 (m_X9_start (n := x) (p := y) B_t (by omega) (by omega) hPy (by rw [up_i (by decide), up_s]) (by rw [up_s])) (by decide) rfl s_t rfl rfl (Nat.le_of_ble_eq_true rfl) dX9_begin_73 (ab_kV (fun M_73 h_73 => ?_))
            obtain ⟨hA2, hs2, hj2, h62, h132, h152⟩ := h_73
            refine ab_aload_n C dX9_begin_76 rfl rfl ?_
            refine gf_RX9_16 C s_t rfl dX9_begin_77 ?_
            refine ab_iret (st := []) C r dX9_begin_80 ?_
            rw [hA2.2.2.2.1]
            have hx2 : 1 ≤ x ∧ x ≤ 3 ∧ Pr y := ⟨hx.1, hx.2, hPy⟩
            have hsA : same (MP m) M M_73 := same_tr (same_tr (same_up (by simp)) (same_up (by simp))) (same_mono hs2 (by intro k hk; simp only [List.mem_cons, List.not_mem_nil, or_false] at hk ⊢; omega))
            refine ⟨_, rfl, hsA, a.beg x y, Or.inl ⟨hx2, rfl, rfl⟩, ?_⟩
            have R : ∀ k, k ≠ m → k ≠ m + 1 → k ≠ m + 2 → k ≠ m + 3 → k ≠ m + 15 → M_73 k = M k := fun k a b c d e => by rw [hs2 k (by simp; omega), up_row a, up_row a]
            have h11 : M_73 m 11 = M m 11 := by rw [hj2 11 (by decide) (by decide) (by decide), up_i (by decide), up_i (by decide)]
            unfold MRel
            rw [R (m + 4) (by omega) (by omega) (by omega) (by omega) (by omega), R (m + 5) (by omega) (by omega) (by omega) (by omega) (by omega), R (m + 7) (by omega) (by omega) (by omega) (by omega) (by omega), R (m + 16) (by omega) (by omega) (by omega) (by omega) (by omega), R (m + 17) (by omega) (by omega) (by omega) (by omega) (by omega), R (m + 18) (by omega) (by omega) (by omega) (by omega) (by omega), h11, h62]
            refine ⟨hA2, ⟨rfl, ⟨Int.le_refl 0, by show (0 : Int) ≤ 8; decide⟩, fun i i0 i1 => absurd (show i < 0 from i1) (by omega)⟩, MRd.no h132, ⟨⟨fun j j0 j1 => ⟨h152 j j0 (by omega), Int.le_refl 0, ?_⟩, fun j _ _ => rfl⟩, fun j j0 j1 => h152 j (by omega) j1⟩, hTp, hSh⟩
            show (0 : Int) < y
            have := hPy.1
            omega
          · skip
            refine ab_iconst C dX9_begin_60 (by decide) ?_
            refine ab_iret (st := []) C r dX9_begin_61 ?_
            refine ⟨_, rfl, same_rf _ _, a, Or.inr ⟨fun z => ?_, rfl, rfl⟩, H⟩
            first
            | exact hx ⟨z.1, z.2.1⟩
            | (obtain ⟨-, -, z1, z2, z3⟩ := z
               have := hk.mpr ⟨z1, z2, fun j a b => z3 j a (by omega)⟩
               omega)
      · skip
        refine ab_iload_n C dX9_begin_25 rfl rfl ?_
        refine ab_iload C dX9_begin_26 rfl ?_
        refine ab_irem C dX9_begin_28 (by have := hk.mp (by omega); omega) (by omega) ?_
        refine ab_if_eq (tgt := 36) C dX9_begin_29 rfl (fun h_29 => ?_) (fun h_29 => ?_)
        · skip
          refine ab_iconst C dX9_begin_36 (by decide) ?_
          refine ab_istore3 (lv := []) C rfl dX9_begin_37 ?_
          refine ab_iinc4 (lv := []) C rfl dX9_begin_38 (by omega) ?_
          refine ab_goto (tgt := 15) C dX9_begin_41 rfl ?_
          refine ih _ (by omega) ⟨by omega, by omega, ⟨fun z => ?_, fun z => ?_⟩, by omega⟩
          · first
            | (exfalso; revert z; decide)
            | (have hk9 := hk.mp (by omega)
               refine ⟨hk9.1, hk9.2.1, fun j a b => ?_⟩
               rcases (show j < i ∨ j = i by omega) with q | q
               · exact hk9.2.2 j a q
               · rw [q]; exact h_29)
          · first
            | rfl
            | exact absurd h_29 (z.2.2 i i2 (by omega))
        · skip
          refine ab_iconst C dX9_begin_32 (by decide) ?_
          refine ab_goto (tgt := 37) C dX9_begin_33 rfl ?_
          refine ab_istore3 (lv := []) C rfl dX9_begin_37 ?_
          refine ab_iinc4 (lv := []) C rfl dX9_begin_38 (by omega) ?_
          refine ab_goto (tgt := 15) C dX9_begin_41 rfl ?_
          refine ih _ (by omega) ⟨by omega, by omega, ⟨fun z => ?_, fun z => ?_⟩, by omega⟩
          · first
            | (exfalso; revert z; decide)
            | (have hk9 := hk.mp (by omega)
               refine ⟨hk9.1, hk9.2.1, fun j a b => ?_⟩
               rcases (show j < i ∨ j = i by omega) with q | q
               · exact hk9.2.2 j a q
               · rw [q]; exact h_29)
          · first
            | rfl
            | exact absurd h_29 (z.2.2 i i2 (by omega))
set_option maxRecDepth 100000 in
set_option maxHeartbeats 4000000 in
theorem m_X9_type {D : va_G} {cA : Nat → ClassId} {S : List AbS} {M : AbM} {m : Nat} {a : St} (B_t : shMo S m) (H : MRel a M m) {w k : Int} : Meth yX9_type cX9_type 5 (some .int) rmX9_type D cA S [vP m, vL w, vI k] M (qI fun q M2 => same (MP m) M M2 ∧ ∃ b, oType a w k q b ∧ MRel b M2 m) := by
  refine ab_intro (lv := [vP m, vL w, vU, vI k, vU]) (by decide +kernel) rfl (Nat.le_of_ble_eq_true rfl) ?_
  intro hO hargs K hKD hKA C r
  have C : Cx K cX9_type RX9 rmX9_type := C
  have i_w : inL w := hargs _ (List.mem_cons_of_mem _ (List.mem_cons_self))
  have i_k : inI k := hargs _ (List.mem_cons_of_mem _ (List.mem_cons_of_mem _ (List.mem_cons_self)))
  obtain ⟨s_t, s_t_words, s_t_begins, s_t_squares, s_t_lengths, s_t_numbers, s_t_made, s_t_tape, s_t_rows, s_t_leads, s_t_otherRows, s_t_otherLeads, s_t_row, s_t_equations, s_t_firsts, s_t_sum, s_t_lanes, s_t_sizes, s_t_items⟩ := id B_t
  obtain ⟨A_t, hLw, hR, ⟨hSm, hSm0⟩, hTp, hSh⟩ := id H
  obtain ⟨⟨n1, n2, hPr⟩, m_n, m_p, m_L, m_w⟩ := id A_t
  obtain ⟨p1, p2, -⟩ := id hPr
  have hLB := Lg_B a.n
  have hwL : -9223372036854775808 ≤ w ∧ w ≤ 9223372036854775807 := i_w
  obtain ⟨t11, tB, tV⟩ := id hTp
  refine ab_iload_n C dX9_type_0 rfl rfl ?_
  refine ab_i2l C dX9_type_1 ?_
  refine ab_lconst (n := 1) C dX9_type_2 (by decide) (by decide +kernel) ?_
  refine ab_ldc2 (n := 8) C gw811 dX9_type_3 (by decide) (by decide +kernel) ?_
  refine ab_callS C cl_RX9_90 (m_X9_in) (by decide) rfl rfl (Nat.le_of_ble_eq_true rfl) dX9_type_6 (ab_kI (fun r_6 M_6 h_6 => ?_))
  obtain ⟨rfl, rfl⟩ := h_6
  refine ab_if_ne (tgt := 14) C dX9_type_9 rfl (fun h_9 => ?_) (fun h_9 => ?_)
  · skip
    have hk := b01_ne h_9
    refine ab_iload_n C dX9_type_14 rfl rfl ?_
    refine ab_iconst C dX9_type_15 (by decide) ?_
    refine ab_isub C dX9_type_16 (by omega) ?_
    refine ab_istore4 (lv := []) C rfl dX9_type_17 ?_
    refine ab_loopM (fun (i : Int) => AJ K S 19 [vP m, vL w, vU, vI k, vI i] [] M) (fun i => (-1 ≤ i ∧ i < k) ∧ ∀ j, i < j → j < k → 32 ≤ bt w j ∧ bt w j ≤ 126) (fun i => (i + 1).toNat) ?_ (k - 1) ⟨⟨by omega, by omega⟩, fun j a b => by omega⟩
    · intro i hI ih
      obtain ⟨⟨ia, ib⟩, hv⟩ := hI
      refine ab_iload C dX9_type_19 rfl ?_
      refine ab_if_lt (tgt := 55) C dX9_type_21 rfl (fun h_21 => ?_) (fun h_21 => ?_)
      · skip
        refine ab_aload_n C dX9_type_55 rfl rfl ?_
        refine gf_RX9_104 C s_t rfl dX9_type_56 ?_
        rw [t11]
        refine ab_iload_n C dX9_type_59 rfl rfl ?_
        refine ab_iadd C dX9_type_60 (by omega) ?_
        refine ab_bipush C dX9_type_61 (by decide) (by decide +kernel) ?_
        refine ab_icmp_le (tgt := 69) C dX9_type_63 rfl (fun h_63 => ?_) (fun h_63 => ?_)
        · skip
          refine ab_iload_n C dX9_type_69 rfl rfl ?_
          refine ab_iconst C dX9_type_70 (by decide) ?_
          refine ab_isub C dX9_type_71 (by omega) ?_
          refine ab_istore4 (lv := []) C rfl dX9_type_72 ?_
          have hOK : btOK w k := ⟨hk.1, hk.2, fun j a b => hv j (by omega) b⟩
          refine ab_mem (M2 := up (upA M (m + 7) (fun x => if a.tn ≤ x ∧ x < a.tn + (k - 1 - (k - 1)) then bt w (a.tn + k - 1 - x) else M (m + 7) x)) m 11 (a.tn + (k - 1 - (k - 1)))) (by rw [← upA_id (fun j => if_neg (by omega)), show a.tn + (k - 1 - (k - 1)) = M m 11 by omega, up_id]) ?_
          refine ab_loopM (fun (i : Int) => AJ K S 74 [vP m, vL w, vU, vI k, vI i] [] (up (upA M (m + 7) (fun x => if a.tn ≤ x ∧ x < a.tn + (k - 1 - i) then bt w (a.tn + k - 1 - x) else M (m + 7) x)) m 11 (a.tn + (k - 1 - i)))) (fun i => -1 ≤ i ∧ i < k) (fun i => (i + 1).toNat) ?_ (k - 1) ⟨by omega, by omega⟩
          · intro i hI ih
            obtain ⟨ia, ib⟩ := hI
            have s11 : up (upA M (m + 7) (fun x => if a.tn ≤ x ∧ x < a.tn + (k - 1 - i) then bt w (a.tn + k - 1 - x) else M (m + 7) x)) m 11 (a.tn + (k - 1 - i)) m 11 = a.tn + (k - 1 - i) := up_s
            refine ab_iload C dX9_type_74 rfl ?_
            refine ab_if_lt (tgt := 116) C dX9_type_76 rfl (fun h_76 => ?_) (fun h_76 => ?_)
            · skip
              refine ab_aload_n C dX9_type_116 rfl rfl ?_
              refine gf_RX9_104 C s_t rfl dX9_type_117 ?_
              rw [s11]
              refine ab_iret (st := []) C r dX9_type_120 ?_
              have ei : i = -1 := by omega
              subst ei
              refine ⟨_, rfl, same_tr (same_upA (by simp)) (same_up (by simp)), a.typ w k, Or.inr (Or.inr ⟨hOK, by omega, by omega, rfl⟩), ?_⟩
              have F : ∀ k9, k9 ≠ m → k9 ≠ m + 7 → up (upA M (m + 7) (fun x => if a.tn ≤ x ∧ x < a.tn + (k - 1 - -1) then bt w (a.tn + k - 1 - x) else M (m + 7) x)) m 11 (a.tn + (k - 1 - -1)) k9 = M k9 := fun k9 x y => by rw [up_row x, upA_row y]
              have Fm : ∀ j, j ≠ 11 → up (upA M (m + 7) (fun x => if a.tn ≤ x ∧ x < a.tn + (k - 1 - -1) then bt w (a.tn + k - 1 - x) else M (m + 7) x)) m 11 (a.tn + (k - 1 - -1)) m j = M m j := fun j x => by rw [up_i x, upA_k (by omega)]
              unfold MRel
              rw [F (m + 4) (by omega) (by omega), F (m + 5) (by omega) (by omega), F (m + 15) (by omega) (by omega), F (m + 16) (by omega) (by omega), F (m + 17) (by omega) (by omega), F (m + 18) (by omega) (by omega), Fm 6 (by decide), s11]
              refine ⟨A_t.of (Fm 0 (by decide)) (Fm 1 (by decide)) (Fm 2 (by decide)) (F _ (by omega) (by omega)) (F _ (by omega) (by omega)) (F _ (by omega) (by omega)), hLw, hR.rows (Fm 6 (by decide)) (Fm 13 (by decide)) (Fm 14 (by decide)) (F _ (by omega) (by omega)) (F _ (by omega) (by omega)) (F _ (by omega) (by omega)) (F _ (by omega) (by omega)) (F _ (by omega) (by omega)) (F _ (by omega) (by omega)), ⟨hSm, hSm0⟩, ⟨?_, ?_, fun i i0 i1 => ?_⟩, hSh⟩
              · show a.tn + (k - 1 - -1) = a.tn + k; omega
              · show 0 ≤ a.tn + k ∧ a.tn + k ≤ 80; omega
              · have i1 : i < a.tn + k := i1
                show _ = (if a.tn ≤ i then bt w (a.tn + k - 1 - i) else a.tp i) ∧ 32 ≤ (if a.tn ≤ i then bt w (a.tn + k - 1 - i) else a.tp i) ∧ (if a.tn ≤ i then bt w (a.tn + k - 1 - i) else a.tp i) ≤ 126
                rw [up_k (by omega), upA_s]
                by_cases z : a.tn ≤ i
                · rw [if_pos z, if_pos (by omega)]
                  exact ⟨rfl, hOK.2.2 _ (by omega) (by omega)⟩
                · rw [if_neg z, if_neg (by omega)]
                  exact tV i i0 (by omega)
            · skip
              have hbt : 0 ≤ bt w i ∧ bt w i < 256 := ⟨Int.emod_nonneg _ (by decide), Int.emod_lt_of_pos _ (by decide)⟩
              have hdv := sh_in (i := i) hwL
              refine ab_aload_n C dX9_type_79 rfl rfl ?_
              refine gf_RX9_38 C s_t rfl dX9_type_80 ?_
              refine ab_aload_n C dX9_type_83 rfl rfl ?_
              refine gf_RX9_104 C s_t rfl dX9_type_84 ?_
              rw [s11]
              refine ab_lload_n C dX9_type_87 rfl rfl ?_
              refine ab_bipush C dX9_type_88 (by decide) (by decide +kernel) ?_
              refine ab_iload C dX9_type_90 rfl ?_
              refine ab_imul C dX9_type_92 (by omega) ?_
              refine ab_lshr (z := w / 2 ^ (8 * i).toNat) C dX9_type_93 hdv (bit_lshr hwL.1 hwL.2 (by omega) (by omega)) ?_
              refine ab_ldc2 (n := 255) C gw812 dX9_type_94 (by decide) (by decide +kernel) ?_
              refine ab_land (z := bt w i) C dX9_type_97 (by unfold inL; omega) (bit_land hdv.1 hdv.2) ?_
              refine ab_l2iS C dX9_type_98 (by omega) ?_
              refine ab_iastore C s_t_tape (by omega) (by omega) dX9_type_99 ?_
              refine ab_aload_n C dX9_type_100 rfl rfl ?_
              refine ab_dup C dX9_type_101 rfl ?_
              refine gf_RX9_104 C s_t rfl dX9_type_102 ?_
              rw [up_k (show m ≠ m + 7 by omega), s11]
              refine ab_iconst C dX9_type_105 (by decide) ?_
              refine ab_iadd C dX9_type_106 (by omega) ?_
              refine pf_RX9_104 C s_t rfl dX9_type_107 ?_
              refine ab_iinc4 (lv := []) C rfl dX9_type_110 (by omega) ?_
              refine ab_goto (tgt := 74) C dX9_type_113 rfl ?_
              refine ab_mem ?_ (ih (i + -1) (by omega) ⟨by omega, by omega⟩)
              funext k9 x9
              by_cases q : k9 = m
              · subst q
                by_cases z : x9 = 11
                · subst z; rw [up_s, up_s]; omega
                · rw [up_i z, up_i z, up_k (by omega), up_i z, upA_k (by omega), upA_k (by omega)]
              · rw [up_k q, up_k q]
                by_cases q2 : k9 = m + 7
                · subst q2
                  rw [upA_s]
                  by_cases z : x9 = a.tn + (k - 1 - i)
                  · rw [z, up_s, if_pos (by omega), show a.tn + k - 1 - (a.tn + (k - 1 - i)) = i by omega]
                  · rw [up_i z, up_k (by omega), upA_s]
                    by_cases y : a.tn ≤ x9 ∧ x9 < a.tn + (k - 1 - i)
                    · rw [if_pos y, if_pos (by omega)]
                    · rw [if_neg y, if_neg (by omega)]
                · rw [up_k q2, up_k q, upA_k q2, upA_k q2]
        · skip
          refine ab_bipush C dX9_type_66 (by decide) (by decide +kernel) ?_
          refine ab_iret (st := []) C r dX9_type_68 ?_
          exact ⟨_, rfl, same_rf _ _, a, Or.inr (Or.inl ⟨⟨hk.1, hk.2, fun j a b => hv j (by omega) b⟩, by omega, rfl, rfl⟩), H⟩
      · skip
        have hbt : 0 ≤ bt w i ∧ bt w i < 256 := ⟨Int.emod_nonneg _ (by decide), Int.emod_lt_of_pos _ (by decide)⟩
        have hdv := sh_in (i := i) hwL
        refine ab_lload_n C dX9_type_24 rfl rfl ?_
        refine ab_bipush C dX9_type_25 (by decide) (by decide +kernel) ?_
        refine ab_iload C dX9_type_27 rfl ?_
        refine ab_imul C dX9_type_29 (by omega) ?_
        refine ab_lshr (z := w / 2 ^ (8 * i).toNat) C dX9_type_30 hdv (bit_lshr hwL.1 hwL.2 (by omega) (by omega)) ?_
        refine ab_ldc2 (n := 255) C gw812 dX9_type_31 (by decide) (by decide +kernel) ?_
        refine ab_land (z := bt w i) C dX9_type_34 (by unfold inL; omega) (bit_land hdv.1 hdv.2) ?_
        refine ab_ldc2 (n := 32) C gw801 dX9_type_35 (by decide) (by decide +kernel) ?_
        refine ab_ldc2 (n := 126) C gw802 dX9_type_38 (by decide) (by decide +kernel) ?_
        refine ab_callS C cl_RX9_90 (m_X9_in) (by decide) rfl rfl (Nat.le_of_ble_eq_true rfl) dX9_type_41 (ab_kI (fun r_41 M_41 h_41 => ?_))
        obtain ⟨rfl, rfl⟩ := h_41
        refine ab_if_ne (tgt := 49) C dX9_type_44 rfl (fun h_44 => ?_) (fun h_44 => ?_)
        · skip
          have hbk := b01_ne h_44
          refine ab_iinc4 (lv := []) C rfl dX9_type_49 (by omega) ?_
          refine ab_goto (tgt := 19) C dX9_type_52 rfl ?_
          refine ih (i + -1) (by omega) ⟨⟨by omega, by omega⟩, fun j a b => ?_⟩
          rcases (show j = i ∨ i < j by omega) with q | q
          · rw [q]; exact hbk
          · exact hv j q b
        · skip
          have hbk := b01_eq h_44
          refine ab_iconst C dX9_type_47 (by decide) ?_
          refine ab_iret (st := []) C r dX9_type_48 ?_
          exact ⟨_, rfl, same_rf _ _, a, Or.inl ⟨fun z => hbk (z.2.2 i (by omega) ib), rfl, rfl⟩, H⟩
  · skip
    have hk := b01_eq h_9
    refine ab_iconst C dX9_type_12 (by decide) ?_
    refine ab_iret (st := []) C r dX9_type_13 ?_
    exact ⟨_, rfl, same_rf _ _, a, Or.inl ⟨fun z => hk ⟨z.1, z.2.1⟩, rfl, rfl⟩, H⟩
