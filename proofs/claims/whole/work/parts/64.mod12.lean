set_option maxRecDepth 100000 in
set_option maxHeartbeats 4000000 in
theorem m_X9_add {D : va_G} {cA : Nat → ClassId} {S : List AbS} {M : AbM} {m : Nat} {a : St} (B_t : shMo S m) (H : MRel a M m) {d : Int} {v : Int → Int} (d2 : 2 ≤ d) (d4 : d ≤ 4) (hv : ∀ w, 0 ≤ w → w < pw a.n d → M (m + 6) (wsm a.n d + w) = v (wsm a.n d + w) ∧ 0 ≤ v (wsm a.n d + w) ∧ v (wsm a.n d + w) < a.p) : Meth yX9_add cX9_add 3 (some .int) rmX9_add D cA S [vP m, vI d] M (qI fun q M2 => same (MP m) M M2 ∧ ∃ b, oAdd a d v q b ∧ MRel b M2 m) := by
  refine ab_intro (lv := [vP m, vI d, vU]) (by decide +kernel) rfl (Nat.le_of_ble_eq_true rfl) ?_
  intro hO hargs K hKD hKA C r
  have C : Cx K cX9_add RX9 rmX9_add := C
  have i_d : inI d := hargs _ (List.mem_cons_of_mem _ (List.mem_cons_self))
  obtain ⟨s_t, s_t_words, s_t_begins, s_t_squares, s_t_lengths, s_t_numbers, s_t_made, s_t_tape, s_t_rows, s_t_leads, s_t_otherRows, s_t_otherLeads, s_t_row, s_t_equations, s_t_firsts, s_t_sum, s_t_lanes, s_t_sizes, s_t_items⟩ := id B_t
  obtain ⟨A_t, hLw, hR, ⟨hSm, hSm0⟩, hTp, hSh⟩ := id H
  obtain ⟨⟨n1, n2, hPr⟩, m_n, m_p, m_L, m_w⟩ := id A_t
  obtain ⟨p1, p2, -⟩ := id hPr
  have hLB := Lg_B a.n
  obtain ⟨l6, ⟨z0, z8⟩, hl⟩ := id hLw
  have hB := sz_B n1 n2 (show 0 ≤ d by omega) (show d ≤ Lg a.n by omega)
  have h81 := law_len n1 n2 d2 d4
  obtain ⟨e_w, e_b, -⟩ := m_w d (by omega) (by omega)
  refine ab_aload_n C dX9_add_0 rfl rfl ?_
  refine gf_RX9_79 C s_t rfl dX9_add_1 ?_
  rw [l6]
  refine ab_bipush C dX9_add_4 (by decide) (by decide +kernel) ?_
  refine ab_icmp_ne (tgt := 12) C dX9_add_6 rfl (fun h_6 => ?_) (fun h_6 => ?_)
  · skip
    refine ab_aload_n C dX9_add_12 rfl rfl ?_
    refine gf_RX9_29 C s_t rfl dX9_add_13 ?_
    refine ab_aload_n C dX9_add_16 rfl rfl ?_
    refine gf_RX9_79 C s_t rfl dX9_add_17 ?_
    rw [l6]
    refine ab_iload_n C dX9_add_20 rfl rfl ?_
    refine ab_iastore C s_t_lengths (by omega) (by omega) dX9_add_21 ?_
    refine ab_iconst C dX9_add_22 (by decide) ?_
    refine ab_istore2 (lv := []) C rfl dX9_add_23 ?_
    refine ab_mem (M2 := (upA (up M (m + 4) a.sz d) (m + 5) (fun x => if 81 * a.sz ≤ x ∧ x < 81 * a.sz + (0 : Int) then M (m + 6) (wsm a.n d + (x - 81 * a.sz)) else M (m + 5) x))) (upA_id (fun j => by rw [if_neg (by omega), up_k (by omega)])) ?_
    refine ab_loop (fun w (_ : Unit) => AJ K S 24 [vP m, vI d, vI w] [] (upA (up M (m + 4) a.sz d) (m + 5) (fun x => if 81 * a.sz ≤ x ∧ x < 81 * a.sz + w then M (m + 6) (wsm a.n d + (x - 81 * a.sz)) else M (m + 5) x))) (fun w _ => 0 ≤ w) (pw a.n d) ?_ 0 () (by omega) (by omega)
    · intro w _ hw w0 ih
      have t1 : (upA (up M (m + 4) a.sz d) (m + 5) (fun x => if 81 * a.sz ≤ x ∧ x < 81 * a.sz + w then M (m + 6) (wsm a.n d + (x - 81 * a.sz)) else M (m + 5) x)) (m + 1) d = pw a.n d := by rw [upA_k (by omega), up_k (by omega), e_w]
      have t2 : (upA (up M (m + 4) a.sz d) (m + 5) (fun x => if 81 * a.sz ≤ x ∧ x < 81 * a.sz + w then M (m + 6) (wsm a.n d + (x - 81 * a.sz)) else M (m + 5) x)) (m + 2) d = wsm a.n d := by rw [upA_k (by omega), up_k (by omega), e_b]
      have t6 : (upA (up M (m + 4) a.sz d) (m + 5) (fun x => if 81 * a.sz ≤ x ∧ x < 81 * a.sz + w then M (m + 6) (wsm a.n d + (x - 81 * a.sz)) else M (m + 5) x)) m 6 = a.sz := by rw [upA_k (by omega), up_k (by omega), l6]
      have t7 : (upA (up M (m + 4) a.sz d) (m + 5) (fun x => if 81 * a.sz ≤ x ∧ x < 81 * a.sz + w then M (m + 6) (wsm a.n d + (x - 81 * a.sz)) else M (m + 5) x)) (m + 6) (wsm a.n d + w) = M (m + 6) (wsm a.n d + w) := by rw [upA_k (by omega), up_k (by omega)]
      refine ab_iload_n C dX9_add_24 rfl rfl ?_
      refine ab_aload_n C dX9_add_25 rfl rfl ?_
      refine gf_RX9_19 C s_t rfl dX9_add_26 ?_
      refine ab_iload_n C dX9_add_29 rfl rfl ?_
      refine ab_iaload C s_t_words (by omega) (by omega) dX9_add_30 ?_
      rw [t1]
      refine ab_icmp_ge (tgt := 67) C dX9_add_31 rfl (fun h_31 => ?_) (fun h_31 => ?_)
      · skip
        refine ab_aload_n C dX9_add_67 rfl rfl ?_
        refine ab_dup C dX9_add_68 rfl ?_
        refine gf_RX9_79 C s_t rfl dX9_add_69 ?_
        rw [t6]
        refine ab_iconst C dX9_add_72 (by decide) ?_
        refine ab_iadd C dX9_add_73 (by omega) ?_
        refine pf_RX9_79 C s_t rfl dX9_add_74 ?_
        refine ab_aload_n C dX9_add_77 rfl rfl ?_
        refine ab_iconst C dX9_add_78 (by decide) ?_
        refine pf_RX9_82 C (by omega) s_t rfl dX9_add_79 ?_
        refine ab_aload_n C dX9_add_82 rfl rfl ?_
        refine gf_RX9_79 C s_t rfl dX9_add_83 ?_
        rw [up_i (by decide), up_s]
        refine ab_iconst C dX9_add_86 (by decide) ?_
        refine ab_isub C dX9_add_87 (by omega) ?_
        refine ab_iret (st := []) C r dX9_add_88 ?_
        have ew : w = pw a.n d := by omega
        subst ew
        obtain ⟨M9, hM9⟩ : ∃ M9, up (up (upA (up M (m + 4) a.sz d) (m + 5) (fun x => if 81 * a.sz ≤ x ∧ x < 81 * a.sz + (pw a.n d) then M (m + 6) (wsm a.n d + (x - 81 * a.sz)) else M (m + 5) x)) m 6 (a.sz + 1)) m 13 0 = M9 := ⟨_, rfl⟩
        rw [hM9]
        have F : ∀ k, k ≠ m → k ≠ m + 4 → k ≠ m + 5 → M9 k = M k := fun k x y z => by rw [← hM9, up_row x, up_row x, upA_row z, up_row y]
        have Fm : ∀ j, j ≠ 6 → j ≠ 13 → M9 m j = M m j := fun j x y => by rw [← hM9, up_i y, up_i x, upA_k (by omega), up_k (by omega)]
        have f6 : M9 m 6 = a.sz + 1 := by rw [← hM9, up_i (by decide), up_s]
        have f13 : M9 m 13 = 0 := by rw [← hM9, up_s]
        have f4 : ∀ i, M9 (m + 4) i = if i = a.sz then d else M (m + 4) i := fun i => by
          rw [← hM9, up_k (by omega), up_k (by omega), upA_k (by omega)]
          by_cases q : i = a.sz
          · rw [q, up_s, if_pos rfl]
          · rw [up_i q, if_neg q]
        have f5 : ∀ i, M9 (m + 5) i = (fun x => if 81 * a.sz ≤ x ∧ x < 81 * a.sz + (pw a.n d) then M (m + 6) (wsm a.n d + (x - 81 * a.sz)) else M (m + 5) x) i := fun i => by rw [← hM9, up_k (by omega), up_k (by omega), upA_s]
        have hs9 : same (MP m) M M9 := by rw [← hM9]; exact same_tr (same_tr (same_tr (same_up (by simp)) (same_upA (by simp))) (same_up (by simp))) (same_up (by simp))
        refine ⟨_, rfl, hs9, a.add d v, Or.inr ⟨by omega, by omega, rfl⟩, ?_⟩
        unfold MRel
        rw [F (m + 7) (by omega) (by omega) (by omega), F (m + 15) (by omega) (by omega) (by omega), F (m + 16) (by omega) (by omega) (by omega), F (m + 17) (by omega) (by omega) (by omega), F (m + 18) (by omega) (by omega) (by omega), f6, Fm 11 (by decide) (by decide)]
        refine ⟨A_t.of (Fm 0 (by decide) (by decide)) (Fm 1 (by decide) (by decide)) (Fm 2 (by decide) (by decide)) (F _ (by omega) (by omega) (by omega)) (F _ (by omega) (by omega) (by omega)) (F _ (by omega) (by omega) (by omega)), hLw.add n1 n2 d2 d4 (by omega) (fun w x y => (hv w x y).2) (fun i x y => by rw [f4, if_neg (by omega)]) (by rw [f4, if_pos rfl]) (fun k x y => by rw [f5]; dsimp only; rw [if_neg (by omega)]) (fun w x y => ?_), MRd.no f13, ⟨hSm, hSm0⟩, hTp, hSh⟩
        rw [f5]
        dsimp only
        rw [if_pos (by omega), show a.sz * 81 + w - 81 * a.sz = w by omega]
        exact (hv w x y).1
      · skip
        refine ab_aload_n C dX9_add_34 rfl rfl ?_
        refine gf_RX9_32 C s_t rfl dX9_add_35 ?_
        refine ab_bipush C dX9_add_38 (by decide) (by decide +kernel) ?_
        refine ab_aload_n C dX9_add_40 rfl rfl ?_
        refine gf_RX9_79 C s_t rfl dX9_add_41 ?_
        rw [t6]
        refine ab_imul C dX9_add_44 (by omega) ?_
        refine ab_iload_n C dX9_add_45 rfl rfl ?_
        refine ab_iadd C dX9_add_46 (by omega) ?_
        refine ab_aload_n C dX9_add_47 rfl rfl ?_
        refine gf_RX9_35 C s_t rfl dX9_add_48 ?_
        refine ab_aload_n C dX9_add_51 rfl rfl ?_
        refine gf_RX9_23 C s_t rfl dX9_add_52 ?_
        refine ab_iload_n C dX9_add_55 rfl rfl ?_
        refine ab_iaload C s_t_begins (by omega) (by omega) dX9_add_56 ?_
        rw [t2]
        refine ab_iload_n C dX9_add_57 rfl rfl ?_
        refine ab_iadd C dX9_add_58 (by omega) ?_
        refine ab_iaload C s_t_made (by omega) (by omega) dX9_add_59 ?_
        rw [t7]
        refine ab_iastore C s_t_numbers (by omega) (by omega) dX9_add_60 ?_
        refine ab_iinc2 (lv := []) C rfl dX9_add_61 (by omega) ?_
        refine ab_goto (tgt := 24) C dX9_add_64 rfl ?_
        refine ab_mem (M2 := (upA (up M (m + 4) a.sz d) (m + 5) (fun x => if 81 * a.sz ≤ x ∧ x < 81 * a.sz + (w + 1) then M (m + 6) (wsm a.n d + (x - 81 * a.sz)) else M (m + 5) x))) ?_ (ih () (by omega) (by omega))
        rw [up_upA]
        exact upA_ext (fun y => by
          by_cases q1 : y = 81 * a.sz + w
          · rw [if_pos q1, if_pos (by omega), q1, show 81 * a.sz + w - 81 * a.sz = w by omega]
          · rw [if_neg q1]
            by_cases q2 : 81 * a.sz ≤ y ∧ y < 81 * a.sz + w
            · rw [if_pos q2, if_pos (by omega)]
            · rw [if_neg q2, if_neg (by omega)])
  · skip
    refine ab_bipush C dX9_add_9 (by decide) (by decide +kernel) ?_
    refine ab_iret (st := []) C r dX9_add_11 ?_
    exact ⟨_, rfl, same_rf _ _, a, Or.inl ⟨by omega, rfl, rfl⟩, H⟩
set_option maxRecDepth 100000 in
set_option maxHeartbeats 4000000 in
theorem m_X9_law {D : va_G} {cA : Nat → ClassId} {S : List AbS} {M : AbM} {m : Nat} {a : St} (B_t : shMo S m) (H : MRel a M m) : Meth yX9_law cX9_law 6 (some .int) rmX9_law D cA S [vP m] M (qI fun q M2 => same (MP m) M M2 ∧ ∃ b, oLaw a q b ∧ MRel b M2 m) := by
  refine ab_intro (lv := [vP m, vU, vU, vU, vU, vU]) (by decide +kernel) rfl (Nat.le_of_ble_eq_true rfl) ?_
  intro hO hargs K hKD hKA C r
  have C : Cx K cX9_law RX9 rmX9_law := C
  obtain ⟨s_t, s_t_words, s_t_begins, s_t_squares, s_t_lengths, s_t_numbers, s_t_made, s_t_tape, s_t_rows, s_t_leads, s_t_otherRows, s_t_otherLeads, s_t_row, s_t_equations, s_t_firsts, s_t_sum, s_t_lanes, s_t_sizes, s_t_items⟩ := id B_t
  obtain ⟨A_t, hLw, hR, ⟨hSm, hSm0⟩, hTp, hSh⟩ := id H
  obtain ⟨⟨n1, n2, hPr⟩, m_n, m_p, m_L, m_w⟩ := id A_t
  obtain ⟨p1, p2, -⟩ := id hPr
  have hLB := Lg_B a.n
  obtain ⟨t11, tB, tV⟩ := id hTp
  refine ab_aload_n C dX9_law_0 rfl rfl ?_
  refine ab_callV C cl_RX9_122 (m_X9_readSum (np := 0) B_t A_t (by omega) (by omega) (by rw [t11]; exact fun i x y => by rw [(tV i x y).1]; exact (tV i x y).2)) (by decide) rfl s_t rfl rfl (Nat.le_of_ble_eq_true rfl) dX9_law_1 (ab_kI (fun r_1 M_1 h_1 => ?_))
  obtain ⟨hs1, hj1, ⟨c0, c1⟩, hv1⟩ := h_1
  rw [rd_eq hTp] at hv1
  have r01 : r_1 = 0 ∨ r_1 = 1 := hv1.symm.imp (fun z => z.1) (fun z => z.1)
  have hCl := H.read hs1 hj1
  refine ab_istore1 (lv := []) C rfl dX9_law_4 ?_
  refine ab_aload_n C dX9_law_5 rfl rfl ?_
  refine ab_iconst C dX9_law_6 (by decide) ?_
  refine pf_RX9_104 C s_t rfl dX9_law_7 ?_
  obtain ⟨M5, hM5⟩ : ∃ M5, up M_1 m 11 0 = M5 := ⟨_, rfl⟩
  rw [hM5] at hCl ⊢
  have hs5 : same (MP m) M M5 := by rw [← hM5]; exact same_tr (same_mono hs1 (by simp)) (same_up (by simp))
  have v12 : M5 m 12 = M_1 m 12 := by rw [← hM5, up_i (by decide)]
  have v6 : M5 (m + 6) = M_1 (m + 6) := by rw [← hM5]; exact up_row (by omega)
  have A5 : MoA M5 m a.n a.p := hCl.1
  obtain ⟨-, q_n, q_p, q_L, q_w⟩ := id A5
  refine ab_iload_n C dX9_law_10 rfl rfl ?_
  refine ab_if_ne (tgt := 22) C dX9_law_11 rfl (fun h_11 => ?_) (fun h_11 => ?_)
  · skip
    have hv2 : (rdE a).1 = 0 ∧ (∀ j, 0 ≤ j → j < 364 → M5 (m + 6) j = (rdE a).2 j ∧ 0 ≤ M5 (m + 6) j ∧ M5 (m + 6) j < a.p) ∧ ∀ j, 364 ≤ j → j < 400 → M5 (m + 6) j = 0 := by
      rw [v6]
      rcases hv1 with z | z
      · exact z.2
      · omega
    obtain ⟨hr0, hrv, hrz⟩ := hv2
    refine ab_iconst C dX9_law_22 (by decide) ?_
    refine ab_istore2 (lv := []) C rfl dX9_law_23 ?_
    refine ab_iconst C dX9_law_24 (by decide) ?_
    refine ab_istore3 (lv := []) C rfl dX9_law_25 ?_
    refine ab_iconst C dX9_law_26 (by decide) ?_
    refine ab_istore4 (lv := []) C rfl dX9_law_27 ?_
    refine ab_loop (fun d (y : Int × Int × AbV) => AJ K S 29 [vP m, vI r_1, vI y.1, vI y.2.1, vI d, y.2.2] [] M5) (fun d y => 0 ≤ d ∧ (y.2.1 = 0 ∨ y.2.1 = 1) ∧ (-1 ≤ y.1 ∧ y.1 ≤ 100) ∧ OnI a.n (M5 (m + 6)) d 0 y.1 y.2.1) (Lg a.n + 1) ?_ 0 (-1, 1, vU) (by omega) ⟨by omega, Or.inr rfl, ⟨by decide, by decide⟩, OnI_0⟩
    · intro d y hd hI ih
      obtain ⟨x9, y9, u9⟩ := y
      obtain ⟨d0, y01, xB, hOn⟩ := hI
      dsimp only at y01 xB hOn ih ⊢
      refine ab_iload C dX9_law_29 rfl ?_
      refine ab_aload_n C dX9_law_31 rfl rfl ?_
      refine gf_RX9_16 C s_t rfl dX9_law_32 ?_
      rw [q_L]
      refine ab_icmp_gt (tgt := 106) C dX9_law_35 rfl (fun h_35 => ?_) (fun h_35 => ?_)
      · skip
        refine ab_iload_n C dX9_law_106 rfl rfl ?_
        refine ab_if_eq (tgt := 132) C dX9_law_107 rfl (fun h_107 => ?_) (fun h_107 => ?_)
        · skip
          refine ab_bipush C dX9_law_132 (by decide) (by decide +kernel) ?_
          refine ab_iret (st := []) C r dX9_law_134 ?_
          have ed : d = Lg a.n + 1 := by omega
          subst ed
          have hen := OnI_end hOn
          first
          | (rcases hen with ⟨hy, hx, hon⟩ | ⟨hy, hno⟩
             · refine ⟨_, rfl, same_tr hs5 hsA, b, Or.inr (Or.inl ⟨hr0, x9, ⟨hx24.1, hx24.2, OnlyD_cg n1 n2 (fun j x y => (hrv j x y).1) hon⟩, hoA⟩), hbA⟩
             · exfalso
               rcases hy with z | z
               · exact h_107 z
               · omega)
          | (refine ⟨_, rfl, hs5, a.cl, Or.inr (Or.inr ⟨hr0, fun d x y z => ?_, rfl, rfl⟩), hCl⟩
             have z := OnlyD_cg n1 n2 (fun j x y => ((hrv j x y).1).symm) z
             rcases hen with ⟨hy, hx, hon⟩ | ⟨hy, hno⟩
             · first
               | (exfalso; omega)
               | (have := OnlyD_un z hon (by omega) (by omega)
                  omega)
             · exact hno d (by omega) (by omega) z)
        · skip
          refine ab_iload_n C dX9_law_110 rfl rfl ?_
          refine ab_i2l C dX9_law_111 ?_
          refine ab_ldc2 (n := 2) C gw808 dX9_law_112 (by decide) (by decide +kernel) ?_
          refine ab_ldc2 (n := 4) C gw805 dX9_law_115 (by decide) (by decide +kernel) ?_
          refine ab_callS C cl_RX9_90 (m_X9_in) (by decide) rfl rfl (Nat.le_of_ble_eq_true rfl) dX9_law_118 (ab_kI (fun r_118 M_118 h_118 => ?_))
          obtain ⟨rfl, rfl⟩ := h_118
          skip
          refine ab_if_eq (tgt := 132) C dX9_law_121 rfl (fun h_121 => ?_) (fun h_121 => ?_)
          · skip
            have hx24 : ¬ (2 ≤ x9 ∧ x9 ≤ 4) := b01_eq h_121
            refine ab_bipush C dX9_law_132 (by decide) (by decide +kernel) ?_
            refine ab_iret (st := []) C r dX9_law_134 ?_
            have ed : d = Lg a.n + 1 := by omega
            subst ed
            have hen := OnI_end hOn
            first
            | (rcases hen with ⟨hy, hx, hon⟩ | ⟨hy, hno⟩
               · refine ⟨_, rfl, same_tr hs5 hsA, b, Or.inr (Or.inl ⟨hr0, x9, ⟨hx24.1, hx24.2, OnlyD_cg n1 n2 (fun j x y => (hrv j x y).1) hon⟩, hoA⟩), hbA⟩
               · exfalso
                 rcases hy with z | z
                 · exact h_107 z
                 · omega)
            | (refine ⟨_, rfl, hs5, a.cl, Or.inr (Or.inr ⟨hr0, fun d x y z => ?_, rfl, rfl⟩), hCl⟩
               have z := OnlyD_cg n1 n2 (fun j x y => ((hrv j x y).1).symm) z
               rcases hen with ⟨hy, hx, hon⟩ | ⟨hy, hno⟩
               · first
                 | (exfalso; omega)
                 | (have := OnlyD_un z hon (by omega) (by omega)
                    omega)
               · exact hno d (by omega) (by omega) z)
          · skip
            have hx24 : 2 ≤ x9 ∧ x9 ≤ 4 := b01_ne h_121
            refine ab_aload_n C dX9_law_124 rfl rfl ?_
            refine ab_iload_n C dX9_law_125 rfl rfl ?_
            refine ab_callV C cl_RX9_128 (m_X9_add (a := a.cl) (v := (rdE a).2) B_t hCl hx24.1 hx24.2 (fun w x y => by
              have hB := sz_B n1 n2 (show 0 ≤ x9 by omega) (show x9 ≤ Lg a.n by omega)
              have y : w < pw a.n x9 := y
              have := hrv (wsm a.n x9 + w) (by omega) (by omega)
              exact ⟨this.1, by rw [← this.1]; exact this.2⟩)) (by decide) rfl s_t rfl rfl (Nat.le_of_ble_eq_true rfl) dX9_law_126 (ab_kI (fun r_126 M_126 h_126 => ?_))
            obtain ⟨hsA, b, hoA, hbA⟩ := h_126
            refine ab_goto (tgt := 134) C dX9_law_129 rfl ?_
            refine ab_iret (st := []) C r dX9_law_134 ?_
            have ed : d = Lg a.n + 1 := by omega
            subst ed
            have hen := OnI_end hOn
            first
            | (rcases hen with ⟨hy, hx, hon⟩ | ⟨hy, hno⟩
               · refine ⟨_, rfl, same_tr hs5 hsA, b, Or.inr (Or.inl ⟨hr0, x9, ⟨hx24.1, hx24.2, OnlyD_cg n1 n2 (fun j x y => (hrv j x y).1) hon⟩, hoA⟩), hbA⟩
               · exfalso
                 rcases hy with z | z
                 · exact h_107 z
                 · omega)
            | (refine ⟨_, rfl, hs5, a.cl, Or.inr (Or.inr ⟨hr0, fun d x y z => ?_, rfl, rfl⟩), hCl⟩
               have z := OnlyD_cg n1 n2 (fun j x y => ((hrv j x y).1).symm) z
               rcases hen with ⟨hy, hx, hon⟩ | ⟨hy, hno⟩
               · first
                 | (exfalso; omega)
                 | (have := OnlyD_un z hon (by omega) (by omega)
                    omega)
               · exact hno d (by omega) (by omega) z)
      · skip
        obtain ⟨e_w, e_b, -⟩ := q_w d d0 (by omega)
        have hB := sz_B n1 n2 d0 (show d ≤ Lg a.n by omega)
        refine ab_iconst C dX9_law_38 (by decide) ?_
        refine ab_istore5 (lv := []) C rfl dX9_law_39 ?_
        refine ab_loop (fun w (y : Int × Int) => AJ K S 41 [vP m, vI r_1, vI y.1, vI y.2, vI d, vI w] [] M5) (fun w y => 0 ≤ w ∧ (y.2 = 0 ∨ y.2 = 1) ∧ (-1 ≤ y.1 ∧ y.1 ≤ 100) ∧ OnI a.n (M5 (m + 6)) d w y.1 y.2) (pw a.n d) ?_ 0 (x9, y9) (by omega) ⟨by omega, y01, xB, hOn⟩
        · intro w y hw hI ihw
          obtain ⟨x9, y9⟩ := y
          obtain ⟨w0, y01, xB, hOn⟩ := hI
          dsimp only at y01 xB hOn ihw ⊢
          refine ab_iload C dX9_law_41 rfl ?_
          refine ab_aload_n C dX9_law_43 rfl rfl ?_
          refine gf_RX9_19 C s_t rfl dX9_law_44 ?_
          refine ab_iload C dX9_law_47 rfl ?_
          refine ab_iaload C s_t_words (by omega) (by omega) dX9_law_49 ?_
          rw [e_w]
          refine ab_icmp_ge (tgt := 100) C dX9_law_50 rfl (fun h_50 => ?_) (fun h_50 => ?_)
          · skip
            refine ab_iinc4 (lv := []) C rfl dX9_law_100 (by omega) ?_
            refine ab_goto (tgt := 29) C dX9_law_103 rfl ?_
            have ew : w = pw a.n d := by omega
            subst ew
            exact ih (_, _, _) (by omega) ⟨by omega, y01, xB, OnI_d hOn⟩
          · skip
            refine ab_aload_n C dX9_law_53 rfl rfl ?_
            refine gf_RX9_35 C s_t rfl dX9_law_54 ?_
            refine ab_aload_n C dX9_law_57 rfl rfl ?_
            refine gf_RX9_23 C s_t rfl dX9_law_58 ?_
            refine ab_iload C dX9_law_61 rfl ?_
            refine ab_iaload C s_t_begins (by omega) (by omega) dX9_law_63 ?_
            rw [e_b]
            refine ab_iload C dX9_law_64 rfl ?_
            refine ab_iadd C dX9_law_66 (by omega) ?_
            refine ab_iaload C s_t_made (by omega) (by omega) dX9_law_67 ?_
            refine ab_if_eq (tgt := 94) C dX9_law_68 rfl (fun h_68 => ?_) (fun h_68 => ?_)
            · skip
              refine ab_iinc5 (lv := []) C rfl dX9_law_94 (by omega) ?_
              refine ab_goto (tgt := 41) C dX9_law_97 rfl ?_
              first
              | exact ihw (x9, y9) (by omega) ⟨by omega, y01, xB, OnI_z w0 hOn h_68⟩
              | (refine ihw (_, 1) (by omega) ⟨by omega, Or.inr rfl, ⟨by dsimp only; omega, by dsimp only; omega⟩, OnI_s d0 w0 hOn h_68 (Or.inl ⟨by omega, by omega, rfl⟩)⟩; done)
              | (refine ihw (_, 0) (by omega) ⟨by omega, Or.inl rfl, ⟨by dsimp only; omega, by dsimp only; omega⟩, OnI_s d0 w0 hOn h_68 (Or.inr ⟨by omega, rfl⟩)⟩; done)
            · skip
              refine ab_iload_n C dX9_law_71 rfl rfl ?_
              refine ab_if_eq (tgt := 89) C dX9_law_72 rfl (fun h_72 => ?_) (fun h_72 => ?_)
              · skip
                refine ab_iconst C dX9_law_89 (by decide) ?_
                refine ab_istore3 (lv := []) C rfl dX9_law_90 ?_
                refine ab_iload C dX9_law_91 rfl ?_
                refine ab_istore2 (lv := []) C rfl dX9_law_93 ?_
                refine ab_iinc5 (lv := []) C rfl dX9_law_94 (by omega) ?_
                refine ab_goto (tgt := 41) C dX9_law_97 rfl ?_
                first
                | exact ihw (x9, y9) (by omega) ⟨by omega, y01, xB, OnI_z w0 hOn h_68⟩
                | (refine ihw (_, 1) (by omega) ⟨by omega, Or.inr rfl, ⟨by dsimp only; omega, by dsimp only; omega⟩, OnI_s d0 w0 hOn h_68 (Or.inl ⟨by omega, by omega, rfl⟩)⟩; done)
                | (refine ihw (_, 0) (by omega) ⟨by omega, Or.inl rfl, ⟨by dsimp only; omega, by dsimp only; omega⟩, OnI_s d0 w0 hOn h_68 (Or.inr ⟨by omega, rfl⟩)⟩; done)
              · skip
                refine ab_iload_n C dX9_law_75 rfl rfl ?_
                refine ab_if_lt (tgt := 85) C dX9_law_76 rfl (fun h_76 => ?_) (fun h_76 => ?_)
                · skip
                  refine ab_iconst C dX9_law_85 (by decide) ?_
                  refine ab_goto (tgt := 90) C dX9_law_86 rfl ?_
                  refine ab_istore3 (lv := []) C rfl dX9_law_90 ?_
                  refine ab_iload C dX9_law_91 rfl ?_
                  refine ab_istore2 (lv := []) C rfl dX9_law_93 ?_
                  refine ab_iinc5 (lv := []) C rfl dX9_law_94 (by omega) ?_
                  refine ab_goto (tgt := 41) C dX9_law_97 rfl ?_
                  first
                  | exact ihw (x9, y9) (by omega) ⟨by omega, y01, xB, OnI_z w0 hOn h_68⟩
                  | (refine ihw (_, 1) (by omega) ⟨by omega, Or.inr rfl, ⟨by dsimp only; omega, by dsimp only; omega⟩, OnI_s d0 w0 hOn h_68 (Or.inl ⟨by omega, by omega, rfl⟩)⟩; done)
                  | (refine ihw (_, 0) (by omega) ⟨by omega, Or.inl rfl, ⟨by dsimp only; omega, by dsimp only; omega⟩, OnI_s d0 w0 hOn h_68 (Or.inr ⟨by omega, rfl⟩)⟩; done)
                · skip
                  refine ab_iload_n C dX9_law_79 rfl rfl ?_
                  refine ab_iload C dX9_law_80 rfl ?_
                  refine ab_icmp_ne (tgt := 89) C dX9_law_82 rfl (fun h_82 => ?_) (fun h_82 => ?_)
                  · skip
                    refine ab_iconst C dX9_law_89 (by decide) ?_
                    refine ab_istore3 (lv := []) C rfl dX9_law_90 ?_
                    refine ab_iload C dX9_law_91 rfl ?_
                    refine ab_istore2 (lv := []) C rfl dX9_law_93 ?_
                    refine ab_iinc5 (lv := []) C rfl dX9_law_94 (by omega) ?_
                    refine ab_goto (tgt := 41) C dX9_law_97 rfl ?_
                    first
                    | exact ihw (x9, y9) (by omega) ⟨by omega, y01, xB, OnI_z w0 hOn h_68⟩
                    | (refine ihw (_, 1) (by omega) ⟨by omega, Or.inr rfl, ⟨by dsimp only; omega, by dsimp only; omega⟩, OnI_s d0 w0 hOn h_68 (Or.inl ⟨by omega, by omega, rfl⟩)⟩; done)
                    | (refine ihw (_, 0) (by omega) ⟨by omega, Or.inl rfl, ⟨by dsimp only; omega, by dsimp only; omega⟩, OnI_s d0 w0 hOn h_68 (Or.inr ⟨by omega, rfl⟩)⟩; done)
                  · skip
                    refine ab_iconst C dX9_law_85 (by decide) ?_
                    refine ab_goto (tgt := 90) C dX9_law_86 rfl ?_
                    refine ab_istore3 (lv := []) C rfl dX9_law_90 ?_
                    refine ab_iload C dX9_law_91 rfl ?_
                    refine ab_istore2 (lv := []) C rfl dX9_law_93 ?_
                    refine ab_iinc5 (lv := []) C rfl dX9_law_94 (by omega) ?_
                    refine ab_goto (tgt := 41) C dX9_law_97 rfl ?_
                    first
                    | exact ihw (x9, y9) (by omega) ⟨by omega, y01, xB, OnI_z w0 hOn h_68⟩
                    | (refine ihw (_, 1) (by omega) ⟨by omega, Or.inr rfl, ⟨by dsimp only; omega, by dsimp only; omega⟩, OnI_s d0 w0 hOn h_68 (Or.inl ⟨by omega, by omega, rfl⟩)⟩; done)
                    | (refine ihw (_, 0) (by omega) ⟨by omega, Or.inl rfl, ⟨by dsimp only; omega, by dsimp only; omega⟩, OnI_s d0 w0 hOn h_68 (Or.inr ⟨by omega, rfl⟩)⟩; done)
  · skip
    refine ab_bipush C dX9_law_14 (by decide) (by decide +kernel) ?_
    refine ab_aload_n C dX9_law_16 rfl rfl ?_
    refine gf_RX9_107 C s_t rfl dX9_law_17 ?_
    skip
    refine ab_isub C dX9_law_20 (by rw [v12]; omega) ?_
    refine ab_iret (st := []) C r dX9_law_21 ?_
    have hv2 : r_1 = 0 ∧ (rdE a).1 = -20 - M_1 m 12 := by
      rcases hv1 with z | z
      · omega
      · exact z
    refine ⟨_, rfl, hs5, a.cl, Or.inl ⟨by omega, by rw [v12]; exact hv2.2.symm, rfl⟩, hCl⟩
set_option maxRecDepth 100000 in
set_option maxHeartbeats 4000000 in
theorem m_X9_sum {D : va_G} {cA : Nat → ClassId} {S : List AbS} {M : AbM} {m : Nat} {a : St} (B_t : shMo S m) (H : MRel a M m) : Meth yX9_sum cX9_sum 3 (some .int) rmX9_sum D cA S [vP m] M (qI fun q M2 => same (MP m) M M2 ∧ ∃ b, oSum a q b ∧ MRel b M2 m) := by
  refine ab_intro (lv := [vP m, vU, vU]) (by decide +kernel) rfl (Nat.le_of_ble_eq_true rfl) ?_
  intro hO hargs K hKD hKA C r
  have C : Cx K cX9_sum RX9 rmX9_sum := C
  obtain ⟨s_t, s_t_words, s_t_begins, s_t_squares, s_t_lengths, s_t_numbers, s_t_made, s_t_tape, s_t_rows, s_t_leads, s_t_otherRows, s_t_otherLeads, s_t_row, s_t_equations, s_t_firsts, s_t_sum, s_t_lanes, s_t_sizes, s_t_items⟩ := id B_t
  obtain ⟨A_t, hLw, hR, ⟨hSm, hSm0⟩, hTp, hSh⟩ := id H
  obtain ⟨⟨n1, n2, hPr⟩, m_n, m_p, m_L, m_w⟩ := id A_t
  obtain ⟨p1, p2, -⟩ := id hPr
  have hLB := Lg_B a.n
  obtain ⟨t11, tB, tV⟩ := id hTp
  refine ab_aload_n C dX9_sum_0 rfl rfl ?_
  refine ab_callV C cl_RX9_122 (m_X9_readSum (np := 0) B_t A_t (by omega) (by omega) (by rw [t11]; exact fun i x y => by rw [(tV i x y).1]; exact (tV i x y).2)) (by decide) rfl s_t rfl rfl (Nat.le_of_ble_eq_true rfl) dX9_sum_1 (ab_kI (fun r_1 M_1 h_1 => ?_))
  obtain ⟨hs1, hj1, ⟨c0, c1⟩, hv1⟩ := h_1
  rw [rd_eq hTp] at hv1
  have r01 : r_1 = 0 ∨ r_1 = 1 := hv1.symm.imp (fun z => z.1) (fun z => z.1)
  have hCl := H.read hs1 hj1
  refine ab_istore1 (lv := []) C rfl dX9_sum_4 ?_
  refine ab_aload_n C dX9_sum_5 rfl rfl ?_
  refine ab_iconst C dX9_sum_6 (by decide) ?_
  refine pf_RX9_104 C s_t rfl dX9_sum_7 ?_
  obtain ⟨M5, hM5⟩ : ∃ M5, up M_1 m 11 0 = M5 := ⟨_, rfl⟩
  rw [hM5] at hCl ⊢
  have hs5 : same (MP m) M M5 := by rw [← hM5]; exact same_tr (same_mono hs1 (by simp)) (same_up (by simp))
  have v12 : M5 m 12 = M_1 m 12 := by rw [← hM5, up_i (by decide)]
  have v6 : M5 (m + 6) = M_1 (m + 6) := by rw [← hM5]; exact up_row (by omega)
  have A5 : MoA M5 m a.n a.p := hCl.1
  obtain ⟨-, q_n, q_p, q_L, q_w⟩ := id A5
  refine ab_iload_n C dX9_sum_10 rfl rfl ?_
  refine ab_if_ne (tgt := 22) C dX9_sum_11 rfl (fun h_11 => ?_) (fun h_11 => ?_)
  · skip
    have hv2 : (rdE a).1 = 0 ∧ (∀ j, 0 ≤ j → j < 364 → M5 (m + 6) j = (rdE a).2 j ∧ 0 ≤ M5 (m + 6) j ∧ M5 (m + 6) j < a.p) ∧ ∀ j, 364 ≤ j → j < 400 → M5 (m + 6) j = 0 := by
      rw [v6]
      rcases hv1 with z | z
      · exact z.2
      · omega
    obtain ⟨hr0, hrv, hrz⟩ := hv2
    refine ab_iconst C dX9_sum_22 (by decide) ?_
    refine ab_istore2 (lv := []) C rfl dX9_sum_23 ?_
    refine ab_mem (M2 := upA M5 (m + 15) (fun j => if 0 ≤ j ∧ j < (0 : Int) then M5 (m + 6) j else M5 (m + 15) j)) (upA_id (fun j => if_neg (by omega))) ?_
    refine ab_loop (fun i (_ : Unit) => AJ K S 24 [vP m, vI r_1, vI i] [] (upA M5 (m + 15) (fun j => if 0 ≤ j ∧ j < i then M5 (m + 6) j else M5 (m + 15) j))) (fun i _ => 0 ≤ i) 400 ?_ 0 () (by omega) (by omega)
    · intro i _ hi i0 ih
      refine ab_iload_n C dX9_sum_24 rfl rfl ?_
      refine ab_sipush C dX9_sum_25 (by decide) (by decide +kernel) ?_
      refine ab_icmp_ge (tgt := 49) C dX9_sum_28 rfl (fun h_28 => ?_) (fun h_28 => ?_)
      · skip
        refine ab_aload_n C dX9_sum_49 rfl rfl ?_
        refine gf_RX9_64 C s_t rfl dX9_sum_50 ?_
        refine ab_iconst C dX9_sum_53 (by decide) ?_
        refine ab_sipush C dX9_sum_54 (by decide) (by decide +kernel) ?_
        refine ab_callS C cl_RX9_178 (m_X9_termsOf s_t_sum (by omega) (by omega) (by omega) (by omega)) (by decide) rfl rfl (Nat.le_of_ble_eq_true rfl) dX9_sum_57 (ab_kI (fun r_57 M_57 h_57 => ?_))
        obtain ⟨rfl, rfl⟩ := h_57
        refine ab_iret (st := []) C r dX9_sum_60 ?_
        have ei : i = 400 := by omega
        subst ei
        have hrow : ∀ j, 0 ≤ j → j < 400 → upA M5 (m + 15) (fun j => if 0 ≤ j ∧ j < 400 then M5 (m + 6) j else M5 (m + 15) j) (m + 15) j = M5 (m + 6) j := fun j x y => by rw [upA_s, if_pos ⟨x, y⟩]
        refine ⟨_, rfl, same_tr hs5 (same_upA (by simp)), a.cl.setS (rdE a).2, Or.inr ⟨hr0, ?_, rfl⟩, ?_⟩
        · exact cnt_400 (fun j x y => by rw [Int.zero_add, hrow j x (by omega)]; exact (hrv j x y).1) (fun j x y => by rw [Int.zero_add, hrow j (by omega) y]; exact hrz j x y)
        · refine MRel.sum hCl (same_upA (by simp)) ⟨fun j x y => ?_, fun j x y => ?_⟩ (fun j x y => by rw [hrow j (by omega) y]; exact hrz j x y)
          · show _ = (rdE a).2 j ∧ 0 ≤ (rdE a).2 j ∧ (rdE a).2 j < a.p
            have := hrv j x y
            rw [hrow j x (by omega), ← this.1]
            exact ⟨rfl, this.2⟩
          · show (rdE a).2 j = 0
            unfold rdE
            exact end_row n1 n2 _ j x y
      · skip
        refine ab_aload_n C dX9_sum_31 rfl rfl ?_
        refine gf_RX9_64 C s_t rfl dX9_sum_32 ?_
        refine ab_iload_n C dX9_sum_35 rfl rfl ?_
        refine ab_aload_n C dX9_sum_36 rfl rfl ?_
        refine gf_RX9_35 C s_t rfl dX9_sum_37 ?_
        refine ab_iload_n C dX9_sum_40 rfl rfl ?_
        refine ab_iaload C s_t_made (by omega) (by omega) dX9_sum_41 ?_
        rw [upA_k (show m + 6 ≠ m + 15 by omega)]
        refine ab_iastore C s_t_sum (by omega) (by omega) dX9_sum_42 ?_
        refine ab_iinc2 (lv := []) C rfl dX9_sum_43 (by omega) ?_
        refine ab_goto (tgt := 24) C dX9_sum_46 rfl ?_
        refine ab_mem (M2 := upA M5 (m + 15) (fun j => if 0 ≤ j ∧ j < (i + 1) then M5 (m + 6) j else M5 (m + 15) j)) ?_ (ih () (by omega) (by omega))
        rw [up_upA]
        exact upA_ext (fun j => by
          by_cases q1 : j = i
          · rw [if_pos q1, if_pos (by omega), q1]
          · rw [if_neg q1]
            by_cases q2 : 0 ≤ j ∧ j < i
            · rw [if_pos q2, if_pos (by omega)]
            · rw [if_neg q2, if_neg (by omega)])
  · skip
    refine ab_bipush C dX9_sum_14 (by decide) (by decide +kernel) ?_
    refine ab_aload_n C dX9_sum_16 rfl rfl ?_
    refine gf_RX9_107 C s_t rfl dX9_sum_17 ?_
    refine ab_isub C dX9_sum_20 (by rw [v12]; omega) ?_
    refine ab_iret (st := []) C r dX9_sum_21 ?_
    have hv2 : r_1 = 0 ∧ (rdE a).1 = -20 - M_1 m 12 := by
      rcases hv1 with z | z
      · omega
      · exact z
    refine ⟨_, rfl, hs5, a.cl, Or.inl ⟨by omega, by rw [v12]; exact hv2.2.symm, rfl⟩, hCl⟩
set_option maxRecDepth 100000 in
set_option maxHeartbeats 4000000 in
theorem m_X9_unlaw {D : va_G} {cA : Nat → ClassId} {S : List AbS} {M : AbM} {m : Nat} {a : St} (B_t : shMo S m) (H : MRel a M m) : Meth yX9_unlaw cX9_unlaw 1 (some .int) rmX9_unlaw D cA S [vP m] M (qI fun q M2 => same (MP m) M M2 ∧ ∃ b, oUnlaw a q b ∧ MRel b M2 m) := by
  refine ab_intro (lv := [vP m]) (by decide +kernel) rfl (Nat.le_of_ble_eq_true rfl) ?_
  intro hO hargs K hKD hKA C r
  have C : Cx K cX9_unlaw RX9 rmX9_unlaw := C
  obtain ⟨s_t, s_t_words, s_t_begins, s_t_squares, s_t_lengths, s_t_numbers, s_t_made, s_t_tape, s_t_rows, s_t_leads, s_t_otherRows, s_t_otherLeads, s_t_row, s_t_equations, s_t_firsts, s_t_sum, s_t_lanes, s_t_sizes, s_t_items⟩ := id B_t
  obtain ⟨A_t, hLw, hR, ⟨hSm, hSm0⟩, hTp, hSh⟩ := id H
  obtain ⟨⟨n1, n2, hPr⟩, m_n, m_p, m_L, m_w⟩ := id A_t
  obtain ⟨p1, p2, -⟩ := id hPr
  have hLB := Lg_B a.n
  obtain ⟨l6, ⟨z0, z8⟩, hl⟩ := id hLw
  refine ab_aload_n C dX9_unlaw_0 rfl rfl ?_
  refine gf_RX9_79 C s_t rfl dX9_unlaw_1 ?_
  rw [l6]
  refine ab_if_ne (tgt := 10) C dX9_unlaw_4 rfl (fun h_4 => ?_) (fun h_4 => ?_)
  · skip
    refine ab_aload_n C dX9_unlaw_10 rfl rfl ?_
    refine ab_dup C dX9_unlaw_11 rfl ?_
    refine gf_RX9_79 C s_t rfl dX9_unlaw_12 ?_
    rw [l6]
    refine ab_iconst C dX9_unlaw_15 (by decide) ?_
    refine ab_isub C dX9_unlaw_16 (by omega) ?_
    refine pf_RX9_79 C s_t rfl dX9_unlaw_17 ?_
    refine ab_aload_n C dX9_unlaw_20 rfl rfl ?_
    refine ab_iconst C dX9_unlaw_21 (by decide) ?_
    refine pf_RX9_82 C (by omega) s_t rfl dX9_unlaw_22 ?_
    refine ab_aload_n C dX9_unlaw_25 rfl rfl ?_
    refine gf_RX9_79 C s_t rfl dX9_unlaw_26 ?_
    rw [up_i (by decide), up_s]
    refine ab_iret (st := []) C r dX9_unlaw_29 ?_
    obtain ⟨M9, hM9⟩ : ∃ M9, up (up M m 6 (a.sz - 1)) m 13 0 = M9 := ⟨_, rfl⟩
    rw [hM9]
    have F : ∀ k, k ≠ m → M9 k = M k := fun k x => by rw [← hM9, up_row x, up_row x]
    have Fm : ∀ j, j ≠ 6 → j ≠ 13 → M9 m j = M m j := fun j x y => by rw [← hM9, up_i y, up_i x]
    have f6 : M9 m 6 = a.sz - 1 := by rw [← hM9, up_i (by decide), up_s]
    have f13 : M9 m 13 = 0 := by rw [← hM9, up_s]
    have hs9 : same (MP m) M M9 := by rw [← hM9]; exact same_tr (same_up (by simp)) (same_up (by simp))
    refine ⟨_, rfl, hs9, a.rem, Or.inr ⟨h_4, rfl, rfl⟩, ?_⟩
    unfold MRel
    rw [F (m + 4) (by omega), F (m + 5) (by omega), F (m + 7) (by omega), F (m + 15) (by omega), F (m + 16) (by omega), F (m + 17) (by omega), F (m + 18) (by omega), f6, Fm 11 (by decide) (by decide)]
    exact ⟨A_t.of (Fm 0 (by decide) (by decide)) (Fm 1 (by decide) (by decide)) (Fm 2 (by decide) (by decide)) (F _ (by omega)) (F _ (by omega)) (F _ (by omega)), hLw.rem h_4, MRd.no f13, ⟨hSm, hSm0⟩, hTp, hSh⟩
  · skip
    refine ab_bipush C dX9_unlaw_7 (by decide) (by decide +kernel) ?_
    refine ab_iret (st := []) C r dX9_unlaw_9 ?_
    exact ⟨_, rfl, same_rf _ _, a, Or.inl ⟨h_4, rfl, rfl⟩, H⟩
set_option maxRecDepth 100000 in
set_option maxHeartbeats 4000000 in
theorem m_X9_told {D : va_G} {cA : Nat → ClassId} {S : List AbS} {M : AbM} {m : Nat} {a : St} (B_t : shMo S m) (H : MRel a M m) {l w : Int} : Meth yX9_told cX9_told 3 (some .int) rmX9_told D cA S [vP m, vI l, vI w] M (qI fun q M2 => M = M2 ∧ aTold a l w = q) := by
  refine ab_intro (lv := [vP m, vI l, vI w]) (by decide +kernel) rfl (Nat.le_of_ble_eq_true rfl) ?_
  intro hO hargs K hKD hKA C r
  have C : Cx K cX9_told RX9 rmX9_told := C
  have i_l : inI l := hargs _ (List.mem_cons_of_mem _ (List.mem_cons_self))
  have i_w : inI w := hargs _ (List.mem_cons_of_mem _ (List.mem_cons_of_mem _ (List.mem_cons_self)))
  obtain ⟨s_t, s_t_words, s_t_begins, s_t_squares, s_t_lengths, s_t_numbers, s_t_made, s_t_tape, s_t_rows, s_t_leads, s_t_otherRows, s_t_otherLeads, s_t_row, s_t_equations, s_t_firsts, s_t_sum, s_t_lanes, s_t_sizes, s_t_items⟩ := id B_t
  obtain ⟨A_t, hLw, hR, ⟨hSm, hSm0⟩, hTp, hSh⟩ := id H
  obtain ⟨⟨n1, n2, hPr⟩, m_n, m_p, m_L, m_w⟩ := id A_t
  obtain ⟨p1, p2, -⟩ := id hPr
  have hLB := Lg_B a.n
  obtain ⟨l6, ⟨z0, z8⟩, hl⟩ := id hLw
  refine ab_iload_n C dX9_told_0 rfl rfl ?_
  refine ab_i2l C dX9_told_1 ?_
  refine ab_lconst (n := 0) C dX9_told_2 (by decide) (by decide +kernel) ?_
  refine ab_aload_n C dX9_told_3 rfl rfl ?_
  refine gf_RX9_79 C s_t rfl dX9_told_4 ?_
  rw [l6]
  refine ab_iconst C dX9_told_7 (by decide) ?_
  refine ab_isub C dX9_told_8 (by omega) ?_
  refine ab_i2l C dX9_told_9 ?_
  refine ab_callS C cl_RX9_90 (m_X9_in) (by decide) rfl rfl (Nat.le_of_ble_eq_true rfl) dX9_told_10 (ab_kI (fun r_10 M_10 h_10 => ?_))
  obtain ⟨rfl, rfl⟩ := h_10
  refine ab_if_eq (tgt := 41) C dX9_told_13 rfl (fun h_13 => ?_) (fun h_13 => ?_)
  · skip
    have hq := b01_eq h_13
    refine ab_iconst C dX9_told_41 (by decide) ?_
    refine ab_iret (st := []) C r dX9_told_42 ?_
    refine ⟨_, rfl, rfl, ?_⟩
    unfold aTold
    rw [if_neg]
    intro z
    first
    | exact hq ⟨z.1.1, by have := z.1.2; omega⟩
    | exact hq2 ⟨z.2.1, by have := z.2.2; omega⟩
  · skip
    have hq := b01_ne h_13
    have hll := hl l hq.1 (by omega)
    obtain ⟨e_w, -, -⟩ := m_w (a.len l) (by omega) (by omega)
    have hB := sz_B n1 n2 (show 0 ≤ a.len l by omega) (show a.len l ≤ Lg a.n by omega)
    have h81 := law_len n1 n2 hll.2.1.1 hll.2.1.2
    refine ab_iload_n C dX9_told_16 rfl rfl ?_
    refine ab_i2l C dX9_told_17 ?_
    refine ab_ldc2 (n := -1) C gw806 dX9_told_18 (by decide) (by decide +kernel) ?_
    refine ab_aload_n C dX9_told_21 rfl rfl ?_
    refine gf_RX9_19 C s_t rfl dX9_told_22 ?_
    refine ab_aload_n C dX9_told_25 rfl rfl ?_
    refine gf_RX9_29 C s_t rfl dX9_told_26 ?_
    refine ab_iload_n C dX9_told_29 rfl rfl ?_
    refine ab_iaload C s_t_lengths (by omega) (by omega) dX9_told_30 ?_
    rw [hll.1]
    refine ab_iaload C s_t_words (by omega) (by omega) dX9_told_31 ?_
    rw [e_w]
    refine ab_iconst C dX9_told_32 (by decide) ?_
    refine ab_isub C dX9_told_33 (by omega) ?_
    refine ab_i2l C dX9_told_34 ?_
    refine ab_callS C cl_RX9_90 (m_X9_in) (by decide) rfl rfl (Nat.le_of_ble_eq_true rfl) dX9_told_35 (ab_kI (fun r_35 M_35 h_35 => ?_))
    obtain ⟨rfl, rfl⟩ := h_35
    refine ab_if_ne (tgt := 43) C dX9_told_38 rfl (fun h_38 => ?_) (fun h_38 => ?_)
    · skip
      have hq2 := b01_ne h_38
      refine ab_iload_n C dX9_told_43 rfl rfl ?_
      refine ab_if_ge (tgt := 56) C dX9_told_44 rfl (fun h_44 => ?_) (fun h_44 => ?_)
      · skip
        refine ab_aload_n C dX9_told_56 rfl rfl ?_
        refine gf_RX9_32 C s_t rfl dX9_told_57 ?_
        refine ab_bipush C dX9_told_60 (by decide) (by decide +kernel) ?_
        refine ab_iload_n C dX9_told_62 rfl rfl ?_
        refine ab_imul C dX9_told_63 (by omega) ?_
        refine ab_iload_n C dX9_told_64 rfl rfl ?_
        refine ab_iadd C dX9_told_65 (by omega) ?_
        refine ab_iaload C s_t_numbers (by omega) (by omega) dX9_told_66 ?_
        refine ab_iret (st := []) C r dX9_told_67 ?_
        refine ⟨_, rfl, rfl, ?_⟩
        unfold aTold
        rw [if_pos ⟨⟨hq.1, by omega⟩, hq2.1, by omega⟩]
        first
        | (rw [if_neg (by omega), show 81 * l + w = l * 81 + w by omega]; exact ((hll.2.2 w (by omega) (by omega)).1).symm)
        | (rw [if_pos (by omega)]; exact hll.1.symm)
      · skip
        refine ab_aload_n C dX9_told_47 rfl rfl ?_
        refine gf_RX9_29 C s_t rfl dX9_told_48 ?_
        refine ab_iload_n C dX9_told_51 rfl rfl ?_
        refine ab_iaload C s_t_lengths (by omega) (by omega) dX9_told_52 ?_
        refine ab_goto (tgt := 67) C dX9_told_53 rfl ?_
        refine ab_iret (st := []) C r dX9_told_67 ?_
        refine ⟨_, rfl, rfl, ?_⟩
        unfold aTold
        rw [if_pos ⟨⟨hq.1, by omega⟩, hq2.1, by omega⟩]
        first
        | (rw [if_neg (by omega), show 81 * l + w = l * 81 + w by omega]; exact ((hll.2.2 w (by omega) (by omega)).1).symm)
        | (rw [if_pos (by omega)]; exact hll.1.symm)
    · skip
      have hq2 := b01_eq h_38
      refine ab_iconst C dX9_told_41 (by decide) ?_
      refine ab_iret (st := []) C r dX9_told_42 ?_
      refine ⟨_, rfl, rfl, ?_⟩
      unfold aTold
      rw [if_neg]
      intro z
      first
      | exact hq ⟨z.1.1, by have := z.1.2; omega⟩
      | exact hq2 ⟨z.2.1, by have := z.2.2; omega⟩
set_option maxRecDepth 100000 in
set_option maxHeartbeats 4000000 in
theorem m_X9_part {D : va_G} {cA : Nat → ClassId} {S : List AbS} {M : AbM} {m : Nat} {a : St} (B_t : shMo S m) (H : MRel a M m) {d w : Int} : Meth yX9_part cX9_part 3 (some .int) rmX9_part D cA S [vP m, vI d, vI w] M (qI fun q M2 => M = M2 ∧ aPart a d w = q) := by
  refine ab_intro (lv := [vP m, vI d, vI w]) (by decide +kernel) rfl (Nat.le_of_ble_eq_true rfl) ?_
  intro hO hargs K hKD hKA C r
  have C : Cx K cX9_part RX9 rmX9_part := C
  have i_d : inI d := hargs _ (List.mem_cons_of_mem _ (List.mem_cons_self))
  have i_w : inI w := hargs _ (List.mem_cons_of_mem _ (List.mem_cons_of_mem _ (List.mem_cons_self)))
  obtain ⟨s_t, s_t_words, s_t_begins, s_t_squares, s_t_lengths, s_t_numbers, s_t_made, s_t_tape, s_t_rows, s_t_leads, s_t_otherRows, s_t_otherLeads, s_t_row, s_t_equations, s_t_firsts, s_t_sum, s_t_lanes, s_t_sizes, s_t_items⟩ := id B_t
  obtain ⟨A_t, hLw, hR, ⟨hSm, hSm0⟩, hTp, hSh⟩ := id H
  obtain ⟨⟨n1, n2, hPr⟩, m_n, m_p, m_L, m_w⟩ := id A_t
  obtain ⟨p1, p2, -⟩ := id hPr
  have hLB := Lg_B a.n
  refine ab_aload_n C dX9_part_0 rfl rfl ?_
  refine ab_iload_n C dX9_part_1 rfl rfl ?_
  refine ab_iload_n C dX9_part_2 rfl rfl ?_
  refine ab_callV C cl_RX9_163 (m_X9_isWord B_t A_t) (by decide) rfl s_t rfl rfl (Nat.le_of_ble_eq_true rfl) dX9_part_3 (ab_kI (fun r_3 M_3 h_3 => ?_))
  obtain ⟨rfl, rfl⟩ := h_3
  refine ab_if_eq (tgt := 25) C dX9_part_6 rfl (fun h_6 => ?_) (fun h_6 => ?_)
  · skip
    have hq := b01_eq h_6
    refine ab_iconst C dX9_part_25 (by decide) ?_
    refine ab_iret (st := []) C r dX9_part_26 ?_
    refine ⟨_, rfl, rfl, ?_⟩
    unfold aPart
    first
    | (rw [if_pos hq]; exact ((hSm.1 _ (by omega) (by omega)).1).symm)
    | rw [if_neg hq]
  · skip
    have hq := b01_ne h_6
    obtain ⟨e_w, e_b, -⟩ := m_w d hq.1 hq.2.1
    have hB := sz_B n1 n2 hq.1 hq.2.1
    refine ab_aload_n C dX9_part_9 rfl rfl ?_
    refine gf_RX9_64 C s_t rfl dX9_part_10 ?_
    refine ab_aload_n C dX9_part_13 rfl rfl ?_
    refine gf_RX9_23 C s_t rfl dX9_part_14 ?_
    refine ab_iload_n C dX9_part_17 rfl rfl ?_
    refine ab_iaload C s_t_begins (by omega) (by omega) dX9_part_18 ?_
    rw [e_b]
    refine ab_iload_n C dX9_part_19 rfl rfl ?_
    refine ab_iadd C dX9_part_20 (by omega) ?_
    refine ab_iaload C s_t_sum (by omega) (by omega) dX9_part_21 ?_
    refine ab_goto (tgt := 26) C dX9_part_22 rfl ?_
    refine ab_iret (st := []) C r dX9_part_26 ?_
    refine ⟨_, rfl, rfl, ?_⟩
    unfold aPart
    first
    | (rw [if_pos hq]; exact ((hSm.1 _ (by omega) (by omega)).1).symm)
    | rw [if_neg hq]
set_option maxRecDepth 100000 in
set_option maxHeartbeats 4000000 in
theorem m_X9_times {D : va_G} {cA : Nat → ClassId} {S : List AbS} {M : AbM} {m : Nat} {a : St} (B_t : shMo S m) (H : MRel a M m) {v : Int} : Meth yX9_times cX9_times 3 (some .int) rmX9_times D cA S [vP m, vI v] M (qI fun q M2 => same (MP m) M M2 ∧ ∃ b, oTimes a v q b ∧ MRel b M2 m) := by
  refine ab_intro (lv := [vP m, vI v, vU]) (by decide +kernel) rfl (Nat.le_of_ble_eq_true rfl) ?_
  intro hO hargs K hKD hKA C r
  have C : Cx K cX9_times RX9 rmX9_times := C
  have i_v : inI v := hargs _ (List.mem_cons_of_mem _ (List.mem_cons_self))
  obtain ⟨s_t, s_t_words, s_t_begins, s_t_squares, s_t_lengths, s_t_numbers, s_t_made, s_t_tape, s_t_rows, s_t_leads, s_t_otherRows, s_t_otherLeads, s_t_row, s_t_equations, s_t_firsts, s_t_sum, s_t_lanes, s_t_sizes, s_t_items⟩ := id B_t
  obtain ⟨A_t, hLw, hR, ⟨hSm, hSm0⟩, hTp, hSh⟩ := id H
  obtain ⟨⟨n1, n2, hPr⟩, m_n, m_p, m_L, m_w⟩ := id A_t
  obtain ⟨p1, p2, -⟩ := id hPr
  have hLB := Lg_B a.n
  refine ab_iload_n C dX9_times_0 rfl rfl ?_
  refine ab_i2l C dX9_times_1 ?_
  refine ab_lconst (n := 0) C dX9_times_2 (by decide) (by decide +kernel) ?_
  refine ab_ldc2 (n := 999) C gw807 dX9_times_3 (by decide) (by decide +kernel) ?_
  refine ab_callS C cl_RX9_90 (m_X9_in) (by decide) rfl rfl (Nat.le_of_ble_eq_true rfl) dX9_times_6 (ab_kI (fun r_6 M_6 h_6 => ?_))
  obtain ⟨rfl, rfl⟩ := h_6
  refine ab_if_ne (tgt := 14) C dX9_times_9 rfl (fun h_9 => ?_) (fun h_9 => ?_)
  · skip
    have hk := b01_ne h_9
    refine ab_iconst C dX9_times_14 (by decide) ?_
    refine ab_istore2 (lv := []) C rfl dX9_times_15 ?_
    have hr : ∀ j, 0 ≤ j → j < 400 → 0 ≤ M (m + 15) j ∧ M (m + 15) j < a.p := fun j x y => by
      rcases (show j < 364 ∨ 364 ≤ j by omega) with z | z
      · rw [(hSm.1 j x z).1]; exact (hSm.1 j x z).2
      · rw [hSm0 j z y]; omega
    refine ab_mem (M2 := upA M (m + 15) (fun j => if 0 ≤ j ∧ j < (0 : Int) then M (m + 15) j * v % a.p else M (m + 15) j)) (upA_id (fun j => if_neg (by omega))) ?_
    refine ab_loop (fun i (_ : Unit) => AJ K S 16 [vP m, vI v, vI i] [] (upA M (m + 15) (fun j => if 0 ≤ j ∧ j < i then M (m + 15) j * v % a.p else M (m + 15) j))) (fun i _ => 0 ≤ i) 400 ?_ 0 () (by omega) (by omega)
    · intro i _ hi i0 ih
      have t15 : upA M (m + 15) (fun j => if 0 ≤ j ∧ j < i then M (m + 15) j * v % a.p else M (m + 15) j) (m + 15) i = M (m + 15) i := by rw [upA_s, if_neg (by omega)]
      have tp : upA M (m + 15) (fun j => if 0 ≤ j ∧ j < i then M (m + 15) j * v % a.p else M (m + 15) j) m 1 = a.p := by rw [upA_k (by omega), m_p]
      have hm : i < 400 → 0 ≤ M (m + 15) i * v ∧ M (m + 15) i * v ≤ 97 * 999 := fun z => by
        have := hr i i0 z
        exact ⟨Int.mul_nonneg (by omega) (by omega), Int.mul_le_mul (by omega) (by omega) (by omega) (by omega)⟩
      refine ab_iload_n C dX9_times_16 rfl rfl ?_
      refine ab_sipush C dX9_times_17 (by decide) (by decide +kernel) ?_
      refine ab_icmp_ge (tgt := 48) C dX9_times_20 rfl (fun h_20 => ?_) (fun h_20 => ?_)
      · skip
        refine ab_aload_n C dX9_times_48 rfl rfl ?_
        refine gf_RX9_64 C s_t rfl dX9_times_49 ?_
        refine ab_iconst C dX9_times_52 (by decide) ?_
        refine ab_sipush C dX9_times_53 (by decide) (by decide +kernel) ?_
        refine ab_callS C cl_RX9_178 (m_X9_termsOf s_t_sum (by omega) (by omega) (by omega) (by omega)) (by decide) rfl rfl (Nat.le_of_ble_eq_true rfl) dX9_times_56 (ab_kI (fun r_56 M_56 h_56 => ?_))
        obtain ⟨rfl, rfl⟩ := h_56
        refine ab_iret (st := []) C r dX9_times_59 ?_
        have ei : i = 400 := by omega
        subst ei
        have hrow : ∀ j, 0 ≤ j → j < 400 → upA M (m + 15) (fun j => if 0 ≤ j ∧ j < 400 then M (m + 15) j * v % a.p else M (m + 15) j) (m + 15) j = M (m + 15) j * v % a.p := fun j x y => by rw [upA_s, if_pos ⟨x, y⟩]
        refine ⟨_, rfl, same_upA (by simp), _, Or.inr ⟨hk, ?_, rfl⟩, ?_⟩
        · exact cnt_400 (fun j x y => by rw [Int.zero_add, hrow j x (by omega), (hSm.1 j x y).1]) (fun j x y => by rw [Int.zero_add, hrow j (by omega) y, hSm0 j x y, Int.zero_mul, Int.zero_emod])
        · refine MRel.sum H (same_upA (by simp)) ⟨fun j x y => ?_, fun j x y => ?_⟩ (fun j x y => by rw [hrow j (by omega) y, hSm0 j x y, Int.zero_mul, Int.zero_emod])
          · rw [hrow j x (by omega), (hSm.1 j x y).1]
            exact ⟨rfl, emod_in p1⟩
          · show a.sum j * v % a.p = 0
            rw [hSm.2 j x y, Int.zero_mul, Int.zero_emod]
      · skip
        refine ab_aload_n C dX9_times_23 rfl rfl ?_
        refine gf_RX9_64 C s_t rfl dX9_times_24 ?_
        refine ab_iload_n C dX9_times_27 rfl rfl ?_
        refine ab_aload_n C dX9_times_28 rfl rfl ?_
        refine gf_RX9_64 C s_t rfl dX9_times_29 ?_
        refine ab_iload_n C dX9_times_32 rfl rfl ?_
        refine ab_iaload C s_t_sum (by omega) (by omega) dX9_times_33 ?_
        rw [t15]
        refine ab_iload_n C dX9_times_34 rfl rfl ?_
        refine ab_imul C dX9_times_35 (by omega) ?_
        refine ab_aload_n C dX9_times_36 rfl rfl ?_
        refine gf_RX9_13 C s_t rfl dX9_times_37 ?_
        rw [tp]
        refine ab_irem C dX9_times_40 (by omega) (by omega) ?_
        refine ab_iastore C s_t_sum (by omega) (by omega) dX9_times_41 ?_
        refine ab_iinc2 (lv := []) C rfl dX9_times_42 (by omega) ?_
        refine ab_goto (tgt := 16) C dX9_times_45 rfl ?_
        refine ab_mem (M2 := upA M (m + 15) (fun j => if 0 ≤ j ∧ j < (i + 1) then M (m + 15) j * v % a.p else M (m + 15) j)) ?_ (ih () (by omega) (by omega))
        rw [up_upA]
        exact upA_ext (fun j => by
          by_cases q1 : j = i
          · rw [if_pos q1, if_pos (by omega), q1]
          · rw [if_neg q1]
            by_cases q2 : 0 ≤ j ∧ j < i
            · rw [if_pos q2, if_pos (by omega)]
            · rw [if_neg q2, if_neg (by omega)])
  · skip
    have hk := b01_eq h_9
    refine ab_iconst C dX9_times_12 (by decide) ?_
    refine ab_iret (st := []) C r dX9_times_13 ?_
    exact ⟨_, rfl, same_rf _ _, a, Or.inl ⟨hk, rfl, rfl⟩, H⟩
