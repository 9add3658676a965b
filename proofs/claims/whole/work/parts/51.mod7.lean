set_option maxRecDepth 100000 in
set_option maxHeartbeats 4000000 in
theorem m_X9_normalIn {D : va_G} {cA : Nat → ClassId} {S : List AbS} {M : AbM} {m : Nat} {n p : Int} (B_t : shMo S m) (A_t : MoA M m n p) {le : Nat} (s_le : S[le]? = some (sA 1 400)) {d : Int} (h0 : 0 ≤ d) (h1 : d ≤ Lg n) : Meth yX9_normalIn cX9_normalIn 5 (some .int) rmX9_normalIn D cA S [vP m, vP le, vI d] M (qI fun q M2 => M = M2 ∧ nmC n d (M le) = q) := by
  refine ab_intro (lv := [vP m, vP le, vI d, vU, vU]) (by decide +kernel) rfl (Nat.le_of_ble_eq_true rfl) ?_
  intro hO hargs K hKD hKA C r
  have C : Cx K cX9_normalIn RX9 rmX9_normalIn := C
  have i_d : inI d := hargs _ (List.mem_cons_of_mem _ (List.mem_cons_of_mem _ (List.mem_cons_self)))
  obtain ⟨s_t, s_t_words, s_t_begins, s_t_squares, s_t_lengths, s_t_numbers, s_t_made, s_t_tape, s_t_rows, s_t_leads, s_t_otherRows, s_t_otherLeads, s_t_row, s_t_equations, s_t_firsts, s_t_sum, s_t_lanes, s_t_sizes, s_t_items⟩ := id B_t
  obtain ⟨⟨n1, n2, hPr⟩, m_n, m_p, m_L, m_w⟩ := id A_t
  obtain ⟨p1, p2, -⟩ := id hPr
  have hLB := Lg_B n
  have hB := sz_B n1 n2 h0 h1
  obtain ⟨e_w, e_b, e_s⟩ := m_w d h0 h1
  refine ab_iconst C dX9_normalIn_0 (by decide) ?_
  refine ab_istore3 (lv := []) C rfl dX9_normalIn_1 ?_
  refine ab_iconst C dX9_normalIn_2 (by decide) ?_
  refine ab_istore4 (lv := []) C rfl dX9_normalIn_3 ?_
  refine ab_loop (fun w (_ : Unit) => AJ K S 5 [vP m, vP le, vI d, vI (cntF (nlF n d (M le)) w), vI w] [] M) (fun w _ => 0 ≤ w) (pw n d) ?_ 0 () (by omega) (by omega)
  · intro w _ hw w0 ih
    have cB := cntF_B (f := nlF n d (M le)) w0
    rw [cntF_s w0] at ih
    refine ab_iload C dX9_normalIn_5 rfl ?_
    refine ab_aload_n C dX9_normalIn_7 rfl rfl ?_
    refine gf_RX9_19 C s_t rfl dX9_normalIn_8 ?_
    refine ab_iload_n C dX9_normalIn_11 rfl rfl ?_
    refine ab_iaload C s_t_words (by omega) (by omega) dX9_normalIn_12 ?_
    rw [e_w]
    refine ab_icmp_ge (tgt := 44) C dX9_normalIn_13 rfl (fun h_13 => ?_) (fun h_13 => ?_)
    · skip
      refine ab_iload_n C dX9_normalIn_44 rfl rfl ?_
      refine ab_iret (st := []) C r dX9_normalIn_45 ?_
      exact ⟨_, rfl, rfl, by unfold nmC; rw [show w = pw n d by omega]⟩
    · skip
      refine ab_iload_n C dX9_normalIn_16 rfl rfl ?_
      refine ab_aload_n C dX9_normalIn_17 rfl rfl ?_
      refine ab_aload_n C dX9_normalIn_18 rfl rfl ?_
      refine gf_RX9_23 C s_t rfl dX9_normalIn_19 ?_
      refine ab_iload_n C dX9_normalIn_22 rfl rfl ?_
      refine ab_iaload C s_t_begins (by omega) (by omega) dX9_normalIn_23 ?_
      rw [e_b]
      refine ab_iload C dX9_normalIn_24 rfl ?_
      refine ab_iadd C dX9_normalIn_26 (by omega) ?_
      refine ab_baload C s_le (by omega) (by omega) dX9_normalIn_27 ?_
      have ef : M le (wsm n d + w) = ldq n d (M le) w := rfl
      rw [ef]
      refine ab_if_eq (tgt := 35) C dX9_normalIn_28 rfl (fun h_28 => ?_) (fun h_28 => ?_)
      · skip
        refine ab_iconst C dX9_normalIn_35 (by decide) ?_
        refine ab_iadd C dX9_normalIn_36 (by omega) ?_
        refine ab_istore3 (lv := []) C rfl dX9_normalIn_37 ?_
        refine ab_iinc4 (lv := []) C rfl dX9_normalIn_38 (by omega) ?_
        refine ab_goto (tgt := 5) C dX9_normalIn_41 rfl ?_
        first
        | (rw [show nlF n d (M le) w = 1 from if_pos h_28, if_neg (by decide)] at ih; exact ih () (by omega) (by omega))
        | (rw [show nlF n d (M le) w = 0 from if_neg h_28, if_pos rfl] at ih; exact ih () (by omega) (by omega))
      · skip
        refine ab_iconst C dX9_normalIn_31 (by decide) ?_
        refine ab_goto (tgt := 36) C dX9_normalIn_32 rfl ?_
        refine ab_iadd C dX9_normalIn_36 (by omega) ?_
        refine ab_istore3 (lv := []) C rfl dX9_normalIn_37 ?_
        refine ab_iinc4 (lv := []) C rfl dX9_normalIn_38 (by omega) ?_
        refine ab_goto (tgt := 5) C dX9_normalIn_41 rfl ?_
        first
        | (rw [show nlF n d (M le) w = 1 from if_pos h_28, if_neg (by decide)] at ih; exact ih () (by omega) (by omega))
        | (rw [show nlF n d (M le) w = 0 from if_neg h_28, if_pos rfl] at ih; exact ih () (by omega) (by omega))
set_option maxRecDepth 100000 in
set_option maxHeartbeats 4000000 in
theorem m_X9_wordOf {D : va_G} {cA : Nat → ClassId} {S : List AbS} {M : AbM} {m : Nat} {n p : Int} (B_t : shMo S m) (A_t : MoA M m n p) {d : Int} (h0 : 0 ≤ d) (h1 : d ≤ Lg n) {i : Int} (i0 : 0 ≤ i) : Meth yX9_wordOf cX9_wordOf 5 (some .int) rmX9_wordOf D cA S [vP m, vI d, vI i] M (qI fun q M2 => M = M2 ∧ nthF (nlF n d (M (m + 9))) (pw n d) i = q) := by
  refine ab_intro (lv := [vP m, vI d, vI i, vU, vU]) (by decide +kernel) rfl (Nat.le_of_ble_eq_true rfl) ?_
  intro hO hargs K hKD hKA C r
  have C : Cx K cX9_wordOf RX9 rmX9_wordOf := C
  have i_d : inI d := hargs _ (List.mem_cons_of_mem _ (List.mem_cons_self))
  have i_i : inI i := hargs _ (List.mem_cons_of_mem _ (List.mem_cons_of_mem _ (List.mem_cons_self)))
  obtain ⟨s_t, s_t_words, s_t_begins, s_t_squares, s_t_lengths, s_t_numbers, s_t_made, s_t_tape, s_t_rows, s_t_leads, s_t_otherRows, s_t_otherLeads, s_t_row, s_t_equations, s_t_firsts, s_t_sum, s_t_lanes, s_t_sizes, s_t_items⟩ := id B_t
  obtain ⟨⟨n1, n2, hPr⟩, m_n, m_p, m_L, m_w⟩ := id A_t
  obtain ⟨p1, p2, -⟩ := id hPr
  have hLB := Lg_B n
  have hB := sz_B n1 n2 h0 h1
  obtain ⟨e_w, e_b, e_s⟩ := m_w d h0 h1
  refine ab_iconst C dX9_wordOf_0 (by decide) ?_
  refine ab_istore3 (lv := []) C rfl dX9_wordOf_1 ?_
  refine ab_iconst C dX9_wordOf_2 (by decide) ?_
  refine ab_istore4 (lv := []) C rfl dX9_wordOf_3 ?_
  refine ab_loop (fun w (_ : Unit) => AJ K S 5 [vP m, vI d, vI i, vI (cntF (nlF n d (M (m + 9))) w), vI w] [] M) (fun w _ => 0 ≤ w ∧ cntF (nlF n d (M (m + 9))) w ≤ i) (pw n d) ?_ 0 () (by omega) ⟨by omega, i0⟩
  · intro w _ hw hI ih
    obtain ⟨w0, hci⟩ := hI
    have cB := cntF_B (f := nlF n d (M (m + 9))) w0
    rw [cntF_s w0] at ih
    refine ab_iload C dX9_wordOf_5 rfl ?_
    refine ab_aload_n C dX9_wordOf_7 rfl rfl ?_
    refine gf_RX9_19 C s_t rfl dX9_wordOf_8 ?_
    refine ab_iload_n C dX9_wordOf_11 rfl rfl ?_
    refine ab_iaload C s_t_words (by omega) (by omega) dX9_wordOf_12 ?_
    rw [e_w]
    refine ab_icmp_ge (tgt := 50) C dX9_wordOf_13 rfl (fun h_13 => ?_) (fun h_13 => ?_)
    · skip
      refine ab_iconst C dX9_wordOf_50 (by decide) ?_
      refine ab_iret (st := []) C r dX9_wordOf_51 ?_
      have ew : w = pw n d := by omega
      exact ⟨_, rfl, rfl, nthF_out (by omega) (Or.inr (by rw [← ew]; exact hci))⟩
    · skip
      refine ab_aload_n C dX9_wordOf_16 rfl rfl ?_
      refine gf_RX9_45 C s_t rfl dX9_wordOf_17 ?_
      refine ab_aload_n C dX9_wordOf_20 rfl rfl ?_
      refine gf_RX9_23 C s_t rfl dX9_wordOf_21 ?_
      refine ab_iload_n C dX9_wordOf_24 rfl rfl ?_
      refine ab_iaload C s_t_begins (by omega) (by omega) dX9_wordOf_25 ?_
      rw [e_b]
      refine ab_iload C dX9_wordOf_26 rfl ?_
      refine ab_iadd C dX9_wordOf_28 (by omega) ?_
      refine ab_baload C s_t_leads (by omega) (by omega) dX9_wordOf_29 ?_
      have ef : M (m + 9) (wsm n d + w) = ldq n d (M (m + 9)) w := rfl
      rw [ef]
      refine ab_if_ne (tgt := 44) C dX9_wordOf_30 rfl (fun h_30 => ?_) (fun h_30 => ?_)
      · skip
        refine ab_iinc4 (lv := []) C rfl dX9_wordOf_44 (by omega) ?_
        refine ab_goto (tgt := 5) C dX9_wordOf_47 rfl ?_
        first
        | (rw [show nlF n d (M (m + 9)) w = 1 from if_pos (by omega), if_neg (by decide)] at ih; exact ih () (by omega) ⟨by omega, by omega⟩)
        | (rw [show nlF n d (M (m + 9)) w = 0 from if_neg h_30, if_pos rfl, Int.add_zero] at ih; exact ih () (by omega) ⟨by omega, by omega⟩)
      · skip
        refine ab_iload_n C dX9_wordOf_33 rfl rfl ?_
        refine ab_iload_n C dX9_wordOf_34 rfl rfl ?_
        refine ab_icmp_ne (tgt := 41) C dX9_wordOf_35 rfl (fun h_35 => ?_) (fun h_35 => ?_)
        · skip
          refine ab_iinc3 (lv := []) C rfl dX9_wordOf_41 (by omega) ?_
          refine ab_iinc4 (lv := []) C rfl dX9_wordOf_44 (by omega) ?_
          refine ab_goto (tgt := 5) C dX9_wordOf_47 rfl ?_
          first
          | (rw [show nlF n d (M (m + 9)) w = 1 from if_pos (by omega), if_neg (by decide)] at ih; exact ih () (by omega) ⟨by omega, by omega⟩)
          | (rw [show nlF n d (M (m + 9)) w = 0 from if_neg h_30, if_pos rfl, Int.add_zero] at ih; exact ih () (by omega) ⟨by omega, by omega⟩)
        · skip
          refine ab_iload C dX9_wordOf_38 rfl ?_
          refine ab_iret (st := []) C r dX9_wordOf_40 ?_
          have hn : nlF n d (M (m + 9)) w ≠ 0 := by
            rw [show nlF n d (M (m + 9)) w = 1 from if_pos (by omega)]; decide
          exact ⟨_, rfl, rfl, by rw [← h_35]; exact nthF_at w0 (by omega) hn⟩
set_option maxRecDepth 100000 in
set_option maxHeartbeats 4000000 in
theorem m_X9_plainOf {D : va_G} {cA : Nat → ClassId} {S : List AbS} {M : AbM} {m : Nat} {n p : Int} (B_t : shMo S m) (A_t : MoA M m n p) {d : Int} (h0 : 0 ≤ d) (h1 : d ≤ Lg n) {v w : Int} (v0 : 0 ≤ v) (v1 : v < pw n d) (w0 : 0 ≤ w) (w1 : w < pw n d) (hE : EchOK n p d (M (m + 8)) (M (m + 9))) : Meth yX9_plainOf cX9_plainOf 4 (some .int) rmX9_plainOf D cA S [vP m, vI d, vI v, vI w] M (qI fun q M2 => M = M2 ∧ RM n p d (M (m + 8)) (M (m + 9)) w v = q) := by
  refine ab_intro (lv := [vP m, vI d, vI v, vI w]) (by decide +kernel) rfl (Nat.le_of_ble_eq_true rfl) ?_
  intro hO hargs K hKD hKA C r
  have C : Cx K cX9_plainOf RX9 rmX9_plainOf := C
  have i_d : inI d := hargs _ (List.mem_cons_of_mem _ (List.mem_cons_self))
  have i_v : inI v := hargs _ (List.mem_cons_of_mem _ (List.mem_cons_of_mem _ (List.mem_cons_self)))
  have i_w : inI w := hargs _ (List.mem_cons_of_mem _ (List.mem_cons_of_mem _ (List.mem_cons_of_mem _ (List.mem_cons_self))))
  obtain ⟨s_t, s_t_words, s_t_begins, s_t_squares, s_t_lengths, s_t_numbers, s_t_made, s_t_tape, s_t_rows, s_t_leads, s_t_otherRows, s_t_otherLeads, s_t_row, s_t_equations, s_t_firsts, s_t_sum, s_t_lanes, s_t_sizes, s_t_items⟩ := id B_t
  obtain ⟨⟨n1, n2, hPr⟩, m_n, m_p, m_L, m_w⟩ := id A_t
  obtain ⟨p1, p2, -⟩ := id hPr
  have hLB := Lg_B n
  have hB := sz_B n1 n2 h0 h1
  obtain ⟨e_w, e_b, e_s⟩ := m_w d h0 h1
  have hwB := rwq_B n1 n2 h0 h1 w0 w1 v0 v1
  have hEw := (hE w w0 w1).2
  have hEv := fun z => (hEw z).2 v v0 v1
  refine ab_aload_n C dX9_plainOf_0 rfl rfl ?_
  refine gf_RX9_45 C s_t rfl dX9_plainOf_1 ?_
  refine ab_aload_n C dX9_plainOf_4 rfl rfl ?_
  refine gf_RX9_23 C s_t rfl dX9_plainOf_5 ?_
  refine ab_iload_n C dX9_plainOf_8 rfl rfl ?_
  refine ab_iaload C s_t_begins (by omega) (by omega) dX9_plainOf_9 ?_
  rw [e_b]
  refine ab_iload_n C dX9_plainOf_10 rfl rfl ?_
  refine ab_iadd C dX9_plainOf_11 (by omega) ?_
  refine ab_baload C s_t_leads (by omega) (by omega) dX9_plainOf_12 ?_
  have ef : M (m + 9) (wsm n d + w) = ldq n d (M (m + 9)) w := rfl
  rw [ef]
  refine ab_if_ne (tgt := 27) C dX9_plainOf_13 rfl (fun h_13 => ?_) (fun h_13 => ?_)
  · skip
    have hEv := hEv h_13
    refine ab_iload_n C dX9_plainOf_27 rfl rfl ?_
    refine ab_iload_n C dX9_plainOf_28 rfl rfl ?_
    refine ab_icmp_ne (tgt := 36) C dX9_plainOf_29 rfl (fun h_29 => ?_) (fun h_29 => ?_)
    · skip
      refine ab_aload_n C dX9_plainOf_36 rfl rfl ?_
      refine gf_RX9_13 C s_t rfl dX9_plainOf_37 ?_
      rw [m_p]
      refine ab_aload_n C dX9_plainOf_40 rfl rfl ?_
      refine gf_RX9_42 C s_t rfl dX9_plainOf_41 ?_
      refine ab_aload_n C dX9_plainOf_44 rfl rfl ?_
      refine gf_RX9_26 C s_t rfl dX9_plainOf_45 ?_
      refine ab_iload_n C dX9_plainOf_48 rfl rfl ?_
      refine ab_iaload C s_t_squares (by omega) (by omega) dX9_plainOf_49 ?_
      rw [e_s]
      refine ab_iload_n C dX9_plainOf_50 rfl rfl ?_
      refine ab_aload_n C dX9_plainOf_51 rfl rfl ?_
      refine gf_RX9_19 C s_t rfl dX9_plainOf_52 ?_
      refine ab_iload_n C dX9_plainOf_55 rfl rfl ?_
      refine ab_iaload C s_t_words (by omega) (by omega) dX9_plainOf_56 ?_
      rw [e_w]
      refine ab_imul C dX9_plainOf_57 (by omega) ?_
      refine ab_iadd C dX9_plainOf_58 (by omega) ?_
      refine ab_iload_n C dX9_plainOf_59 rfl rfl ?_
      refine ab_iadd C dX9_plainOf_60 (by omega) ?_
      refine ab_iaload C s_t_rows (by omega) (by omega) dX9_plainOf_61 ?_
      have ea : M (m + 8) (sqm n d + w * pw n d + v) = rwq n d (M (m + 8)) w v := rfl
      rw [ea]
      refine ab_isub C dX9_plainOf_62 (by omega) ?_
      refine ab_aload_n C dX9_plainOf_63 rfl rfl ?_
      refine gf_RX9_13 C s_t rfl dX9_plainOf_64 ?_
      rw [m_p]
      refine ab_irem C dX9_plainOf_67 (by omega) (by omega) ?_
      refine ab_iret (st := []) C r dX9_plainOf_68 ?_
      refine ⟨_, rfl, rfl, ?_⟩
      rw [RM_1 h_13]
      first
      | (rw [if_neg (by omega)])
      | (rcases (show v < w ∨ w < v by omega) with q | q
         · rw [if_pos ⟨v0, q⟩]
         · rw [if_neg (by omega), hEv.2.2 q, Int.sub_zero, Int.emod_self])
    · skip
      refine ab_iconst C dX9_plainOf_32 (by decide) ?_
      refine ab_goto (tgt := 68) C dX9_plainOf_33 rfl ?_
      refine ab_iret (st := []) C r dX9_plainOf_68 ?_
      refine ⟨_, rfl, rfl, ?_⟩
      rw [RM_1 h_13]
      first
      | (rw [if_neg (by omega)])
      | (rcases (show v < w ∨ w < v by omega) with q | q
         · rw [if_pos ⟨v0, q⟩]
         · rw [if_neg (by omega), hEv.2.2 q, Int.sub_zero, Int.emod_self])
  · skip
    refine ab_iload_n C dX9_plainOf_16 rfl rfl ?_
    refine ab_iload_n C dX9_plainOf_17 rfl rfl ?_
    refine ab_icmp_ne (tgt := 25) C dX9_plainOf_18 rfl (fun h_18 => ?_) (fun h_18 => ?_)
    · skip
      refine ab_iconst C dX9_plainOf_25 (by decide) ?_
      refine ab_iret (st := []) C r dX9_plainOf_26 ?_
      refine ⟨_, rfl, rfl, ?_⟩
      rw [RM_0 (by omega)]
      first | exact if_pos h_18 | exact if_neg h_18
    · skip
      refine ab_iconst C dX9_plainOf_21 (by decide) ?_
      refine ab_goto (tgt := 26) C dX9_plainOf_22 rfl ?_
      refine ab_iret (st := []) C r dX9_plainOf_26 ?_
      refine ⟨_, rfl, rfl, ?_⟩
      rw [RM_0 (by omega)]
      first | exact if_pos h_18 | exact if_neg h_18
set_option maxRecDepth 100000 in
set_option maxHeartbeats 4000000 in
theorem m_X9_isLeast {D : va_G} {cA : Nat → ClassId} {S : List AbS} {M : AbM} {m : Nat} {n p : Int} (B_t : shMo S m) (A_t : MoA M m n p) {d w : Int} (h0 : 1 ≤ d) (h1 : d ≤ Lg n) (w0 : 0 ≤ w) (w1 : w < pw n d) : Meth yX9_isLeast cX9_isLeast 4 (some .boolean) rmX9_isLeast D cA S [vP m, vI d, vI w] M (qI fun q M2 => M = M2 ∧ lsF n d (M (m + 9)) w = q) := by
  refine ab_intro (lv := [vP m, vI d, vI w, vU]) (by decide +kernel) rfl (Nat.le_of_ble_eq_true rfl) ?_
  intro hO hargs K hKD hKA C r
  have C : Cx K cX9_isLeast RX9 rmX9_isLeast := C
  have i_d : inI d := hargs _ (List.mem_cons_of_mem _ (List.mem_cons_self))
  have i_w : inI w := hargs _ (List.mem_cons_of_mem _ (List.mem_cons_of_mem _ (List.mem_cons_self)))
  obtain ⟨s_t, s_t_words, s_t_begins, s_t_squares, s_t_lengths, s_t_numbers, s_t_made, s_t_tape, s_t_rows, s_t_leads, s_t_otherRows, s_t_otherLeads, s_t_row, s_t_equations, s_t_firsts, s_t_sum, s_t_lanes, s_t_sizes, s_t_items⟩ := id B_t
  obtain ⟨⟨n1, n2, hPr⟩, m_n, m_p, m_L, m_w⟩ := id A_t
  obtain ⟨p1, p2, -⟩ := id hPr
  have hLB := Lg_B n
  have hB := sz_B n1 n2 (show 0 ≤ d by omega) h1
  have hB1 := sz_B n1 n2 (show 0 ≤ d - 1 by omega) (show d - 1 ≤ Lg n by omega)
  obtain ⟨e_w, e_b, e_s⟩ := m_w d (by omega) h1
  obtain ⟨e_w1, e_b1, e_s1⟩ := m_w (d - 1) (by omega) (by omega)
  obtain ⟨t0, t1, -⟩ := tail_B n1 h0 w0 w1
  obtain ⟨u0, u1, -⟩ := head_B n1 h0 w0 w1
  refine ab_aload_n C dX9_isLeast_0 rfl rfl ?_
  refine gf_RX9_45 C s_t rfl dX9_isLeast_1 ?_
  refine ab_aload_n C dX9_isLeast_4 rfl rfl ?_
  refine gf_RX9_23 C s_t rfl dX9_isLeast_5 ?_
  refine ab_iload_n C dX9_isLeast_8 rfl rfl ?_
  refine ab_iconst C dX9_isLeast_9 (by decide) ?_
  refine ab_isub C dX9_isLeast_10 (by omega) ?_
  refine ab_iaload C s_t_begins (by omega) (by omega) dX9_isLeast_11 ?_
  rw [e_b1]
  refine ab_iload_n C dX9_isLeast_12 rfl rfl ?_
  refine ab_aload_n C dX9_isLeast_13 rfl rfl ?_
  refine gf_RX9_19 C s_t rfl dX9_isLeast_14 ?_
  refine ab_iload_n C dX9_isLeast_17 rfl rfl ?_
  refine ab_iconst C dX9_isLeast_18 (by decide) ?_
  refine ab_isub C dX9_isLeast_19 (by omega) ?_
  refine ab_iaload C s_t_words (by omega) (by omega) dX9_isLeast_20 ?_
  rw [e_w1]
  refine ab_irem C dX9_isLeast_21 (by omega) (by omega) ?_
  refine ab_iadd C dX9_isLeast_22 (by omega) ?_
  refine ab_baload C s_t_leads (by omega) (by omega) dX9_isLeast_23 ?_
  have f1 : M (m + 9) (wsm n (d - 1) + w % pw n (d - 1)) = ldq n (d - 1) (M (m + 9)) (w % pw n (d - 1)) := rfl
  rw [f1]
  refine ab_if_ne (tgt := 50) C dX9_isLeast_24 rfl (fun h_24 => ?_) (fun h_24 => ?_)
  · skip
    refine ab_iconst C dX9_isLeast_50 (by decide) ?_
    refine ab_goto (tgt := 55) C dX9_isLeast_51 rfl ?_
    refine ab_istore3 (lv := []) C rfl dX9_isLeast_55 ?_
    refine ab_aload_n C dX9_isLeast_56 rfl rfl ?_
    refine gf_RX9_45 C s_t rfl dX9_isLeast_57 ?_
    refine ab_aload_n C dX9_isLeast_60 rfl rfl ?_
    refine gf_RX9_23 C s_t rfl dX9_isLeast_61 ?_
    refine ab_iload_n C dX9_isLeast_64 rfl rfl ?_
    refine ab_iaload C s_t_begins (by omega) (by omega) dX9_isLeast_65 ?_
    rw [e_b]
    refine ab_iload_n C dX9_isLeast_66 rfl rfl ?_
    refine ab_iadd C dX9_isLeast_67 (by omega) ?_
    refine ab_baload C s_t_leads (by omega) (by omega) dX9_isLeast_68 ?_
    have f3 : M (m + 9) (wsm n d + w) = ldq n d (M (m + 9)) w := rfl
    rw [f3]
    refine ab_if_eq (tgt := 80) C dX9_isLeast_69 rfl (fun h_69 => ?_) (fun h_69 => ?_)
    · skip
      refine ab_iconst C dX9_isLeast_80 (by decide) ?_
      refine ab_zret (st := []) C r (by omega) dX9_isLeast_81 ?_
      refine ⟨_, rfl, rfl, ?_⟩
      unfold lsF
      first
      | exact if_pos ⟨by omega, by assumption, by assumption, by assumption⟩
      | exact if_neg (fun z => by first | exact z.2.1 (by assumption) | exact absurd z.2.2.1 (by assumption) | exact absurd z.2.2.2 (by assumption) | exact absurd (by assumption) z.2.1)
    · skip
      refine ab_iload_n C dX9_isLeast_72 rfl rfl ?_
      refine ab_if_ne (tgt := 80) C dX9_isLeast_73 rfl (fun h_73 => ?_) (fun h_73 => ?_)
      · skip
        refine ab_iconst C dX9_isLeast_80 (by decide) ?_
        refine ab_zret (st := []) C r (by omega) dX9_isLeast_81 ?_
        refine ⟨_, rfl, rfl, ?_⟩
        unfold lsF
        first
        | exact if_pos ⟨by omega, by assumption, by assumption, by assumption⟩
        | exact if_neg (fun z => by first | exact z.2.1 (by assumption) | exact absurd z.2.2.1 (by assumption) | exact absurd z.2.2.2 (by assumption) | exact absurd (by assumption) z.2.1)
      · exact absurd h_73 (by decide)
  · skip
    refine ab_aload_n C dX9_isLeast_27 rfl rfl ?_
    refine gf_RX9_45 C s_t rfl dX9_isLeast_28 ?_
    refine ab_aload_n C dX9_isLeast_31 rfl rfl ?_
    refine gf_RX9_23 C s_t rfl dX9_isLeast_32 ?_
    refine ab_iload_n C dX9_isLeast_35 rfl rfl ?_
    refine ab_iconst C dX9_isLeast_36 (by decide) ?_
    refine ab_isub C dX9_isLeast_37 (by omega) ?_
    refine ab_iaload C s_t_begins (by omega) (by omega) dX9_isLeast_38 ?_
    rw [e_b1]
    refine ab_iload_n C dX9_isLeast_39 rfl rfl ?_
    refine ab_aload_n C dX9_isLeast_40 rfl rfl ?_
    refine gf_RX9_7 C s_t rfl dX9_isLeast_41 ?_
    rw [m_n]
    refine ab_idiv C dX9_isLeast_44 (by omega) (by omega) ?_
    refine ab_iadd C dX9_isLeast_45 (by omega) ?_
    refine ab_baload C s_t_leads (by omega) (by omega) dX9_isLeast_46 ?_
    have f2 : M (m + 9) (wsm n (d - 1) + w / n) = ldq n (d - 1) (M (m + 9)) (w / n) := rfl
    rw [f2]
    refine ab_if_eq (tgt := 54) C dX9_isLeast_47 rfl (fun h_47 => ?_) (fun h_47 => ?_)
    · skip
      refine ab_iconst C dX9_isLeast_54 (by decide) ?_
      refine ab_istore3 (lv := []) C rfl dX9_isLeast_55 ?_
      refine ab_aload_n C dX9_isLeast_56 rfl rfl ?_
      refine gf_RX9_45 C s_t rfl dX9_isLeast_57 ?_
      refine ab_aload_n C dX9_isLeast_60 rfl rfl ?_
      refine gf_RX9_23 C s_t rfl dX9_isLeast_61 ?_
      refine ab_iload_n C dX9_isLeast_64 rfl rfl ?_
      refine ab_iaload C s_t_begins (by omega) (by omega) dX9_isLeast_65 ?_
      rw [e_b]
      refine ab_iload_n C dX9_isLeast_66 rfl rfl ?_
      refine ab_iadd C dX9_isLeast_67 (by omega) ?_
      refine ab_baload C s_t_leads (by omega) (by omega) dX9_isLeast_68 ?_
      have f3 : M (m + 9) (wsm n d + w) = ldq n d (M (m + 9)) w := rfl
      rw [f3]
      refine ab_if_eq (tgt := 80) C dX9_isLeast_69 rfl (fun h_69 => ?_) (fun h_69 => ?_)
      · skip
        refine ab_iconst C dX9_isLeast_80 (by decide) ?_
        refine ab_zret (st := []) C r (by omega) dX9_isLeast_81 ?_
        refine ⟨_, rfl, rfl, ?_⟩
        unfold lsF
        first
        | exact if_pos ⟨by omega, by assumption, by assumption, by assumption⟩
        | exact if_neg (fun z => by first | exact z.2.1 (by assumption) | exact absurd z.2.2.1 (by assumption) | exact absurd z.2.2.2 (by assumption) | exact absurd (by assumption) z.2.1)
      · skip
        refine ab_iload_n C dX9_isLeast_72 rfl rfl ?_
        refine ab_if_ne (tgt := 80) C dX9_isLeast_73 rfl (fun h_73 => ?_) (fun h_73 => ?_)
        · exact absurd h_73 (by decide)
        · skip
          refine ab_iconst C dX9_isLeast_76 (by decide) ?_
          refine ab_goto (tgt := 81) C dX9_isLeast_77 rfl ?_
          refine ab_zret (st := []) C r (by omega) dX9_isLeast_81 ?_
          refine ⟨_, rfl, rfl, ?_⟩
          unfold lsF
          first
          | exact if_pos ⟨by omega, by assumption, by assumption, by assumption⟩
          | exact if_neg (fun z => by first | exact z.2.1 (by assumption) | exact absurd z.2.2.1 (by assumption) | exact absurd z.2.2.2 (by assumption) | exact absurd (by assumption) z.2.1)
    · skip
      refine ab_iconst C dX9_isLeast_50 (by decide) ?_
      refine ab_goto (tgt := 55) C dX9_isLeast_51 rfl ?_
      refine ab_istore3 (lv := []) C rfl dX9_isLeast_55 ?_
      refine ab_aload_n C dX9_isLeast_56 rfl rfl ?_
      refine gf_RX9_45 C s_t rfl dX9_isLeast_57 ?_
      refine ab_aload_n C dX9_isLeast_60 rfl rfl ?_
      refine gf_RX9_23 C s_t rfl dX9_isLeast_61 ?_
      refine ab_iload_n C dX9_isLeast_64 rfl rfl ?_
      refine ab_iaload C s_t_begins (by omega) (by omega) dX9_isLeast_65 ?_
      rw [e_b]
      refine ab_iload_n C dX9_isLeast_66 rfl rfl ?_
      refine ab_iadd C dX9_isLeast_67 (by omega) ?_
      refine ab_baload C s_t_leads (by omega) (by omega) dX9_isLeast_68 ?_
      have f3 : M (m + 9) (wsm n d + w) = ldq n d (M (m + 9)) w := rfl
      rw [f3]
      refine ab_if_eq (tgt := 80) C dX9_isLeast_69 rfl (fun h_69 => ?_) (fun h_69 => ?_)
      · skip
        refine ab_iconst C dX9_isLeast_80 (by decide) ?_
        refine ab_zret (st := []) C r (by omega) dX9_isLeast_81 ?_
        refine ⟨_, rfl, rfl, ?_⟩
        unfold lsF
        first
        | exact if_pos ⟨by omega, by assumption, by assumption, by assumption⟩
        | exact if_neg (fun z => by first | exact z.2.1 (by assumption) | exact absurd z.2.2.1 (by assumption) | exact absurd z.2.2.2 (by assumption) | exact absurd (by assumption) z.2.1)
      · skip
        refine ab_iload_n C dX9_isLeast_72 rfl rfl ?_
        refine ab_if_ne (tgt := 80) C dX9_isLeast_73 rfl (fun h_73 => ?_) (fun h_73 => ?_)
        · skip
          refine ab_iconst C dX9_isLeast_80 (by decide) ?_
          refine ab_zret (st := []) C r (by omega) dX9_isLeast_81 ?_
          refine ⟨_, rfl, rfl, ?_⟩
          unfold lsF
          first
          | exact if_pos ⟨by omega, by assumption, by assumption, by assumption⟩
          | exact if_neg (fun z => by first | exact z.2.1 (by assumption) | exact absurd z.2.2.1 (by assumption) | exact absurd z.2.2.2 (by assumption) | exact absurd (by assumption) z.2.1)
        · exact absurd h_73 (by decide)
set_option maxRecDepth 100000 in
set_option maxHeartbeats 4000000 in
theorem m_X9_termsOf {D : va_G} {cA : Nat → ClassId} {S : List AbS} {M : AbM} {al len : Nat} (s_al : S[al]? = some (sA 0 len)) {f c : Int} (f0 : 0 ≤ f) (c0 : 0 ≤ c) (c1 : f + c ≤ len) (c2 : f + c ≤ 100000) : Meth yX9_termsOf cX9_termsOf 5 (some .int) rmX9_termsOf D cA S [vP al, vI f, vI c] M (qI fun q M2 => M = M2 ∧ cntF (fun x => M al (f + x)) c = q) := by
  refine ab_intro (lv := [vP al, vI f, vI c, vU, vU]) (by decide +kernel) rfl (Nat.le_of_ble_eq_true rfl) ?_
  intro hO hargs K hKD hKA C r
  have C : Cx K cX9_termsOf RX9 rmX9_termsOf := C
  have i_f : inI f := hargs _ (List.mem_cons_of_mem _ (List.mem_cons_self))
  have i_c : inI c := hargs _ (List.mem_cons_of_mem _ (List.mem_cons_of_mem _ (List.mem_cons_self)))
  refine ab_iconst C dX9_termsOf_0 (by decide) ?_
  refine ab_istore3 (lv := []) C rfl dX9_termsOf_1 ?_
  refine ab_iload_n C dX9_termsOf_2 rfl rfl ?_
  refine ab_istore4 (lv := []) C rfl dX9_termsOf_3 ?_
  refine ab_lvs (lv2 := [vP al, vI f, vI c, vI (cntF (fun x => M al (f + x)) 0), vI (f + 0)]) (by rw [Int.add_zero, cntF_0]) ?_
  refine ab_loop (fun x (_ : Unit) => AJ K S 5 [vP al, vI f, vI c, vI (cntF (fun x => M al (f + x)) x), vI (f + x)] [] M) (fun x _ => 0 ≤ x) c ?_ 0 () (by omega) (by omega)
  · intro x _ hx x0 ih
    have cB := cntF_B (f := fun x => M al (f + x)) x0
    rw [cntF_s x0, ← Int.add_assoc] at ih
    refine ab_iload C dX9_termsOf_5 rfl ?_
    refine ab_iload_n C dX9_termsOf_7 rfl rfl ?_
    refine ab_iload_n C dX9_termsOf_8 rfl rfl ?_
    refine ab_iadd C dX9_termsOf_9 (by omega) ?_
    refine ab_icmp_ge (tgt := 34) C dX9_termsOf_10 rfl (fun h_10 => ?_) (fun h_10 => ?_)
    · skip
      refine ab_iload_n C dX9_termsOf_34 rfl rfl ?_
      refine ab_iret (st := []) C r dX9_termsOf_35 ?_
      exact ⟨_, rfl, rfl, by rw [show x = c by omega]⟩
    · skip
      refine ab_iload_n C dX9_termsOf_13 rfl rfl ?_
      refine ab_aload_n C dX9_termsOf_14 rfl rfl ?_
      refine ab_iload C dX9_termsOf_15 rfl ?_
      refine ab_iaload C s_al (by omega) (by omega) dX9_termsOf_17 ?_
      refine ab_if_ne (tgt := 25) C dX9_termsOf_18 rfl (fun h_18 => ?_) (fun h_18 => ?_)
      · skip
        refine ab_iconst C dX9_termsOf_25 (by decide) ?_
        refine ab_iadd C dX9_termsOf_26 (by omega) ?_
        refine ab_istore3 (lv := []) C rfl dX9_termsOf_27 ?_
        refine ab_iinc4 (lv := []) C rfl dX9_termsOf_28 (by omega) ?_
        refine ab_goto (tgt := 5) C dX9_termsOf_31 rfl ?_
        first
        | (rw [if_pos h_18] at ih; exact ih () (by omega) (by omega))
        | (rw [if_neg h_18] at ih; exact ih () (by omega) (by omega))
      · skip
        refine ab_iconst C dX9_termsOf_21 (by decide) ?_
        refine ab_goto (tgt := 26) C dX9_termsOf_22 rfl ?_
        refine ab_iadd C dX9_termsOf_26 (by omega) ?_
        refine ab_istore3 (lv := []) C rfl dX9_termsOf_27 ?_
        refine ab_iinc4 (lv := []) C rfl dX9_termsOf_28 (by omega) ?_
        refine ab_goto (tgt := 5) C dX9_termsOf_31 rfl ?_
        first
        | (rw [if_pos h_18] at ih; exact ih () (by omega) (by omega))
        | (rw [if_neg h_18] at ih; exact ih () (by omega) (by omega))
set_option maxRecDepth 100000 in
set_option maxHeartbeats 4000000 in
theorem m_X9_areShort {D : va_G} {cA : Nat → ClassId} {S : List AbS} {M : AbM} {m : Nat} (B_t : shMo S m) (h0 : 0 ≤ M m 6) (h8 : M m 6 ≤ 8) : Meth yX9_areShort cX9_areShort 3 (some .boolean) rmX9_areShort D cA S [vP m] M (qI fun q M2 => M = M2 ∧ (if cntF (fun i => M (m + 4) i - 2) (M m 6) = 0 then 1 else 0) = q) := by
  refine ab_intro (lv := [vP m, vU, vU]) (by decide +kernel) rfl (Nat.le_of_ble_eq_true rfl) ?_
  intro hO hargs K hKD hKA C r
  have C : Cx K cX9_areShort RX9 rmX9_areShort := C
  obtain ⟨s_t, s_t_words, s_t_begins, s_t_squares, s_t_lengths, s_t_numbers, s_t_made, s_t_tape, s_t_rows, s_t_leads, s_t_otherRows, s_t_otherLeads, s_t_row, s_t_equations, s_t_firsts, s_t_sum, s_t_lanes, s_t_sizes, s_t_items⟩ := id B_t
  refine ab_iconst C dX9_areShort_0 (by decide) ?_
  refine ab_istore1 (lv := []) C rfl dX9_areShort_1 ?_
  refine ab_iconst C dX9_areShort_2 (by decide) ?_
  refine ab_istore2 (lv := []) C rfl dX9_areShort_3 ?_
  refine ab_loop (fun i (x : Int) => AJ K S 4 [vP m, vI x, vI i] [] M) (fun i x => 0 ≤ i ∧ x = if cntF (fun i => M (m + 4) i - 2) i = 0 then 1 else 0) (M m 6) ?_ 0 1 (by omega) ⟨by omega, rfl⟩
  · intro i x hi hI ih
    obtain ⟨i0, hx⟩ := hI
    have cB := cntF_B (f := (fun i => M (m + 4) i - 2)) i0
    refine ab_iload_n C dX9_areShort_4 rfl rfl ?_
    refine ab_aload_n C dX9_areShort_5 rfl rfl ?_
    refine gf_RX9_79 C s_t rfl dX9_areShort_6 ?_
    refine ab_icmp_ge (tgt := 38) C dX9_areShort_9 rfl (fun h_9 => ?_) (fun h_9 => ?_)
    · skip
      refine ab_iload_n C dX9_areShort_38 rfl rfl ?_
      refine ab_zret (st := []) C r (by rw [hx]; split <;> omega) dX9_areShort_39 ?_
      have ei : i = M m 6 := by omega
      rw [hx]
      exact ⟨_, rfl, rfl, by rw [ei]⟩
    · skip
      refine ab_iload_n C dX9_areShort_12 rfl rfl ?_
      refine ab_if_eq (tgt := 30) C dX9_areShort_13 rfl (fun h_13 => ?_) (fun h_13 => ?_)
      · skip
        refine ab_iconst C dX9_areShort_30 (by decide) ?_
        refine ab_istore1 (lv := []) C rfl dX9_areShort_31 ?_
        refine ab_iinc2 (lv := []) C rfl dX9_areShort_32 (by omega) ?_
        refine ab_goto (tgt := 4) C dX9_areShort_35 rfl ?_
        refine ih _ (by omega) ⟨by omega, ?_⟩
        rw [cntF_s i0]
        first
        | (rw [hx] at h_13; have := b01_eq h_13; rw [if_neg]; split <;> omega)
        | (rw [hx] at h_13; have := b01_ne h_13; rw [if_pos (show M (m + 4) i - 2 = 0 by omega), if_pos (by omega)])
        | (rw [hx] at h_13; have := b01_ne h_13; rw [if_neg (show ¬ (M (m + 4) i - 2 = 0) by omega), if_neg (by omega)])
      · skip
        refine ab_aload_n C dX9_areShort_16 rfl rfl ?_
        refine gf_RX9_29 C s_t rfl dX9_areShort_17 ?_
        refine ab_iload_n C dX9_areShort_20 rfl rfl ?_
        refine ab_iaload C s_t_lengths (by omega) (by omega) dX9_areShort_21 ?_
        refine ab_iconst C dX9_areShort_22 (by decide) ?_
        refine ab_icmp_ne (tgt := 30) C dX9_areShort_23 rfl (fun h_23 => ?_) (fun h_23 => ?_)
        · skip
          refine ab_iconst C dX9_areShort_30 (by decide) ?_
          refine ab_istore1 (lv := []) C rfl dX9_areShort_31 ?_
          refine ab_iinc2 (lv := []) C rfl dX9_areShort_32 (by omega) ?_
          refine ab_goto (tgt := 4) C dX9_areShort_35 rfl ?_
          refine ih _ (by omega) ⟨by omega, ?_⟩
          rw [cntF_s i0]
          first
          | (rw [hx] at h_13; have := b01_eq h_13; rw [if_neg]; split <;> omega)
          | (rw [hx] at h_13; have := b01_ne h_13; rw [if_pos (show M (m + 4) i - 2 = 0 by omega), if_pos (by omega)])
          | (rw [hx] at h_13; have := b01_ne h_13; rw [if_neg (show ¬ (M (m + 4) i - 2 = 0) by omega), if_neg (by omega)])
        · skip
          refine ab_iconst C dX9_areShort_26 (by decide) ?_
          refine ab_goto (tgt := 31) C dX9_areShort_27 rfl ?_
          refine ab_istore1 (lv := []) C rfl dX9_areShort_31 ?_
          refine ab_iinc2 (lv := []) C rfl dX9_areShort_32 (by omega) ?_
          refine ab_goto (tgt := 4) C dX9_areShort_35 rfl ?_
          refine ih _ (by omega) ⟨by omega, ?_⟩
          rw [cntF_s i0]
          first
          | (rw [hx] at h_13; have := b01_eq h_13; rw [if_neg]; split <;> omega)
          | (rw [hx] at h_13; have := b01_ne h_13; rw [if_pos (show M (m + 4) i - 2 = 0 by omega), if_pos (by omega)])
          | (rw [hx] at h_13; have := b01_ne h_13; rw [if_neg (show ¬ (M (m + 4) i - 2 = 0) by omega), if_neg (by omega)])
set_option maxRecDepth 100000 in
set_option maxHeartbeats 4000000 in
theorem m_X9_leastMany {D : va_G} {cA : Nat → ClassId} {S : List AbS} {M : AbM} {m : Nat} {n p : Int} (B_t : shMo S m) (A_t : MoA M m n p) (hz : lsC n 0 (M (m + 9)) = 0 ∧ lsC n 1 (M (m + 9)) = 0) : Meth yX9_leastMany cX9_leastMany 4 (some .int) rmX9_leastMany D cA S [vP m] M (qI fun q M2 => M = M2 ∧ sumF (fun e => lsC n e (M (m + 9))) (Lg n + 1) = q) := by
  refine ab_intro (lv := [vP m, vU, vU, vU]) (by decide +kernel) rfl (Nat.le_of_ble_eq_true rfl) ?_
  intro hO hargs K hKD hKA C r
  have C : Cx K cX9_leastMany RX9 rmX9_leastMany := C
  obtain ⟨s_t, s_t_words, s_t_begins, s_t_squares, s_t_lengths, s_t_numbers, s_t_made, s_t_tape, s_t_rows, s_t_leads, s_t_otherRows, s_t_otherLeads, s_t_row, s_t_equations, s_t_firsts, s_t_sum, s_t_lanes, s_t_sizes, s_t_items⟩ := id B_t
  obtain ⟨⟨n1, n2, hPr⟩, m_n, m_p, m_L, m_w⟩ := id A_t
  obtain ⟨p1, p2, -⟩ := id hPr
  have hLB := Lg_B n
  refine ab_iconst C dX9_leastMany_0 (by decide) ?_
  refine ab_istore1 (lv := []) C rfl dX9_leastMany_1 ?_
  refine ab_iconst C dX9_leastMany_2 (by decide) ?_
  refine ab_istore2 (lv := []) C rfl dX9_leastMany_3 ?_
  have hi2 : sumF (fun e => lsC n e (M (m + 9))) 2 = 0 := by
    rw [show (2 : Int) = 1 + 1 from rfl, sumF_s (by decide), show (1 : Int) = 0 + 1 from rfl, sumF_s (by decide), sumF_0]
    have := hz.1
    have := hz.2
    show (0 : Int) + lsC n 0 (M (m + 9)) + lsC n 1 (M (m + 9)) = 0
    omega
  refine ab_lvs (lv2 := [vP m, vI (sumF (fun e => lsC n e (M (m + 9))) 2), vI 2, vU]) (by rw [hi2]) ?_
  refine ab_loop (fun d (y : AbV) => AJ K S 4 [vP m, vI (sumF (fun e => lsC n e (M (m + 9))) d), vI d, y] [] M) (fun d _ => 2 ≤ d ∧ 0 ≤ sumF (fun e => lsC n e (M (m + 9))) d ∧ sumF (fun e => lsC n e (M (m + 9))) d ≤ 1000 * d) (Lg n + 1) ?_ 2 vU (by omega) ⟨by omega, by rw [hi2]; omega, by rw [hi2]; omega⟩
  · intro d y hd hI ih
    obtain ⟨d2, hc0, hc1⟩ := hI
    rw [sumF_s (by omega)] at ih
    refine ab_iload_n C dX9_leastMany_4 rfl rfl ?_
    refine ab_aload_n C dX9_leastMany_5 rfl rfl ?_
    refine gf_RX9_16 C s_t rfl dX9_leastMany_6 ?_
    rw [m_L]
    refine ab_icmp_gt (tgt := 53) C dX9_leastMany_9 rfl (fun h_9 => ?_) (fun h_9 => ?_)
    · skip
      refine ab_iload_n C dX9_leastMany_53 rfl rfl ?_
      refine ab_iret (st := []) C r dX9_leastMany_54 ?_
      exact ⟨_, rfl, rfl, by rw [show d = Lg n + 1 by omega]⟩
    · skip
      obtain ⟨e_w, -, -⟩ := m_w d (by omega) (by omega)
      have hB := sz_B n1 n2 (show 0 ≤ d by omega) (show d ≤ Lg n by omega)
      refine ab_iconst C dX9_leastMany_12 (by decide) ?_
      refine ab_istore3 (lv := []) C rfl dX9_leastMany_13 ?_
      refine ab_lvs (lv2 := [vP m, vI (sumF (fun e => lsC n e (M (m + 9))) d + cntF (lsF n d (M (m + 9))) 0), vI d, vI 0]) (by rw [cntF_0, Int.add_zero]) ?_
      refine ab_loop (fun w (_ : Unit) => AJ K S 14 [vP m, vI (sumF (fun e => lsC n e (M (m + 9))) d + cntF (lsF n d (M (m + 9))) w), vI d, vI w] [] M) (fun w _ => 0 ≤ w) (pw n d) ?_ 0 () (by omega) (by omega)
      · intro w _ hw w0 ihw
        have cB := cntF_B (f := lsF n d (M (m + 9))) w0
        rw [cntF_s w0, ← Int.add_assoc] at ihw
        refine ab_iload_n C dX9_leastMany_14 rfl rfl ?_
        refine ab_aload_n C dX9_leastMany_15 rfl rfl ?_
        refine gf_RX9_19 C s_t rfl dX9_leastMany_16 ?_
        refine ab_iload_n C dX9_leastMany_19 rfl rfl ?_
        refine ab_iaload C s_t_words (by omega) (by omega) dX9_leastMany_20 ?_
        rw [e_w]
        refine ab_icmp_ge (tgt := 47) C dX9_leastMany_21 rfl (fun h_21 => ?_) (fun h_21 => ?_)
        · skip
          refine ab_iinc2 (lv := []) C rfl dX9_leastMany_47 (by omega) ?_
          refine ab_goto (tgt := 4) C dX9_leastMany_50 rfl ?_
          have ew : w = pw n d := by omega
          rw [ew] at cB ⊢
          exact ih _ (by omega) ⟨by omega, by show (0 : Int) ≤ _ + cntF (lsF n d (M (m + 9))) (pw n d); omega, by show _ + cntF (lsF n d (M (m + 9))) (pw n d) ≤ _; omega⟩
        · skip
          refine ab_iload_n C dX9_leastMany_24 rfl rfl ?_
          refine ab_aload_n C dX9_leastMany_25 rfl rfl ?_
          refine ab_iload_n C dX9_leastMany_26 rfl rfl ?_
          refine ab_iload_n C dX9_leastMany_27 rfl rfl ?_
          refine ab_callV C cl_RX9_175 (m_X9_isLeast B_t A_t (by omega) (by omega) (by omega) (by omega)) (by decide) rfl s_t rfl rfl (Nat.le_of_ble_eq_true rfl) dX9_leastMany_28 (ab_kI (fun r_28 M_28 h_28 => ?_))
          obtain ⟨rfl, rfl⟩ := h_28
          skip
          refine ab_if_eq (tgt := 38) C dX9_leastMany_31 rfl (fun h_31 => ?_) (fun h_31 => ?_)
          · skip
            refine ab_iconst C dX9_leastMany_38 (by decide) ?_
            refine ab_iadd C dX9_leastMany_39 (by omega) ?_
            refine ab_istore1 (lv := []) C rfl dX9_leastMany_40 ?_
            refine ab_iinc3 (lv := []) C rfl dX9_leastMany_41 (by omega) ?_
            refine ab_goto (tgt := 14) C dX9_leastMany_44 rfl ?_
            first
            | (rw [if_pos h_31] at ihw; exact ihw () (by omega) (by omega))
            | (rw [if_neg h_31] at ihw; exact ihw () (by omega) (by omega))
          · skip
            refine ab_iconst C dX9_leastMany_34 (by decide) ?_
            refine ab_goto (tgt := 39) C dX9_leastMany_35 rfl ?_
            refine ab_iadd C dX9_leastMany_39 (by omega) ?_
            refine ab_istore1 (lv := []) C rfl dX9_leastMany_40 ?_
            refine ab_iinc3 (lv := []) C rfl dX9_leastMany_41 (by omega) ?_
            refine ab_goto (tgt := 14) C dX9_leastMany_44 rfl ?_
            first
            | (rw [if_pos h_31] at ihw; exact ihw () (by omega) (by omega))
            | (rw [if_neg h_31] at ihw; exact ihw () (by omega) (by omega))
