set_option maxRecDepth 100000 in
set_option maxHeartbeats 4000000 in
theorem m_X9_isSheet {D : va_G} {cA : Nat → ClassId} {S : List AbS} {M : AbM} {s l : Int} : Meth yX9_isSheet cX9_isSheet 2 (some .boolean) rmX9_isSheet D cA S [vI s, vI l] M (qI fun q M2 => M = M2 ∧ (if (0 ≤ s ∧ s ≤ 3) ∧ 0 ≤ l ∧ l ≤ 2 then 1 else 0) = q) := by
  refine ab_intro (lv := [vI s, vI l]) (by decide +kernel) rfl (Nat.le_of_ble_eq_true rfl) ?_
  intro hO hargs K hKD hKA C r
  have C : Cx K cX9_isSheet RX9 rmX9_isSheet := C
  have i_s : inI s := hargs _ (List.mem_cons_self)
  have i_l : inI l := hargs _ (List.mem_cons_of_mem _ (List.mem_cons_self))
  refine ab_iload_n C dX9_isSheet_0 rfl rfl ?_
  refine ab_i2l C dX9_isSheet_1 ?_
  refine ab_lconst (n := 0) C dX9_isSheet_2 (by decide) (by decide +kernel) ?_
  refine ab_ldc2 (n := 3) C gw810 dX9_isSheet_3 (by decide) (by decide +kernel) ?_
  refine ab_callS C cl_RX9_90 (m_X9_in) (by decide) rfl rfl (Nat.le_of_ble_eq_true rfl) dX9_isSheet_6 (ab_kI (fun r_6 M_6 h_6 => ?_))
  obtain ⟨rfl, rfl⟩ := h_6
  refine ab_if_eq (tgt := 28) C dX9_isSheet_9 rfl (fun h_9 => ?_) (fun h_9 => ?_)
  · skip
    have hq := b01_eq h_9
    refine ab_iconst C dX9_isSheet_28 (by decide) ?_
    refine ab_zret (st := []) C r (by omega) dX9_isSheet_29 ?_
    first | exact ⟨_, rfl, rfl, if_pos ⟨hq, hq2⟩⟩ | exact ⟨_, rfl, rfl, if_neg (fun z => hq z.1)⟩ | exact ⟨_, rfl, rfl, if_neg (fun z => hq2 z.2)⟩
  · skip
    have hq := b01_ne h_9
    refine ab_iload_n C dX9_isSheet_12 rfl rfl ?_
    refine ab_i2l C dX9_isSheet_13 ?_
    refine ab_lconst (n := 0) C dX9_isSheet_14 (by decide) (by decide +kernel) ?_
    refine ab_ldc2 (n := 2) C gw808 dX9_isSheet_15 (by decide) (by decide +kernel) ?_
    refine ab_callS C cl_RX9_90 (m_X9_in) (by decide) rfl rfl (Nat.le_of_ble_eq_true rfl) dX9_isSheet_18 (ab_kI (fun r_18 M_18 h_18 => ?_))
    obtain ⟨rfl, rfl⟩ := h_18
    refine ab_if_eq (tgt := 28) C dX9_isSheet_21 rfl (fun h_21 => ?_) (fun h_21 => ?_)
    · skip
      have hq2 := b01_eq h_21
      refine ab_iconst C dX9_isSheet_28 (by decide) ?_
      refine ab_zret (st := []) C r (by omega) dX9_isSheet_29 ?_
      first | exact ⟨_, rfl, rfl, if_pos ⟨hq, hq2⟩⟩ | exact ⟨_, rfl, rfl, if_neg (fun z => hq z.1)⟩ | exact ⟨_, rfl, rfl, if_neg (fun z => hq2 z.2)⟩
    · skip
      have hq2 := b01_ne h_21
      refine ab_iconst C dX9_isSheet_24 (by decide) ?_
      refine ab_goto (tgt := 29) C dX9_isSheet_25 rfl ?_
      refine ab_zret (st := []) C r (by omega) dX9_isSheet_29 ?_
      first | exact ⟨_, rfl, rfl, if_pos ⟨hq, hq2⟩⟩ | exact ⟨_, rfl, rfl, if_neg (fun z => hq z.1)⟩ | exact ⟨_, rfl, rfl, if_neg (fun z => hq2 z.2)⟩
set_option maxRecDepth 100000 in
set_option maxHeartbeats 4000000 in
theorem m_X9_sheet {D : va_G} {cA : Nat → ClassId} {S : List AbS} {M : AbM} {m : Nat} {a : St} (B_t : shMo S m) (H : MRel a M m) {s l k : Int} : Meth yX9_sheet cX9_sheet 5 (some .int) rmX9_sheet D cA S [vP m, vI s, vI l, vI k] M (qI fun q M2 => same (MP m) M M2 ∧ ∃ b, oSheet a s l k q b ∧ MRel b M2 m) := by
  refine ab_intro (lv := [vP m, vI s, vI l, vI k, vU]) (by decide +kernel) rfl (Nat.le_of_ble_eq_true rfl) ?_
  intro hO hargs K hKD hKA C r
  have C : Cx K cX9_sheet RX9 rmX9_sheet := C
  have i_s : inI s := hargs _ (List.mem_cons_of_mem _ (List.mem_cons_self))
  have i_l : inI l := hargs _ (List.mem_cons_of_mem _ (List.mem_cons_of_mem _ (List.mem_cons_self)))
  have i_k : inI k := hargs _ (List.mem_cons_of_mem _ (List.mem_cons_of_mem _ (List.mem_cons_of_mem _ (List.mem_cons_self))))
  obtain ⟨s_t, s_t_words, s_t_begins, s_t_squares, s_t_lengths, s_t_numbers, s_t_made, s_t_tape, s_t_rows, s_t_leads, s_t_otherRows, s_t_otherLeads, s_t_row, s_t_equations, s_t_firsts, s_t_sum, s_t_lanes, s_t_sizes, s_t_items⟩ := id B_t
  obtain ⟨A_t, hLw, hR, ⟨hSm, hSm0⟩, hTp, hSh⟩ := id H
  obtain ⟨⟨n1, n2, hPr⟩, m_n, m_p, m_L, m_w⟩ := id A_t
  obtain ⟨p1, p2, -⟩ := id hPr
  have hLB := Lg_B a.n
  refine ab_iload_n C dX9_sheet_0 rfl rfl ?_
  refine ab_iload_n C dX9_sheet_1 rfl rfl ?_
  refine ab_callS C cl_RX9_196 (m_X9_isSheet) (by decide) rfl rfl (Nat.le_of_ble_eq_true rfl) dX9_sheet_2 (ab_kI (fun r_2 M_2 h_2 => ?_))
  obtain ⟨rfl, rfl⟩ := h_2
  refine ab_if_eq (tgt := 14) C dX9_sheet_5 rfl (fun h_5 => ?_) (fun h_5 => ?_)
  · skip
    have hs := b01_eq h_5
    refine ab_iconst C dX9_sheet_14 (by decide) ?_
    refine ab_iret (st := []) C r dX9_sheet_15 ?_
    refine ⟨_, rfl, same_rf _ _, a, Or.inl ⟨fun z => ?_, rfl, rfl⟩, H⟩
    first
    | exact hs z.1
    | (have := z.2; omega)
  · skip
    have hs := b01_ne h_5
    refine ab_iload_n C dX9_sheet_8 rfl rfl ?_
    refine ab_bipush C dX9_sheet_9 (by decide) (by decide +kernel) ?_
    refine ab_icmp_le (tgt := 16) C dX9_sheet_11 rfl (fun h_11 => ?_) (fun h_11 => ?_)
    · skip
      refine ab_iload_n C dX9_sheet_16 rfl rfl ?_
      refine ab_if_ge (tgt := 23) C dX9_sheet_17 rfl (fun h_17 => ?_) (fun h_17 => ?_)
      · skip
        refine ab_aload_n C dX9_sheet_23 rfl rfl ?_
        refine gf_RX9_67 C s_t rfl dX9_sheet_24 ?_
        refine ab_iload_n C dX9_sheet_27 rfl rfl ?_
        refine ab_iload_n C dX9_sheet_28 rfl rfl ?_
        refine ab_iastore C s_t_lanes (by omega) (by omega) dX9_sheet_29 ?_
        refine ab_aload_n C dX9_sheet_30 rfl rfl ?_
        refine gf_RX9_70 C s_t rfl dX9_sheet_31 ?_
        refine ab_iload_n C dX9_sheet_34 rfl rfl ?_
        refine ab_iload_n C dX9_sheet_35 rfl rfl ?_
        refine ab_iastore C s_t_sizes (by omega) (by omega) dX9_sheet_36 ?_
        refine ab_iconst C dX9_sheet_37 (by decide) ?_
        refine ab_istore4 (lv := []) C rfl dX9_sheet_38 ?_
        refine ab_mem (M2 := (upA (up (up M (m + 16) s l) (m + 17) s k) (m + 18) (fun x => if 90 * s ≤ x ∧ x < 90 * s + (0 : Int) then 0 else M (m + 18) x))) (upA_id (fun j => by rw [if_neg (by omega), up_k (by omega), up_k (by omega)])) ?_
        refine ab_loop (fun i (_ : Unit) => AJ K S 40 [vP m, vI s, vI l, vI k, vI i] [] (upA (up (up M (m + 16) s l) (m + 17) s k) (m + 18) (fun x => if 90 * s ≤ x ∧ x < 90 * s + i then 0 else M (m + 18) x))) (fun i _ => 0 ≤ i) 90 ?_ 0 () (by omega) (by omega)
        · intro i _ hi i0 ih
          refine ab_iload C dX9_sheet_40 rfl ?_
          refine ab_bipush C dX9_sheet_42 (by decide) (by decide +kernel) ?_
          refine ab_icmp_ge (tgt := 66) C dX9_sheet_44 rfl (fun h_44 => ?_) (fun h_44 => ?_)
          · skip
            refine ab_iload_n C dX9_sheet_66 rfl rfl ?_
            refine ab_iret (st := []) C r dX9_sheet_67 ?_
            have ei : i = 90 := by omega
            subst ei
            refine ⟨_, rfl, same_tr (same_tr (same_up (by simp)) (same_up (by simp))) (same_upA (by simp)), a.hold s l k, Or.inr (Or.inr ⟨⟨hs, by omega⟩, by omega, rfl, rfl⟩), ?_⟩
            refine MRel.sheets H (same_tr (same_tr (same_up (by simp)) (same_up (by simp))) (same_upA (by simp))) (fun k9 x y => ?_)
            have g16 : (upA (up (up M (m + 16) s l) (m + 17) s k) (m + 18) (fun x => if 90 * s ≤ x ∧ x < 90 * s + 90 then 0 else M (m + 18) x)) (m + 16) k9 = if k9 = s then l else M (m + 16) k9 := by
              rw [upA_k (by omega), up_k (by omega)]
              by_cases z : k9 = s
              · rw [z, up_s, if_pos rfl]
              · rw [up_i z, if_neg z]
            have g17 : (upA (up (up M (m + 16) s l) (m + 17) s k) (m + 18) (fun x => if 90 * s ≤ x ∧ x < 90 * s + 90 then 0 else M (m + 18) x)) (m + 17) k9 = if k9 = s then k else M (m + 17) k9 := by
              rw [upA_k (by omega)]
              by_cases z : k9 = s
              · rw [z, up_s, if_pos rfl]
              · rw [up_i z, if_neg z, up_k (by omega)]
            rw [g16, g17]
            by_cases z : k9 = s
            · rw [if_pos z, if_pos z]
              subst z
              refine ⟨(if_pos rfl).symm, (if_pos rfl).symm, ?_, ?_, fun i i0 i1 => ?_⟩
              · show -1 ≤ (if k9 = k9 then l else a.ln k9) ∧ (if k9 = k9 then l else a.ln k9) ≤ 2
                rw [if_pos rfl]
                have := hs.2
                omega
              · show 0 ≤ (if k9 = k9 then k else a.sn k9) ∧ (if k9 = k9 then k else a.sn k9) ≤ 90
                rw [if_pos rfl]
                omega
              · (try dsimp only)
                show _ = (if 90 * k9 ≤ 90 * k9 + i ∧ 90 * k9 + i < 90 * k9 + 90 then 0 else a.it (90 * k9 + i)) ∧ -2147483648 ≤ (if 90 * k9 ≤ 90 * k9 + i ∧ 90 * k9 + i < 90 * k9 + 90 then 0 else a.it (90 * k9 + i)) ∧ (if 90 * k9 ≤ 90 * k9 + i ∧ 90 * k9 + i < 90 * k9 + 90 then 0 else a.it (90 * k9 + i)) ≤ 2147483647
                rw [upA_s, if_pos (by omega)]
                omega
            · rw [if_neg z, if_neg z]
              refine sheetA.other (hSh k9 x y) (if_neg z) (if_neg z) (fun i i0 i1 => if_neg (by omega)) (fun i i0 i1 => ?_)
              (try dsimp only)
              rw [upA_s, if_neg (by omega)]
          · skip
            refine ab_aload_n C dX9_sheet_47 rfl rfl ?_
            refine gf_RX9_73 C s_t rfl dX9_sheet_48 ?_
            refine ab_bipush C dX9_sheet_51 (by decide) (by decide +kernel) ?_
            refine ab_iload_n C dX9_sheet_53 rfl rfl ?_
            refine ab_imul C dX9_sheet_54 (by omega) ?_
            refine ab_iload C dX9_sheet_55 rfl ?_
            refine ab_iadd C dX9_sheet_57 (by omega) ?_
            refine ab_iconst C dX9_sheet_58 (by decide) ?_
            refine ab_iastore C s_t_items (by omega) (by omega) dX9_sheet_59 ?_
            refine ab_iinc4 (lv := []) C rfl dX9_sheet_60 (by omega) ?_
            refine ab_goto (tgt := 40) C dX9_sheet_63 rfl ?_
            refine ab_mem (M2 := (upA (up (up M (m + 16) s l) (m + 17) s k) (m + 18) (fun x => if 90 * s ≤ x ∧ x < 90 * s + (i + 1) then 0 else M (m + 18) x))) ?_ (ih () (by omega) (by omega))
            rw [up_upA]
            exact upA_ext (fun j => by
              by_cases q1 : j = 90 * s + i
              · rw [if_pos q1, if_pos (by omega)]
              · rw [if_neg q1]
                by_cases q2 : 90 * s ≤ j ∧ j < 90 * s + i
                · rw [if_pos q2, if_pos (by omega)]
                · rw [if_neg q2, if_neg (by omega)])
      · skip
        refine ab_bipush C dX9_sheet_20 (by decide) (by decide +kernel) ?_
        refine ab_iret (st := []) C r dX9_sheet_22 ?_
        exact ⟨_, rfl, same_rf _ _, a, Or.inr (Or.inl ⟨⟨hs, by omega⟩, by omega, rfl, rfl⟩), H⟩
    · skip
      refine ab_iconst C dX9_sheet_14 (by decide) ?_
      refine ab_iret (st := []) C r dX9_sheet_15 ?_
      refine ⟨_, rfl, same_rf _ _, a, Or.inl ⟨fun z => ?_, rfl, rfl⟩, H⟩
      first
      | exact hs z.1
      | (have := z.2; omega)
set_option maxRecDepth 100000 in
set_option maxHeartbeats 4000000 in
theorem m_X9_drop {D : va_G} {cA : Nat → ClassId} {S : List AbS} {M : AbM} {m : Nat} {a : St} (B_t : shMo S m) (H : MRel a M m) {s : Int} : Meth yX9_drop cX9_drop 2 (some .int) rmX9_drop D cA S [vP m, vI s] M (qI fun q M2 => same (MP m) M M2 ∧ ∃ b, oDrop a s q b ∧ MRel b M2 m) := by
  refine ab_intro (lv := [vP m, vI s]) (by decide +kernel) rfl (Nat.le_of_ble_eq_true rfl) ?_
  intro hO hargs K hKD hKA C r
  have C : Cx K cX9_drop RX9 rmX9_drop := C
  have i_s : inI s := hargs _ (List.mem_cons_of_mem _ (List.mem_cons_self))
  obtain ⟨s_t, s_t_words, s_t_begins, s_t_squares, s_t_lengths, s_t_numbers, s_t_made, s_t_tape, s_t_rows, s_t_leads, s_t_otherRows, s_t_otherLeads, s_t_row, s_t_equations, s_t_firsts, s_t_sum, s_t_lanes, s_t_sizes, s_t_items⟩ := id B_t
  obtain ⟨A_t, hLw, hR, ⟨hSm, hSm0⟩, hTp, hSh⟩ := id H
  obtain ⟨⟨n1, n2, hPr⟩, m_n, m_p, m_L, m_w⟩ := id A_t
  obtain ⟨p1, p2, -⟩ := id hPr
  have hLB := Lg_B a.n
  refine ab_iload_n C dX9_drop_0 rfl rfl ?_
  refine ab_i2l C dX9_drop_1 ?_
  refine ab_lconst (n := 0) C dX9_drop_2 (by decide) (by decide +kernel) ?_
  refine ab_ldc2 (n := 3) C gw810 dX9_drop_3 (by decide) (by decide +kernel) ?_
  refine ab_callS C cl_RX9_90 (m_X9_in) (by decide) rfl rfl (Nat.le_of_ble_eq_true rfl) dX9_drop_6 (ab_kI (fun r_6 M_6 h_6 => ?_))
  obtain ⟨rfl, rfl⟩ := h_6
  refine ab_if_ne (tgt := 14) C dX9_drop_9 rfl (fun h_9 => ?_) (fun h_9 => ?_)
  · skip
    have hs := b01_ne h_9
    have hh := hSh s (by omega) (by omega)
    have hsz := hh.2.2.2.1
    have hln := hh.2.2.1
    refine ab_aload_n C dX9_drop_14 rfl rfl ?_
    refine gf_RX9_67 C s_t rfl dX9_drop_15 ?_
    refine ab_iload_n C dX9_drop_18 rfl rfl ?_
    refine ab_iaload C s_t_lanes (by omega) (by omega) dX9_drop_19 ?_
    rw [hh.1]
    refine ab_if_ge (tgt := 26) C dX9_drop_20 rfl (fun h_20 => ?_) (fun h_20 => ?_)
    · skip
      refine ab_aload_n C dX9_drop_26 rfl rfl ?_
      refine gf_RX9_67 C s_t rfl dX9_drop_27 ?_
      refine ab_iload_n C dX9_drop_30 rfl rfl ?_
      refine ab_iconst C dX9_drop_31 (by decide) ?_
      refine ab_iastore C s_t_lanes (by omega) (by omega) dX9_drop_32 ?_
      refine ab_aload_n C dX9_drop_33 rfl rfl ?_
      refine gf_RX9_70 C s_t rfl dX9_drop_34 ?_
      refine ab_iload_n C dX9_drop_37 rfl rfl ?_
      refine ab_iaload C s_t_sizes (by omega) (by omega) dX9_drop_38 ?_
      rw [up_k (show m + 17 ≠ m + 16 by omega), hh.2.1]
      refine ab_iret (st := []) C r dX9_drop_39 ?_
      refine ⟨_, rfl, same_up (by simp), a.rel s, Or.inr (Or.inr ⟨hs, by omega, rfl, rfl⟩), ?_⟩
      refine MRel.sheets H (same_up (by simp)) (fun k9 x y => ?_)
      have g16 : up M (m + 16) s (-1) (m + 16) k9 = if k9 = s then -1 else M (m + 16) k9 := by
        by_cases z : k9 = s
        · rw [z, up_s, if_pos rfl]
        · rw [up_i z, if_neg z]
      rw [g16, up_k (show m + 17 ≠ m + 16 by omega), up_row (show m + 18 ≠ m + 16 by omega)]
      by_cases z : k9 = s
      · rw [if_pos z]
        subst z
        obtain ⟨a1, a2, a3, a4, a5⟩ := hSh k9 x y
        refine ⟨(if_pos rfl).symm, a2, ?_, a4, a5⟩
        show -1 ≤ (if k9 = k9 then -1 else a.ln k9) ∧ (if k9 = k9 then -1 else a.ln k9) ≤ 2
        rw [if_pos rfl]
        omega
      · rw [if_neg z]
        exact sheetA.other (hSh k9 x y) (if_neg z) rfl (fun i i0 i1 => rfl) (fun i i0 i1 => rfl)
    · skip
      refine ab_bipush C dX9_drop_23 (by decide) (by decide +kernel) ?_
      refine ab_iret (st := []) C r dX9_drop_25 ?_
      exact ⟨_, rfl, same_rf _ _, a, Or.inr (Or.inl ⟨hs, by omega, rfl, rfl⟩), H⟩
  · skip
    have hs := b01_eq h_9
    refine ab_iconst C dX9_drop_12 (by decide) ?_
    refine ab_iret (st := []) C r dX9_drop_13 ?_
    exact ⟨_, rfl, same_rf _ _, a, Or.inl ⟨hs, rfl, rfl⟩, H⟩
set_option maxRecDepth 100000 in
set_option maxHeartbeats 4000000 in
theorem m_X9_item {D : va_G} {cA : Nat → ClassId} {S : List AbS} {M : AbM} {m : Nat} {a : St} (B_t : shMo S m) (H : MRel a M m) {s l i v : Int} : Meth yX9_item cX9_item 5 (some .int) rmX9_item D cA S [vP m, vI s, vI l, vI i, vI v] M (qI fun q M2 => same (MP m) M M2 ∧ ∃ b, oItem a s l i v q b ∧ MRel b M2 m) := by
  refine ab_intro (lv := [vP m, vI s, vI l, vI i, vI v]) (by decide +kernel) rfl (Nat.le_of_ble_eq_true rfl) ?_
  intro hO hargs K hKD hKA C r
  have C : Cx K cX9_item RX9 rmX9_item := C
  have i_s : inI s := hargs _ (List.mem_cons_of_mem _ (List.mem_cons_self))
  have i_l : inI l := hargs _ (List.mem_cons_of_mem _ (List.mem_cons_of_mem _ (List.mem_cons_self)))
  have i_i : inI i := hargs _ (List.mem_cons_of_mem _ (List.mem_cons_of_mem _ (List.mem_cons_of_mem _ (List.mem_cons_self))))
  have i_v : inI v := hargs _ (List.mem_cons_of_mem _ (List.mem_cons_of_mem _ (List.mem_cons_of_mem _ (List.mem_cons_of_mem _ (List.mem_cons_self)))))
  obtain ⟨s_t, s_t_words, s_t_begins, s_t_squares, s_t_lengths, s_t_numbers, s_t_made, s_t_tape, s_t_rows, s_t_leads, s_t_otherRows, s_t_otherLeads, s_t_row, s_t_equations, s_t_firsts, s_t_sum, s_t_lanes, s_t_sizes, s_t_items⟩ := id B_t
  obtain ⟨A_t, hLw, hR, ⟨hSm, hSm0⟩, hTp, hSh⟩ := id H
  obtain ⟨⟨n1, n2, hPr⟩, m_n, m_p, m_L, m_w⟩ := id A_t
  obtain ⟨p1, p2, -⟩ := id hPr
  have hLB := Lg_B a.n
  refine ab_iload_n C dX9_item_0 rfl rfl ?_
  refine ab_iload_n C dX9_item_1 rfl rfl ?_
  refine ab_callS C cl_RX9_196 (m_X9_isSheet) (by decide) rfl rfl (Nat.le_of_ble_eq_true rfl) dX9_item_2 (ab_kI (fun r_2 M_2 h_2 => ?_))
  obtain ⟨rfl, rfl⟩ := h_2
  refine ab_if_ne (tgt := 10) C dX9_item_5 rfl (fun h_5 => ?_) (fun h_5 => ?_)
  · skip
    have hs := b01_ne h_5
    have hh := hSh s (by omega) (by omega)
    have hsz := hh.2.2.2.1
    have hln := hh.2.2.1
    refine ab_aload_n C dX9_item_10 rfl rfl ?_
    refine gf_RX9_67 C s_t rfl dX9_item_11 ?_
    refine ab_iload_n C dX9_item_14 rfl rfl ?_
    refine ab_iaload C s_t_lanes (by omega) (by omega) dX9_item_15 ?_
    rw [hh.1]
    refine ab_iload_n C dX9_item_16 rfl rfl ?_
    refine ab_icmp_eq (tgt := 37) C dX9_item_17 rfl (fun h_17 => ?_) (fun h_17 => ?_)
    · skip
      refine ab_iload_n C dX9_item_37 rfl rfl ?_
      refine ab_i2l C dX9_item_38 ?_
      refine ab_lconst (n := 0) C dX9_item_39 (by decide) (by decide +kernel) ?_
      refine ab_aload_n C dX9_item_40 rfl rfl ?_
      refine gf_RX9_70 C s_t rfl dX9_item_41 ?_
      refine ab_iload_n C dX9_item_44 rfl rfl ?_
      refine ab_iaload C s_t_sizes (by omega) (by omega) dX9_item_45 ?_
      rw [hh.2.1]
      refine ab_iconst C dX9_item_46 (by decide) ?_
      refine ab_isub C dX9_item_47 (by omega) ?_
      refine ab_i2l C dX9_item_48 ?_
      refine ab_callS C cl_RX9_90 (m_X9_in) (by decide) rfl rfl (Nat.le_of_ble_eq_true rfl) dX9_item_49 (ab_kI (fun r_49 M_49 h_49 => ?_))
      obtain ⟨rfl, rfl⟩ := h_49
      refine ab_if_ne (tgt := 58) C dX9_item_52 rfl (fun h_52 => ?_) (fun h_52 => ?_)
      · skip
        have hi := b01_ne h_52
        refine ab_aload_n C dX9_item_58 rfl rfl ?_
        refine gf_RX9_73 C s_t rfl dX9_item_59 ?_
        refine ab_bipush C dX9_item_62 (by decide) (by decide +kernel) ?_
        refine ab_iload_n C dX9_item_64 rfl rfl ?_
        refine ab_imul C dX9_item_65 (by omega) ?_
        refine ab_iload_n C dX9_item_66 rfl rfl ?_
        refine ab_iadd C dX9_item_67 (by have := hh.2.2.2.1; omega) ?_
        refine ab_iload_n C dX9_item_68 rfl rfl ?_
        refine ab_if_ne (tgt := 83) C dX9_item_69 rfl (fun h_69 => ?_) (fun h_69 => ?_)
        · skip
          refine ab_iload C dX9_item_83 rfl ?_
          refine ab_iastore C s_t_items (by omega) (by omega) dX9_item_85 ?_
          refine ab_iconst C dX9_item_86 (by decide) ?_
          refine ab_iret (st := []) C r dX9_item_87 ?_
          refine ⟨_, rfl, same_up (by simp), a.putI s l i v, Or.inr (Or.inr (Or.inr ⟨hs, h_17, ⟨hi.1, by omega⟩, rfl, rfl⟩)), ?_⟩
          refine MRel.sheets H (same_up (by simp)) (fun k9 x y => ?_)
          rw [up_k (show m + 16 ≠ m + 18 by omega), up_k (show m + 17 ≠ m + 18 by omega)]
          obtain ⟨a1, a2, a3, a4, a5⟩ := hSh k9 x y
          refine ⟨a1, a2, a3, a4, fun i9 i0 i1 => ?_⟩
          have a6 := a5 i9 i0 i1
          (try dsimp only at a6)
          (try dsimp only)
          show _ = (if 90 * k9 + i9 = 90 * s + i then (if l = 0 then v.bmod 256 else v) else a.it (90 * k9 + i9)) ∧ -2147483648 ≤ (if 90 * k9 + i9 = 90 * s + i then (if l = 0 then v.bmod 256 else v) else a.it (90 * k9 + i9)) ∧ (if 90 * k9 + i9 = 90 * s + i then (if l = 0 then v.bmod 256 else v) else a.it (90 * k9 + i9)) ≤ 2147483647
          by_cases z : 90 * k9 + i9 = 90 * s + i
          · rw [if_pos z, z, up_s]
            first
            | (rw [if_pos h_69]; refine ⟨rfl, by omega, by omega⟩; done)
            | (rw [if_neg h_69]; exact ⟨rfl, i_v.1, by have := i_v.2; omega⟩)
          · rw [if_neg z, up_i z]
            exact a6
        · skip
          obtain ⟨z24, hz1, hz2, hz3⟩ := bit_shl24 (v := v) i_v.1 (by have := i_v.2; omega)
          have hbm : -128 ≤ v.bmod 256 ∧ v.bmod 256 < 128 := ⟨by have := Int.le_bmod (x := v) (m := 256) (by decide); omega, by have := Int.bmod_lt (x := v) (m := 256) (by decide); omega⟩
          refine ab_iload C dX9_item_72 rfl ?_
          refine ab_bipush C dX9_item_74 (by decide) (by decide +kernel) ?_
          refine ab_ishl (z := z24) C dX9_item_76 hz1 hz2 ?_
          refine ab_bipush C dX9_item_77 (by decide) (by decide +kernel) ?_
          refine ab_ishr (z := v.bmod 256) C dX9_item_79 (by omega) hz3 ?_
          refine ab_goto (tgt := 85) C dX9_item_80 rfl ?_
          refine ab_iastore C s_t_items (by omega) (by omega) dX9_item_85 ?_
          refine ab_iconst C dX9_item_86 (by decide) ?_
          refine ab_iret (st := []) C r dX9_item_87 ?_
          refine ⟨_, rfl, same_up (by simp), a.putI s l i v, Or.inr (Or.inr (Or.inr ⟨hs, h_17, ⟨hi.1, by omega⟩, rfl, rfl⟩)), ?_⟩
          refine MRel.sheets H (same_up (by simp)) (fun k9 x y => ?_)
          rw [up_k (show m + 16 ≠ m + 18 by omega), up_k (show m + 17 ≠ m + 18 by omega)]
          obtain ⟨a1, a2, a3, a4, a5⟩ := hSh k9 x y
          refine ⟨a1, a2, a3, a4, fun i9 i0 i1 => ?_⟩
          have a6 := a5 i9 i0 i1
          (try dsimp only at a6)
          (try dsimp only)
          show _ = (if 90 * k9 + i9 = 90 * s + i then (if l = 0 then v.bmod 256 else v) else a.it (90 * k9 + i9)) ∧ -2147483648 ≤ (if 90 * k9 + i9 = 90 * s + i then (if l = 0 then v.bmod 256 else v) else a.it (90 * k9 + i9)) ∧ (if 90 * k9 + i9 = 90 * s + i then (if l = 0 then v.bmod 256 else v) else a.it (90 * k9 + i9)) ≤ 2147483647
          by_cases z : 90 * k9 + i9 = 90 * s + i
          · rw [if_pos z, z, up_s]
            first
            | (rw [if_pos h_69]; refine ⟨rfl, by omega, by omega⟩; done)
            | (rw [if_neg h_69]; exact ⟨rfl, i_v.1, by have := i_v.2; omega⟩)
          · rw [if_neg z, up_i z]
            exact a6
      · skip
        have hi := b01_eq h_52
        refine ab_bipush C dX9_item_55 (by decide) (by decide +kernel) ?_
        refine ab_iret (st := []) C r dX9_item_57 ?_
        exact ⟨_, rfl, same_rf _ _, a, Or.inr (Or.inr (Or.inl ⟨hs, h_17, fun z => hi ⟨z.1, by have := z.2; omega⟩, rfl, rfl⟩)), H⟩
    · skip
      refine ab_aload_n C dX9_item_20 rfl rfl ?_
      refine gf_RX9_67 C s_t rfl dX9_item_21 ?_
      refine ab_iload_n C dX9_item_24 rfl rfl ?_
      refine ab_iaload C s_t_lanes (by omega) (by omega) dX9_item_25 ?_
      rw [hh.1]
      refine ab_if_ge (tgt := 34) C dX9_item_26 rfl (fun h_26 => ?_) (fun h_26 => ?_)
      · skip
        refine ab_bipush C dX9_item_34 (by decide) (by decide +kernel) ?_
        refine ab_iret (st := []) C r dX9_item_36 ?_
        refine ⟨_, rfl, same_rf _ _, a, Or.inr (Or.inl ⟨hs, h_17, ?_, rfl⟩), H⟩
        first
        | (rw [if_pos (by omega)]; done)
        | rw [if_neg (by omega)]
      · skip
        refine ab_bipush C dX9_item_29 (by decide) (by decide +kernel) ?_
        refine ab_goto (tgt := 36) C dX9_item_31 rfl ?_
        refine ab_iret (st := []) C r dX9_item_36 ?_
        refine ⟨_, rfl, same_rf _ _, a, Or.inr (Or.inl ⟨hs, h_17, ?_, rfl⟩), H⟩
        first
        | (rw [if_pos (by omega)]; done)
        | rw [if_neg (by omega)]
  · skip
    have hs := b01_eq h_5
    refine ab_iconst C dX9_item_8 (by decide) ?_
    refine ab_iret (st := []) C r dX9_item_9 ?_
    exact ⟨_, rfl, same_rf _ _, a, Or.inl ⟨hs, rfl, rfl⟩, H⟩
set_option maxRecDepth 100000 in
set_option maxHeartbeats 4000000 in
theorem m_X9_laws {D : va_G} {cA : Nat → ClassId} {S : List AbS} {M : AbM} {m : Nat} {a : St} (B_t : shMo S m) (H : MRel a M m) {s l f d : Int} : Meth yX9_laws cX9_laws 8 (some .int) rmX9_laws D cA S [vP m, vI s, vI l, vI f, vI d] M (qI fun q M2 => same (MP m) M M2 ∧ ∃ b, oLaws a s l f d q b ∧ MRel b M2 m) := by
  refine ab_intro (lv := [vP m, vI s, vI l, vI f, vI d, vU, vU, vU]) (by decide +kernel) rfl (Nat.le_of_ble_eq_true rfl) ?_
  intro hO hargs K hKD hKA C r
  have C : Cx K cX9_laws RX9 rmX9_laws := C
  have i_s : inI s := hargs _ (List.mem_cons_of_mem _ (List.mem_cons_self))
  have i_l : inI l := hargs _ (List.mem_cons_of_mem _ (List.mem_cons_of_mem _ (List.mem_cons_self)))
  have i_f : inI f := hargs _ (List.mem_cons_of_mem _ (List.mem_cons_of_mem _ (List.mem_cons_of_mem _ (List.mem_cons_self))))
  have i_d : inI d := hargs _ (List.mem_cons_of_mem _ (List.mem_cons_of_mem _ (List.mem_cons_of_mem _ (List.mem_cons_of_mem _ (List.mem_cons_self)))))
  obtain ⟨s_t, s_t_words, s_t_begins, s_t_squares, s_t_lengths, s_t_numbers, s_t_made, s_t_tape, s_t_rows, s_t_leads, s_t_otherRows, s_t_otherLeads, s_t_row, s_t_equations, s_t_firsts, s_t_sum, s_t_lanes, s_t_sizes, s_t_items⟩ := id B_t
  obtain ⟨A_t, hLw, hR, ⟨hSm, hSm0⟩, hTp, hSh⟩ := id H
  obtain ⟨⟨n1, n2, hPr⟩, m_n, m_p, m_L, m_w⟩ := id A_t
  obtain ⟨p1, p2, -⟩ := id hPr
  have hLB := Lg_B a.n
  refine ab_iload_n C dX9_laws_0 rfl rfl ?_
  refine ab_iload_n C dX9_laws_1 rfl rfl ?_
  refine ab_callS C cl_RX9_196 (m_X9_isSheet) (by decide) rfl rfl (Nat.le_of_ble_eq_true rfl) dX9_laws_2 (ab_kI (fun r_2 M_2 h_2 => ?_))
  obtain ⟨rfl, rfl⟩ := h_2
  refine ab_if_eq (tgt := 23) C dX9_laws_5 rfl (fun h_5 => ?_) (fun h_5 => ?_)
  · skip
    have hs := b01_eq h_5
    refine ab_iconst C dX9_laws_23 (by decide) ?_
    refine ab_iret (st := []) C r dX9_laws_24 ?_
    refine ⟨_, rfl, same_rf _ _, a, Or.inl ⟨fun z => ?_, rfl, rfl⟩, H⟩
    first
    | exact hs z.1
    | exact hd z.2
  · skip
    have hs := b01_ne h_5
    refine ab_iload C dX9_laws_8 rfl ?_
    refine ab_i2l C dX9_laws_10 ?_
    refine ab_ldc2 (n := 2) C gw808 dX9_laws_11 (by decide) (by decide +kernel) ?_
    refine ab_ldc2 (n := 4) C gw805 dX9_laws_14 (by decide) (by decide +kernel) ?_
    refine ab_callS C cl_RX9_90 (m_X9_in) (by decide) rfl rfl (Nat.le_of_ble_eq_true rfl) dX9_laws_17 (ab_kI (fun r_17 M_17 h_17 => ?_))
    obtain ⟨rfl, rfl⟩ := h_17
    refine ab_if_ne (tgt := 25) C dX9_laws_20 rfl (fun h_20 => ?_) (fun h_20 => ?_)
    · skip
      have hd := b01_ne h_20
      have hh := hSh s (by omega) (by omega)
      have hsz := hh.2.2.2.1
      have hln := hh.2.2.1
      obtain ⟨e_w, e_b, -⟩ := m_w d (by omega) (by omega)
      have hB := sz_B n1 n2 (show 0 ≤ d by omega) (show d ≤ Lg a.n by omega)
      refine ab_aload_n C dX9_laws_25 rfl rfl ?_
      refine gf_RX9_67 C s_t rfl dX9_laws_26 ?_
      refine ab_iload_n C dX9_laws_29 rfl rfl ?_
      refine ab_iaload C s_t_lanes (by omega) (by omega) dX9_laws_30 ?_
      rw [hh.1]
      refine ab_iload_n C dX9_laws_31 rfl rfl ?_
      refine ab_icmp_eq (tgt := 52) C dX9_laws_32 rfl (fun h_32 => ?_) (fun h_32 => ?_)
      · skip
        refine ab_iload_n C dX9_laws_52 rfl rfl ?_
        refine ab_i2l C dX9_laws_53 ?_
        refine ab_lconst (n := 0) C dX9_laws_54 (by decide) (by decide +kernel) ?_
        refine ab_aload_n C dX9_laws_55 rfl rfl ?_
        refine gf_RX9_70 C s_t rfl dX9_laws_56 ?_
        refine ab_iload_n C dX9_laws_59 rfl rfl ?_
        refine ab_iaload C s_t_sizes (by omega) (by omega) dX9_laws_60 ?_
        rw [hh.2.1]
        refine ab_aload_n C dX9_laws_61 rfl rfl ?_
        refine gf_RX9_19 C s_t rfl dX9_laws_62 ?_
        refine ab_iload C dX9_laws_65 rfl ?_
        refine ab_iaload C s_t_words (by omega) (by omega) dX9_laws_67 ?_
        rw [e_w]
        refine ab_isub C dX9_laws_68 (by omega) ?_
        refine ab_i2l C dX9_laws_69 ?_
        refine ab_callS C cl_RX9_90 (m_X9_in) (by decide) rfl rfl (Nat.le_of_ble_eq_true rfl) dX9_laws_70 (ab_kI (fun r_70 M_70 h_70 => ?_))
        obtain ⟨rfl, rfl⟩ := h_70
        refine ab_if_ne (tgt := 79) C dX9_laws_73 rfl (fun h_73 => ?_) (fun h_73 => ?_)
        · skip
          have hf := b01_ne h_73
          refine ab_iconst C dX9_laws_79 (by decide) ?_
          refine ab_istore5 (lv := []) C rfl dX9_laws_80 ?_
          refine ab_iconst C dX9_laws_82 (by decide) ?_
          refine ab_istore6 (lv := []) C rfl dX9_laws_83 ?_
          refine ab_mem (M2 := (upA M (m + 6) (fun x => if wsm a.n d ≤ x ∧ x < wsm a.n d + (0 : Int) then shV a s f d x else M (m + 6) x))) (upA_id (fun j => if_neg (by omega))) ?_
          refine ab_loop (fun w (y : Int × AbV) => AJ K S 85 [vP m, vI s, vI l, vI f, vI d, vI y.1, vI w, y.2] [] (upA M (m + 6) (fun x => if wsm a.n d ≤ x ∧ x < wsm a.n d + w then shV a s f d x else M (m + 6) x))) (fun w y => 0 ≤ w ∧ y.1 = if cntF (fun w => shV a s f d (wsm a.n d + w)) w = 0 then 1 else 0) (pw a.n d) ?_ 0 (1, vU) (by omega) ⟨by omega, by rw [cntF_0]; rfl⟩
          · intro w y hw hI ih
            obtain ⟨x9, y9⟩ := y
            obtain ⟨w0, hx9⟩ := hI
            dsimp only at hx9 ih ⊢
            have t1 : (upA M (m + 6) (fun x => if wsm a.n d ≤ x ∧ x < wsm a.n d + w then shV a s f d x else M (m + 6) x)) (m + 1) d = pw a.n d := by rw [upA_k (by omega), e_w]
            have t2 : (upA M (m + 6) (fun x => if wsm a.n d ≤ x ∧ x < wsm a.n d + w then shV a s f d x else M (m + 6) x)) (m + 2) d = wsm a.n d := by rw [upA_k (by omega), e_b]
            have tp : (upA M (m + 6) (fun x => if wsm a.n d ≤ x ∧ x < wsm a.n d + w then shV a s f d x else M (m + 6) x)) m 1 = a.p := by rw [upA_k (by omega), m_p]
            have t18 : ∀ x, (upA M (m + 6) (fun x => if wsm a.n d ≤ x ∧ x < wsm a.n d + w then shV a s f d x else M (m + 6) x)) (m + 18) x = M (m + 18) x := fun x => upA_k (by omega)
            have cB := cntF_B (f := (fun w => shV a s f d (wsm a.n d + w))) w0
            refine ab_iload C dX9_laws_85 rfl ?_
            refine ab_aload_n C dX9_laws_87 rfl rfl ?_
            refine gf_RX9_19 C s_t rfl dX9_laws_88 ?_
            refine ab_iload C dX9_laws_91 rfl ?_
            refine ab_iaload C s_t_words (by omega) (by omega) dX9_laws_93 ?_
            rw [t1]
            refine ab_icmp_ge (tgt := 173) C dX9_laws_94 rfl (fun h_94 => ?_) (fun h_94 => ?_)
            · skip
              have ew : w = pw a.n d := by omega
              subst ew
              have hML : MRel a (upA M (m + 6) (fun x => if wsm a.n d ≤ x ∧ x < wsm a.n d + (pw a.n d) then shV a s f d x else M (m + 6) x)) m := by
                have F : ∀ k, k ≠ m + 6 → (upA M (m + 6) (fun x => if wsm a.n d ≤ x ∧ x < wsm a.n d + (pw a.n d) then shV a s f d x else M (m + 6) x)) k = M k := fun k x => upA_row x
                unfold MRel
                rw [F m (by omega), F (m + 4) (by omega), F (m + 5) (by omega), F (m + 7) (by omega), F (m + 15) (by omega), F (m + 16) (by omega), F (m + 17) (by omega), F (m + 18) (by omega)]
                exact ⟨A_t.of (by rw [F m (by omega)]) (by rw [F m (by omega)]) (by rw [F m (by omega)]) (F _ (by omega)) (F _ (by omega)) (F _ (by omega)), hLw, hR.rows (by rw [F m (by omega)]) (by rw [F m (by omega)]) (by rw [F m (by omega)]) (F _ (by omega)) (F _ (by omega)) (F _ (by omega)) (F _ (by omega)) (F _ (by omega)) (F _ (by omega)), ⟨hSm, hSm0⟩, hTp, hSh⟩
              rw [hx9]
              refine ab_iload C dX9_laws_173 rfl ?_
              refine ab_if_eq (tgt := 183) C dX9_laws_175 rfl (fun h_175 => ?_) (fun h_175 => ?_)
              · skip
                have hcn := b01_eq h_175
                refine ab_aload_n C dX9_laws_183 rfl rfl ?_
                refine ab_iload C dX9_laws_184 rfl ?_
                refine ab_callV C cl_RX9_128 (m_X9_add (a := a) (v := shV a s f d) B_t hML hd.1 hd.2 (fun w x y => by
                  rw [upA_s, if_pos (by omega)]
                  exact ⟨rfl, emod_in p1⟩)) (by decide) rfl s_t rfl rfl (Nat.le_of_ble_eq_true rfl) dX9_laws_186 (ab_kI (fun r_186 M_186 h_186 => ?_))
                obtain ⟨hsA, b, hoA, hbA⟩ := h_186
                refine ab_iret (st := []) C r dX9_laws_189 ?_
                first
                | (refine ⟨_, rfl, same_tr (same_upA (by simp)) hsA, b, Or.inr (Or.inr (Or.inr (Or.inr ⟨⟨hs, hd⟩, h_32, hf, hcn, hoA⟩))), hbA⟩; done)
                | exact ⟨_, rfl, same_upA (by simp), a, Or.inr (Or.inr (Or.inr (Or.inl ⟨⟨hs, hd⟩, h_32, hf, hcn, rfl, rfl⟩))), hML⟩
              · skip
                have hcn := b01_ne h_175
                refine ab_bipush C dX9_laws_178 (by decide) (by decide +kernel) ?_
                refine ab_goto (tgt := 189) C dX9_laws_180 rfl ?_
                refine ab_iret (st := []) C r dX9_laws_189 ?_
                first
                | (refine ⟨_, rfl, same_tr (same_upA (by simp)) hsA, b, Or.inr (Or.inr (Or.inr (Or.inr ⟨⟨hs, hd⟩, h_32, hf, hcn, hoA⟩))), hbA⟩; done)
                | exact ⟨_, rfl, same_upA (by simp), a, Or.inr (Or.inr (Or.inr (Or.inl ⟨⟨hs, hd⟩, h_32, hf, hcn, rfl, rfl⟩))), hML⟩
            · skip
              have hit := hh.2.2.2.2 (f + w) (by omega) (by have := hh.2.2.2.1; omega)
              (try dsimp only at hit)
              have esv : shV a s f d (wsm a.n d + w) = a.it (90 * s + (f + w)) % a.p := by unfold shV; rw [show 90 * s + f + (wsm a.n d + w - wsm a.n d) = 90 * s + (f + w) by omega]
              refine ab_aload_n C dX9_laws_97 rfl rfl ?_
              refine gf_RX9_73 C s_t rfl dX9_laws_98 ?_
              refine ab_bipush C dX9_laws_101 (by decide) (by decide +kernel) ?_
              refine ab_iload_n C dX9_laws_103 rfl rfl ?_
              refine ab_imul C dX9_laws_104 (by omega) ?_
              refine ab_iload_n C dX9_laws_105 rfl rfl ?_
              refine ab_iadd C dX9_laws_106 (by omega) ?_
              refine ab_iload C dX9_laws_107 rfl ?_
              refine ab_iadd C dX9_laws_109 (by omega) ?_
              refine ab_iaload C s_t_items (by omega) (by omega) dX9_laws_110 ?_
              rw [show 90 * s + f + w = 90 * s + (f + w) by omega, t18, hit.1]
              refine ab_aload_n C dX9_laws_111 rfl rfl ?_
              refine gf_RX9_13 C s_t rfl dX9_laws_112 ?_
              rw [tp]
              have tm := ab_tmodB (x := a.it (90 * s + (f + w))) (show 0 < a.p by omega)
              refine ab_iremT C dX9_laws_115 (by omega) ?_
              refine ab_istore7 (lv := []) C rfl dX9_laws_116 ?_
              refine ab_aload_n C dX9_laws_118 rfl rfl ?_
              refine gf_RX9_35 C s_t rfl dX9_laws_119 ?_
              refine ab_aload_n C dX9_laws_122 rfl rfl ?_
              refine gf_RX9_23 C s_t rfl dX9_laws_123 ?_
              refine ab_iload C dX9_laws_126 rfl ?_
              refine ab_iaload C s_t_begins (by omega) (by omega) dX9_laws_128 ?_
              rw [t2]
              refine ab_iload C dX9_laws_129 rfl ?_
              refine ab_iadd C dX9_laws_131 (by omega) ?_
              refine ab_iload C dX9_laws_132 rfl ?_
              refine ab_if_ge (tgt := 147) C dX9_laws_134 rfl (fun h_134 => ?_) (fun h_134 => ?_)
              · skip
                have erst := rest_ge (x := a.it (90 * s + (f + w))) (p := a.p) (by omega) (by omega)
                have ezero : (a.it (90 * s + (f + w))).tmod a.p = 0 ↔ shV a s f d (wsm a.n d + w) = 0 := by rw [esv, erst]
                refine ab_iload C dX9_laws_147 rfl ?_
                refine ab_iastore C s_t_made (by omega) (by omega) dX9_laws_149 ?_
                refine ab_iload C dX9_laws_150 rfl ?_
                refine ab_if_eq (tgt := 164) C dX9_laws_152 rfl (fun h_152 => ?_) (fun h_152 => ?_)
                · skip
                  refine ab_iconst C dX9_laws_164 (by decide) ?_
                  refine ab_istore5 (lv := []) C rfl dX9_laws_165 ?_
                  refine ab_iinc6 (lv := []) C rfl dX9_laws_167 (by omega) ?_
                  refine ab_goto (tgt := 85) C dX9_laws_170 rfl ?_
                  refine ab_mem (M2 := (upA M (m + 6) (fun x => if wsm a.n d ≤ x ∧ x < wsm a.n d + (w + 1) then shV a s f d x else M (m + 6) x))) ?_ (ih (_, _) (by omega) ⟨by omega, ?_⟩)
                  · rw [up_upA]
                    exact upA_ext (fun j => by
                      by_cases q1 : j = wsm a.n d + w
                      · rw [if_pos q1, if_pos (by omega), q1, esv]; exact erst
                      · rw [if_neg q1]
                        by_cases q2 : wsm a.n d ≤ j ∧ j < wsm a.n d + w
                        · rw [if_pos q2, if_pos (by omega)]
                        · rw [if_neg q2, if_neg (by omega)])
                  · (try dsimp only)
                    rw [cntF_s w0]
                    (try dsimp only)
                    first
                    | (rw [if_pos (ezero.mp h_157)]; rw [hx9] at h_152; have := b01_ne h_152; rw [if_pos (by omega)]; done)
                    | (rw [if_neg (fun z => h_157 (ezero.mpr z)), if_neg (by omega)]; done)
                    | (rw [hx9] at h_152; have := b01_eq h_152; rw [if_neg]; split <;> omega)
                · skip
                  refine ab_iload C dX9_laws_155 rfl ?_
                  refine ab_if_ne (tgt := 164) C dX9_laws_157 rfl (fun h_157 => ?_) (fun h_157 => ?_)
                  · skip
                    refine ab_iconst C dX9_laws_164 (by decide) ?_
                    refine ab_istore5 (lv := []) C rfl dX9_laws_165 ?_
                    refine ab_iinc6 (lv := []) C rfl dX9_laws_167 (by omega) ?_
                    refine ab_goto (tgt := 85) C dX9_laws_170 rfl ?_
                    refine ab_mem (M2 := (upA M (m + 6) (fun x => if wsm a.n d ≤ x ∧ x < wsm a.n d + (w + 1) then shV a s f d x else M (m + 6) x))) ?_ (ih (_, _) (by omega) ⟨by omega, ?_⟩)
                    · rw [up_upA]
                      exact upA_ext (fun j => by
                        by_cases q1 : j = wsm a.n d + w
                        · rw [if_pos q1, if_pos (by omega), q1, esv]; exact erst
                        · rw [if_neg q1]
                          by_cases q2 : wsm a.n d ≤ j ∧ j < wsm a.n d + w
                          · rw [if_pos q2, if_pos (by omega)]
                          · rw [if_neg q2, if_neg (by omega)])
                    · (try dsimp only)
                      rw [cntF_s w0]
                      (try dsimp only)
                      first
                      | (rw [if_pos (ezero.mp h_157)]; rw [hx9] at h_152; have := b01_ne h_152; rw [if_pos (by omega)]; done)
                      | (rw [if_neg (fun z => h_157 (ezero.mpr z)), if_neg (by omega)]; done)
                      | (rw [hx9] at h_152; have := b01_eq h_152; rw [if_neg]; split <;> omega)
                  · skip
                    refine ab_iconst C dX9_laws_160 (by decide) ?_
                    refine ab_goto (tgt := 165) C dX9_laws_161 rfl ?_
                    refine ab_istore5 (lv := []) C rfl dX9_laws_165 ?_
                    refine ab_iinc6 (lv := []) C rfl dX9_laws_167 (by omega) ?_
                    refine ab_goto (tgt := 85) C dX9_laws_170 rfl ?_
                    refine ab_mem (M2 := (upA M (m + 6) (fun x => if wsm a.n d ≤ x ∧ x < wsm a.n d + (w + 1) then shV a s f d x else M (m + 6) x))) ?_ (ih (_, _) (by omega) ⟨by omega, ?_⟩)
                    · rw [up_upA]
                      exact upA_ext (fun j => by
                        by_cases q1 : j = wsm a.n d + w
                        · rw [if_pos q1, if_pos (by omega), q1, esv]; exact erst
                        · rw [if_neg q1]
                          by_cases q2 : wsm a.n d ≤ j ∧ j < wsm a.n d + w
                          · rw [if_pos q2, if_pos (by omega)]
                          · rw [if_neg q2, if_neg (by omega)])
                    · (try dsimp only)
                      rw [cntF_s w0]
                      (try dsimp only)
                      first
                      | (rw [if_pos (ezero.mp h_157)]; rw [hx9] at h_152; have := b01_ne h_152; rw [if_pos (by omega)]; done)
                      | (rw [if_neg (fun z => h_157 (ezero.mpr z)), if_neg (by omega)]; done)
                      | (rw [hx9] at h_152; have := b01_eq h_152; rw [if_neg]; split <;> omega)
              · skip
                have erst := rest_lt (x := a.it (90 * s + (f + w))) (p := a.p) (by omega) (by omega)
                have ezero : (a.it (90 * s + (f + w))).tmod a.p = 0 ↔ shV a s f d (wsm a.n d + w) = 0 := by rw [esv, ← erst]; omega
                refine ab_iload C dX9_laws_137 rfl ?_
                refine ab_aload_n C dX9_laws_139 rfl rfl ?_
                refine gf_RX9_13 C s_t rfl dX9_laws_140 ?_
                rw [tp]
                refine ab_iadd C dX9_laws_143 (by omega) ?_
                refine ab_goto (tgt := 149) C dX9_laws_144 rfl ?_
                refine ab_iastore C s_t_made (by omega) (by omega) dX9_laws_149 ?_
                refine ab_iload C dX9_laws_150 rfl ?_
                refine ab_if_eq (tgt := 164) C dX9_laws_152 rfl (fun h_152 => ?_) (fun h_152 => ?_)
                · skip
                  refine ab_iconst C dX9_laws_164 (by decide) ?_
                  refine ab_istore5 (lv := []) C rfl dX9_laws_165 ?_
                  refine ab_iinc6 (lv := []) C rfl dX9_laws_167 (by omega) ?_
                  refine ab_goto (tgt := 85) C dX9_laws_170 rfl ?_
                  refine ab_mem (M2 := (upA M (m + 6) (fun x => if wsm a.n d ≤ x ∧ x < wsm a.n d + (w + 1) then shV a s f d x else M (m + 6) x))) ?_ (ih (_, _) (by omega) ⟨by omega, ?_⟩)
                  · rw [up_upA]
                    exact upA_ext (fun j => by
                      by_cases q1 : j = wsm a.n d + w
                      · rw [if_pos q1, if_pos (by omega), q1, esv]; exact erst
                      · rw [if_neg q1]
                        by_cases q2 : wsm a.n d ≤ j ∧ j < wsm a.n d + w
                        · rw [if_pos q2, if_pos (by omega)]
                        · rw [if_neg q2, if_neg (by omega)])
                  · (try dsimp only)
                    rw [cntF_s w0]
                    (try dsimp only)
                    first
                    | (rw [if_pos (ezero.mp h_157)]; rw [hx9] at h_152; have := b01_ne h_152; rw [if_pos (by omega)]; done)
                    | (rw [if_neg (fun z => h_157 (ezero.mpr z)), if_neg (by omega)]; done)
                    | (rw [hx9] at h_152; have := b01_eq h_152; rw [if_neg]; split <;> omega)
                · skip
                  refine ab_iload C dX9_laws_155 rfl ?_
                  refine ab_if_ne (tgt := 164) C dX9_laws_157 rfl (fun h_157 => ?_) (fun h_157 => ?_)
                  · skip
                    refine ab_iconst C dX9_laws_164 (by decide) ?_
                    refine ab_istore5 (lv := []) C rfl dX9_laws_165 ?_
                    refine ab_iinc6 (lv := []) C rfl dX9_laws_167 (by omega) ?_
                    refine ab_goto (tgt := 85) C dX9_laws_170 rfl ?_
                    refine ab_mem (M2 := (upA M (m + 6) (fun x => if wsm a.n d ≤ x ∧ x < wsm a.n d + (w + 1) then shV a s f d x else M (m + 6) x))) ?_ (ih (_, _) (by omega) ⟨by omega, ?_⟩)
                    · rw [up_upA]
                      exact upA_ext (fun j => by
                        by_cases q1 : j = wsm a.n d + w
                        · rw [if_pos q1, if_pos (by omega), q1, esv]; exact erst
                        · rw [if_neg q1]
                          by_cases q2 : wsm a.n d ≤ j ∧ j < wsm a.n d + w
                          · rw [if_pos q2, if_pos (by omega)]
                          · rw [if_neg q2, if_neg (by omega)])
                    · (try dsimp only)
                      rw [cntF_s w0]
                      (try dsimp only)
                      first
                      | (rw [if_pos (ezero.mp h_157)]; rw [hx9] at h_152; have := b01_ne h_152; rw [if_pos (by omega)]; done)
                      | (rw [if_neg (fun z => h_157 (ezero.mpr z)), if_neg (by omega)]; done)
                      | (rw [hx9] at h_152; have := b01_eq h_152; rw [if_neg]; split <;> omega)
                  · skip
                    refine ab_iconst C dX9_laws_160 (by decide) ?_
                    refine ab_goto (tgt := 165) C dX9_laws_161 rfl ?_
                    refine ab_istore5 (lv := []) C rfl dX9_laws_165 ?_
                    refine ab_iinc6 (lv := []) C rfl dX9_laws_167 (by omega) ?_
                    refine ab_goto (tgt := 85) C dX9_laws_170 rfl ?_
                    refine ab_mem (M2 := (upA M (m + 6) (fun x => if wsm a.n d ≤ x ∧ x < wsm a.n d + (w + 1) then shV a s f d x else M (m + 6) x))) ?_ (ih (_, _) (by omega) ⟨by omega, ?_⟩)
                    · rw [up_upA]
                      exact upA_ext (fun j => by
                        by_cases q1 : j = wsm a.n d + w
                        · rw [if_pos q1, if_pos (by omega), q1, esv]; exact erst
                        · rw [if_neg q1]
                          by_cases q2 : wsm a.n d ≤ j ∧ j < wsm a.n d + w
                          · rw [if_pos q2, if_pos (by omega)]
                          · rw [if_neg q2, if_neg (by omega)])
                    · (try dsimp only)
                      rw [cntF_s w0]
                      (try dsimp only)
                      first
                      | (rw [if_pos (ezero.mp h_157)]; rw [hx9] at h_152; have := b01_ne h_152; rw [if_pos (by omega)]; done)
                      | (rw [if_neg (fun z => h_157 (ezero.mpr z)), if_neg (by omega)]; done)
                      | (rw [hx9] at h_152; have := b01_eq h_152; rw [if_neg]; split <;> omega)
        · skip
          have hf := b01_eq h_73
          refine ab_bipush C dX9_laws_76 (by decide) (by decide +kernel) ?_
          refine ab_iret (st := []) C r dX9_laws_78 ?_
          exact ⟨_, rfl, same_rf _ _, a, Or.inr (Or.inr (Or.inl ⟨⟨hs, hd⟩, h_32, hf, rfl, rfl⟩)), H⟩
      · skip
        refine ab_aload_n C dX9_laws_35 rfl rfl ?_
        refine gf_RX9_67 C s_t rfl dX9_laws_36 ?_
        refine ab_iload_n C dX9_laws_39 rfl rfl ?_
        refine ab_iaload C s_t_lanes (by omega) (by omega) dX9_laws_40 ?_
        rw [hh.1]
        refine ab_if_ge (tgt := 49) C dX9_laws_41 rfl (fun h_41 => ?_) (fun h_41 => ?_)
        · skip
          refine ab_bipush C dX9_laws_49 (by decide) (by decide +kernel) ?_
          refine ab_iret (st := []) C r dX9_laws_51 ?_
          refine ⟨_, rfl, same_rf _ _, a, Or.inr (Or.inl ⟨⟨hs, hd⟩, h_32, ?_, rfl⟩), H⟩
          first
          | (rw [if_pos (by omega)]; done)
          | rw [if_neg (by omega)]
        · skip
          refine ab_bipush C dX9_laws_44 (by decide) (by decide +kernel) ?_
          refine ab_goto (tgt := 51) C dX9_laws_46 rfl ?_
          refine ab_iret (st := []) C r dX9_laws_51 ?_
          refine ⟨_, rfl, same_rf _ _, a, Or.inr (Or.inl ⟨⟨hs, hd⟩, h_32, ?_, rfl⟩), H⟩
          first
          | (rw [if_pos (by omega)]; done)
          | rw [if_neg (by omega)]
    · skip
      have hd := b01_eq h_20
      refine ab_iconst C dX9_laws_23 (by decide) ?_
      refine ab_iret (st := []) C r dX9_laws_24 ?_
      refine ⟨_, rfl, same_rf _ _, a, Or.inl ⟨fun z => ?_, rfl, rfl⟩, H⟩
      first
      | exact hs z.1
      | exact hd z.2
