set_option maxRecDepth 100000 in
set_option maxHeartbeats 4000000 in
theorem m_X0_clearForm {D : va_G} {cA : Nat → ClassId} {S : List AbS} {M : AbM} {b a g : Nat} {k : Int} (B_t : shAg S b a g) (k0 : 0 ≤ k) (k1 : k ≤ 243) : Meth yX0_clearForm cX0_clearForm 3 none rmX0_clearForm D cA S [vP b, vI k] M (qV fun M2 => upA M (b + 6) (fun j => if 0 ≤ j ∧ j < k then 0 else M (b + 6) j) = M2) := by
  refine ab_intro (lv := [vP b, vI k, vU]) (by decide +kernel) rfl (Nat.le_of_ble_eq_true rfl) ?_
  intro hO hargs K hKD hKA C r
  have C : Cx K cX0_clearForm RX0 rmX0_clearForm := C
  have i_k : inI k := hargs _ (List.mem_cons_of_mem _ (List.mem_cons_self))
  obtain ⟨s_t, s_t_forms, s_t_leading, s_t_normals, s_t_leasts, s_t_middles, s_t_form, B_t_alphabet, B_t_lawList⟩ := id B_t
  refine ab_iconst C dX0_clearForm_0 (by decide) ?_
  refine ab_istore2 (lv := []) C rfl dX0_clearForm_1 ?_
  refine ab_mem (M2 := upA M (b + 6) (fun j => if 0 ≤ j ∧ j < (0 : Int) then 0 else M (b + 6) j)) (upA_id (fun j => if_neg (by omega))) ?_
  refine ab_loop (fun i (_ : Unit) => AJ K S 2 [vP b, vI k, vI i] [] (upA M (b + 6) (fun j => if 0 ≤ j ∧ j < i then 0 else M (b + 6) j))) (fun i _ => 0 ≤ i) k ?_ 0 () (by omega) (by omega)
  · intro i _ hi i0 ih
    refine ab_iload_n C dX0_clearForm_2 rfl rfl ?_
    refine ab_iload_n C dX0_clearForm_3 rfl rfl ?_
    refine ab_icmp_ge (tgt := 20) C dX0_clearForm_4 rfl (fun h_4 => ?_) (fun h_4 => ?_)
    · skip
      refine ab_vret (st := []) C r dX0_clearForm_20 ?_
      refine ⟨rfl, upA_ext (fun j => ?_)⟩
      have e9 : i = k := by omega
      rw [e9]
    · skip
      refine ab_aload_n C dX0_clearForm_7 rfl rfl ?_
      refine gf_RX0_29 C s_t rfl dX0_clearForm_8 ?_
      refine ab_iload_n C dX0_clearForm_11 rfl rfl ?_
      refine ab_iconst C dX0_clearForm_12 (by decide) ?_
      refine ab_iastore C s_t_form (by omega) (by omega) dX0_clearForm_13 ?_
      refine ab_iinc2 (lv := []) C rfl dX0_clearForm_14 (by omega) ?_
      refine ab_goto (tgt := 2) C dX0_clearForm_17 rfl ?_
      refine ab_mem (M2 := upA M (b + 6) (fun j => if 0 ≤ j ∧ j < (i + 1) then 0 else M (b + 6) j)) ?_ (ih () (by omega) (by omega))
      rw [up_upA]
      exact upA_ext (fun j => by
        by_cases q1 : j = i
        · rw [if_pos q1, if_pos (by omega)]
        · rw [if_neg q1]
          by_cases q2 : 0 ≤ j ∧ j < i
          · rw [if_pos q2, if_pos (by omega)]
          · rw [if_neg q2, if_neg (by omega)])
set_option maxRecDepth 100000 in
set_option maxHeartbeats 4000000 in
theorem m_X0_addRow {D : va_G} {cA : Nat → ClassId} {S : List AbS} {M : AbM} {b a g : Nat} {n p : Int} (B_t : shAg S b a g) (A_t_alphabet : Al M a n p) (hba : a + 3 < b) (hbg : g + 2 < b) {d w : Int} (h0 : 0 ≤ d) (h1 : d ≤ Lg n) (w0 : 0 ≤ w) (w1 : w < pw n d) {x : Int} (x0 : 0 ≤ x) (x1 : x ≤ 9409) (hG : ∀ v, 0 ≤ v → v ≤ w → 0 ≤ M (b + 6) v ∧ M (b + 6) v < p) (hF : ldq n d (M (b + 2)) w ≠ 0 → ∀ v, 0 ≤ v → v < w → 0 ≤ fmq n d (M (b + 1)) w v ∧ fmq n d (M (b + 1)) w v < p) : Meth yX0_addRow cX0_addRow 8 none rmX0_addRow D cA S [vP b, vI d, vI w, vI x] M (qV fun M2 => upA M (b + 6) (addR n p d (M (b + 1)) (M (b + 2)) w x (M (b + 6))) = M2) := by
  refine ab_intro (lv := [vP b, vI d, vI w, vI x, vU, vU, vU, vU]) (by decide +kernel) rfl (Nat.le_of_ble_eq_true rfl) ?_
  intro hO hargs K hKD hKA C r
  have C : Cx K cX0_addRow RX0 rmX0_addRow := C
  have i_d : inI d := hargs _ (List.mem_cons_of_mem _ (List.mem_cons_self))
  have i_w : inI w := hargs _ (List.mem_cons_of_mem _ (List.mem_cons_of_mem _ (List.mem_cons_self)))
  have i_x : inI x := hargs _ (List.mem_cons_of_mem _ (List.mem_cons_of_mem _ (List.mem_cons_of_mem _ (List.mem_cons_self))))
  obtain ⟨s_t, s_t_forms, s_t_leading, s_t_normals, s_t_leasts, s_t_middles, s_t_form, B_t_alphabet, B_t_lawList⟩ := id B_t
  obtain ⟨s_t_alphabet, -⟩ := id B_t_alphabet
  obtain ⟨s_t_lawList, -⟩ := id B_t_lawList
  obtain ⟨⟨n1, n2, hPr⟩, -⟩ := id A_t_alphabet
  obtain ⟨p1, p2, -⟩ := id hPr
  have hLB := Lg_B n
  have hB := sz_B n1 n2 h0 h1
  have htri := tri_lt w0 w1
  have htn := tri_nn w0
  refine ab_aload_n C dX0_addRow_0 rfl rfl ?_
  refine gf_RX0_36 C s_t rfl dX0_addRow_1 ?_
  refine ab_callV C cl_RX0_145 (m_X1_prime B_t_alphabet A_t_alphabet) (by decide) rfl s_t_alphabet rfl rfl (Nat.le_of_ble_eq_true rfl) dX0_addRow_4 (ab_kI (fun r_4 M_4 h_4 => ?_))
  obtain ⟨rfl, rfl⟩ := h_4
  refine ab_istore4 (lv := []) C rfl dX0_addRow_7 ?_
  refine ab_iload C dX0_addRow_9 rfl ?_
  refine ab_iconst C dX0_addRow_11 (by decide) ?_
  refine ab_icmp_ge (tgt := 16) C dX0_addRow_12 rfl (fun h_12 => ?_) (fun h_12 => ?_)
  · skip
    refine ab_aload_n C dX0_addRow_16 rfl rfl ?_
    refine gf_RX0_16 C s_t rfl dX0_addRow_17 ?_
    refine ab_aload_n C dX0_addRow_20 rfl rfl ?_
    refine gf_RX0_36 C s_t rfl dX0_addRow_21 ?_
    refine ab_iload_n C dX0_addRow_24 rfl rfl ?_
    refine ab_iload_n C dX0_addRow_25 rfl rfl ?_
    refine ab_callV C cl_RX0_54 (m_X1_placeOf B_t_alphabet A_t_alphabet (by omega) (by omega) (by omega) (by omega)) (by decide) rfl s_t_alphabet rfl rfl (Nat.le_of_ble_eq_true rfl) dX0_addRow_26 (ab_kI (fun r_26 M_26 h_26 => ?_))
    obtain ⟨rfl, rfl⟩ := h_26
    refine ab_baload C s_t_leading (by omega) (by omega) dX0_addRow_29 ?_
    refine ab_if_ne (tgt := 51) C dX0_addRow_30 rfl (fun h_30 => ?_) (fun h_30 => ?_)
    · skip
      have hl : ldq n d (M (b + 2)) w ≠ 0 := h_30
      refine ab_aload_n C dX0_addRow_51 rfl rfl ?_
      refine gf_RX0_36 C s_t rfl dX0_addRow_52 ?_
      refine ab_iload_n C dX0_addRow_55 rfl rfl ?_
      refine ab_iload_n C dX0_addRow_56 rfl rfl ?_
      refine ab_callV C cl_RX0_106 (m_X1_formAt B_t_alphabet A_t_alphabet (by omega) (by omega) (by omega) (by omega)) (by decide) rfl s_t_alphabet rfl rfl (Nat.le_of_ble_eq_true rfl) dX0_addRow_57 (ab_kI (fun r_57 M_57 h_57 => ?_))
      obtain ⟨rfl, rfl⟩ := h_57
      refine ab_istore5 (lv := []) C rfl dX0_addRow_60 ?_
      refine ab_iconst C dX0_addRow_62 (by decide) ?_
      refine ab_istore6 (lv := []) C rfl dX0_addRow_63 ?_
      refine ab_mem (M2 := upA M (b + 6) (fun v => if 0 ≤ v ∧ v < (0 : Int) then (M (b + 6) v + x * fmq n d (M (b + 1)) w v) % p else M (b + 6) v)) (upA_id (fun j => if_neg (by omega))) ?_
      refine ab_loop (fun i (y : AbV) => AJ K S 65 [vP b, vI d, vI w, vI x, vI p, vI (fsm n d + w * (w + 1) / 2), vI i, y] [] (upA M (b + 6) (fun v => if 0 ≤ v ∧ v < i then (M (b + 6) v + x * fmq n d (M (b + 1)) w v) % p else M (b + 6) v))) (fun i _ => 0 ≤ i) w ?_ 0 vU (by omega) (by omega)
      · intro i y hi i0 ih
        refine ab_iload C dX0_addRow_65 rfl ?_
        refine ab_iload_n C dX0_addRow_67 rfl rfl ?_
        refine ab_icmp_ge (tgt := 116) C dX0_addRow_68 rfl (fun h_68 => ?_) (fun h_68 => ?_)
        · skip
          refine ab_vret (st := []) C r dX0_addRow_116 ?_
          have e9 : i = w := by omega
          subst e9
          refine ⟨rfl, upA_ext (fun v => ?_)⟩
          unfold addR rho
          rw [if_neg hl]
          by_cases q2 : 0 ≤ v ∧ v < i
          · rw [if_pos q2, if_pos q2, if_pos (by omega)]
          · rw [if_neg q2, if_neg q2, Int.mul_zero, Int.add_zero]
            by_cases q3 : 0 ≤ v ∧ v ≤ i
            · rw [if_pos q3, emod_id (hG v q3.1 q3.2).1 (hG v q3.1 q3.2).2]
            · rw [if_neg q3]
        · skip
          refine ab_aload_n C dX0_addRow_71 rfl rfl ?_
          refine gf_RX0_10 C s_t rfl dX0_addRow_72 ?_
          refine ab_iload C dX0_addRow_75 rfl ?_
          refine ab_iload C dX0_addRow_77 rfl ?_
          refine ab_iadd C dX0_addRow_79 (by omega) ?_
          refine ab_iaload C s_t_forms (by omega) (by omega) dX0_addRow_80 ?_
          refine ab_istore7 (lv := []) C rfl dX0_addRow_81 ?_
          rw [upA_k (show b + 1 ≠ b + 6 by omega)]
          have hf := hF hl i i0 (by omega)
          have ef : M (b + 1) (fsm n d + w * (w + 1) / 2 + i) = fmq n d (M (b + 1)) w i := rfl
          rw [ef]
          have hm : 0 ≤ x * fmq n d (M (b + 1)) w i ∧ x * fmq n d (M (b + 1)) w i ≤ 9409 * 97 := ⟨Int.mul_nonneg (by omega) (by omega), Int.mul_le_mul (by omega) (by omega) (by omega) (by omega)⟩
          have hg := hG i i0 (by omega)
          refine ab_iload C dX0_addRow_83 rfl ?_
          refine ab_if_eq (tgt := 110) C dX0_addRow_85 rfl (fun h_85 => ?_) (fun h_85 => ?_)
          · skip
            refine ab_iinc6 (lv := []) C rfl dX0_addRow_110 (by omega) ?_
            refine ab_goto (tgt := 65) C dX0_addRow_113 rfl ?_
            refine ab_mem (M2 := upA M (b + 6) (fun v => if 0 ≤ v ∧ v < (i + 1) then (M (b + 6) v + x * fmq n d (M (b + 1)) w v) % p else M (b + 6) v)) ?_ (ih _ (by omega) (by omega))
            (try rw [up_upA])
            exact upA_ext (fun j => by
              by_cases q1 : j = i
              · subst q1
                first
                | rw [if_pos rfl, if_pos (by omega)]
                | rw [if_neg (by omega), if_pos (by omega), h_85, Int.mul_zero, Int.add_zero, emod_id hg.1 hg.2]
              · (try rw [if_neg q1])
                by_cases q2 : 0 ≤ j ∧ j < i
                · rw [if_pos q2, if_pos (by omega)]
                · rw [if_neg q2, if_neg (by omega)])
          · skip
            refine ab_aload_n C dX0_addRow_88 rfl rfl ?_
            refine gf_RX0_29 C s_t rfl dX0_addRow_89 ?_
            refine ab_iload C dX0_addRow_92 rfl ?_
            refine ab_aload_n C dX0_addRow_94 rfl rfl ?_
            refine gf_RX0_29 C s_t rfl dX0_addRow_95 ?_
            refine ab_iload C dX0_addRow_98 rfl ?_
            refine ab_iaload C s_t_form (by omega) (by omega) dX0_addRow_100 ?_
            rw [upA_s, if_neg (show ¬ (0 ≤ i ∧ i < i) by omega)]
            refine ab_iload_n C dX0_addRow_101 rfl rfl ?_
            refine ab_iload C dX0_addRow_102 rfl ?_
            refine ab_imul C dX0_addRow_104 (by omega) ?_
            refine ab_iadd C dX0_addRow_105 (by omega) ?_
            refine ab_iload C dX0_addRow_106 rfl ?_
            refine ab_irem C dX0_addRow_108 (by omega) (by omega) ?_
            refine ab_iastore C s_t_form (by omega) (by omega) dX0_addRow_109 ?_
            refine ab_iinc6 (lv := []) C rfl dX0_addRow_110 (by omega) ?_
            refine ab_goto (tgt := 65) C dX0_addRow_113 rfl ?_
            refine ab_mem (M2 := upA M (b + 6) (fun v => if 0 ≤ v ∧ v < (i + 1) then (M (b + 6) v + x * fmq n d (M (b + 1)) w v) % p else M (b + 6) v)) ?_ (ih _ (by omega) (by omega))
            (try rw [up_upA])
            exact upA_ext (fun j => by
              by_cases q1 : j = i
              · subst q1
                first
                | rw [if_pos rfl, if_pos (by omega)]
                | rw [if_neg (by omega), if_pos (by omega), h_85, Int.mul_zero, Int.add_zero, emod_id hg.1 hg.2]
              · (try rw [if_neg q1])
                by_cases q2 : 0 ≤ j ∧ j < i
                · rw [if_pos q2, if_pos (by omega)]
                · rw [if_neg q2, if_neg (by omega)])
    · skip
      have hl : ldq n d (M (b + 2)) w = 0 := h_30
      have hg := hG w w0 (by omega)
      refine ab_aload_n C dX0_addRow_33 rfl rfl ?_
      refine gf_RX0_29 C s_t rfl dX0_addRow_34 ?_
      refine ab_iload_n C dX0_addRow_37 rfl rfl ?_
      refine ab_aload_n C dX0_addRow_38 rfl rfl ?_
      refine gf_RX0_29 C s_t rfl dX0_addRow_39 ?_
      refine ab_iload_n C dX0_addRow_42 rfl rfl ?_
      refine ab_iaload C s_t_form (by omega) (by omega) dX0_addRow_43 ?_
      refine ab_iload_n C dX0_addRow_44 rfl rfl ?_
      refine ab_iadd C dX0_addRow_45 (by omega) ?_
      refine ab_iload C dX0_addRow_46 rfl ?_
      refine ab_irem C dX0_addRow_48 (by omega) (by omega) ?_
      refine ab_iastore C s_t_form (by omega) (by omega) dX0_addRow_49 ?_
      refine ab_vret (st := []) C r dX0_addRow_50 ?_
      refine ⟨rfl, ?_⟩
      rw [up_eq_upA]
      exact (upA_ext (fun v => by
        unfold addR rho
        rw [if_pos hl]
        by_cases q1 : v = w
        · rw [if_pos q1, if_pos (by omega), if_pos q1, Int.mul_one, q1]
        · rw [if_neg q1, if_neg q1, Int.mul_zero, Int.add_zero]
          by_cases q2 : 0 ≤ v ∧ v ≤ w
          · rw [if_pos q2, emod_id (hG v q2.1 q2.2).1 (hG v q2.1 q2.2).2]
          · rw [if_neg q2])).symm
  · skip
    exfalso; omega
