set_option maxRecDepth 100000 in
set_option maxHeartbeats 4000000 in
theorem m_X8_isLawLength {D : va_G} {cA : Nat → ClassId} {S : List AbS} {M : AbM} {d : Int} : Meth yX8_isLawLength cX8_isLawLength 1 (some .boolean) rmX8_isLawLength D cA S [vI d] M (qI fun q M2 => M = M2 ∧ (if 2 ≤ d ∧ d ≤ 4 then 1 else 0) = q) := by
  refine ab_intro (lv := [vI d]) (by decide +kernel) rfl (Nat.le_of_ble_eq_true rfl) ?_
  intro hO hargs K hKD hKA C r
  have C : Cx K cX8_isLawLength RX8 rmX8_isLawLength := C
  have i_d : inI d := hargs _ (List.mem_cons_self)
  refine ab_iload_n C dX8_isLawLength_0 rfl rfl ?_
  refine ab_iconst C dX8_isLawLength_1 (by decide) ?_
  refine ab_icmp_lt (tgt := 14) C dX8_isLawLength_2 rfl (fun h_2 => ?_) (fun h_2 => ?_)
  · skip
    refine ab_iconst C dX8_isLawLength_14 (by decide) ?_
    refine ab_zret (st := []) C r (by omega) dX8_isLawLength_15 ?_
    first | exact ⟨_, rfl, rfl, if_pos (by omega)⟩ | exact ⟨_, rfl, rfl, if_neg (by omega)⟩
  · skip
    refine ab_iload_n C dX8_isLawLength_5 rfl rfl ?_
    refine ab_iconst C dX8_isLawLength_6 (by decide) ?_
    refine ab_icmp_gt (tgt := 14) C dX8_isLawLength_7 rfl (fun h_7 => ?_) (fun h_7 => ?_)
    · skip
      refine ab_iconst C dX8_isLawLength_14 (by decide) ?_
      refine ab_zret (st := []) C r (by omega) dX8_isLawLength_15 ?_
      first | exact ⟨_, rfl, rfl, if_pos (by omega)⟩ | exact ⟨_, rfl, rfl, if_neg (by omega)⟩
    · skip
      refine ab_iconst C dX8_isLawLength_10 (by decide) ?_
      refine ab_goto (tgt := 15) C dX8_isLawLength_11 rfl ?_
      refine ab_zret (st := []) C r (by omega) dX8_isLawLength_15 ?_
      first | exact ⟨_, rfl, rfl, if_pos (by omega)⟩ | exact ⟨_, rfl, rfl, if_neg (by omega)⟩
set_option maxRecDepth 100000 in
set_option maxHeartbeats 4000000 in
theorem m_X8_isSheet {D : va_G} {cA : Nat → ClassId} {S : List AbS} {M : AbM} {s : Int} : Meth yX8_isSheet cX8_isSheet 1 (some .boolean) rmX8_isSheet D cA S [vI s] M (qI fun q M2 => M = M2 ∧ (if 0 ≤ s ∧ s ≤ 3 then 1 else 0) = q) := by
  refine ab_intro (lv := [vI s]) (by decide +kernel) rfl (Nat.le_of_ble_eq_true rfl) ?_
  intro hO hargs K hKD hKA C r
  have C : Cx K cX8_isSheet RX8 rmX8_isSheet := C
  have i_s : inI s := hargs _ (List.mem_cons_self)
  refine ab_iload_n C dX8_isSheet_0 rfl rfl ?_
  refine ab_if_lt (tgt := 13) C dX8_isSheet_1 rfl (fun h_1 => ?_) (fun h_1 => ?_)
  · skip
    refine ab_iconst C dX8_isSheet_13 (by decide) ?_
    refine ab_zret (st := []) C r (by omega) dX8_isSheet_14 ?_
    first | exact ⟨_, rfl, rfl, if_pos (by omega)⟩ | exact ⟨_, rfl, rfl, if_neg (by omega)⟩
  · skip
    refine ab_iload_n C dX8_isSheet_4 rfl rfl ?_
    refine ab_iconst C dX8_isSheet_5 (by decide) ?_
    refine ab_icmp_ge (tgt := 13) C dX8_isSheet_6 rfl (fun h_6 => ?_) (fun h_6 => ?_)
    · skip
      refine ab_iconst C dX8_isSheet_13 (by decide) ?_
      refine ab_zret (st := []) C r (by omega) dX8_isSheet_14 ?_
      first | exact ⟨_, rfl, rfl, if_pos (by omega)⟩ | exact ⟨_, rfl, rfl, if_neg (by omega)⟩
    · skip
      refine ab_iconst C dX8_isSheet_9 (by decide) ?_
      refine ab_goto (tgt := 14) C dX8_isSheet_10 rfl ?_
      refine ab_zret (st := []) C r (by omega) dX8_isSheet_14 ?_
      first | exact ⟨_, rfl, rfl, if_pos (by omega)⟩ | exact ⟨_, rfl, rfl, if_neg (by omega)⟩
set_option maxRecDepth 100000 in
set_option maxHeartbeats 4000000 in
theorem m_X8_isLane {D : va_G} {cA : Nat → ClassId} {S : List AbS} {M : AbM} {l : Int} : Meth yX8_isLane cX8_isLane 1 (some .boolean) rmX8_isLane D cA S [vI l] M (qI fun q M2 => M = M2 ∧ (if 0 ≤ l ∧ l ≤ 2 then 1 else 0) = q) := by
  refine ab_intro (lv := [vI l]) (by decide +kernel) rfl (Nat.le_of_ble_eq_true rfl) ?_
  intro hO hargs K hKD hKA C r
  have C : Cx K cX8_isLane RX8 rmX8_isLane := C
  have i_l : inI l := hargs _ (List.mem_cons_self)
  refine ab_iload_n C dX8_isLane_0 rfl rfl ?_
  refine ab_if_lt (tgt := 13) C dX8_isLane_1 rfl (fun h_1 => ?_) (fun h_1 => ?_)
  · skip
    refine ab_iconst C dX8_isLane_13 (by decide) ?_
    refine ab_zret (st := []) C r (by omega) dX8_isLane_14 ?_
    first | exact ⟨_, rfl, rfl, if_pos (by omega)⟩ | exact ⟨_, rfl, rfl, if_neg (by omega)⟩
  · skip
    refine ab_iload_n C dX8_isLane_4 rfl rfl ?_
    refine ab_iconst C dX8_isLane_5 (by decide) ?_
    refine ab_icmp_ge (tgt := 13) C dX8_isLane_6 rfl (fun h_6 => ?_) (fun h_6 => ?_)
    · skip
      refine ab_iconst C dX8_isLane_13 (by decide) ?_
      refine ab_zret (st := []) C r (by omega) dX8_isLane_14 ?_
      first | exact ⟨_, rfl, rfl, if_pos (by omega)⟩ | exact ⟨_, rfl, rfl, if_neg (by omega)⟩
    · skip
      refine ab_iconst C dX8_isLane_9 (by decide) ?_
      refine ab_goto (tgt := 14) C dX8_isLane_10 rfl ?_
      refine ab_zret (st := []) C r (by omega) dX8_isLane_14 ?_
      first | exact ⟨_, rfl, rfl, if_pos (by omega)⟩ | exact ⟨_, rfl, rfl, if_neg (by omega)⟩
set_option maxRecDepth 100000 in
set_option maxHeartbeats 4000000 in
theorem m_X8_byteOf {D : va_G} {cA : Nat → ClassId} {S : List AbS} {M : AbM} {x i : Int} (i0 : 0 ≤ i) (i7 : i ≤ 7) : Meth yX8_byteOf cX8_byteOf 3 (some .int) rmX8_byteOf D cA S [vL x, vI i] M (qI fun q M2 => M = M2 ∧ bt x i = q) := by
  refine ab_intro (lv := [vL x, vU, vI i]) (by decide +kernel) rfl (Nat.le_of_ble_eq_true rfl) ?_
  intro hO hargs K hKD hKA C r
  have C : Cx K cX8_byteOf RX8 rmX8_byteOf := C
  have i_x : inL x := hargs _ (List.mem_cons_self)
  have i_i : inI i := hargs _ (List.mem_cons_of_mem _ (List.mem_cons_self))
  obtain ⟨y1, y2, hy1, hy2, hy3, hy4, hy5⟩ := bit_byte (w := x) i0 i7
  have hbt : 0 ≤ bt x i ∧ bt x i < 256 := ⟨Int.emod_nonneg _ (by decide), Int.emod_lt_of_pos _ (by decide)⟩
  refine ab_lload_n C dX8_byteOf_0 rfl rfl ?_
  refine ab_bipush C dX8_byteOf_1 (by decide) (by decide +kernel) ?_
  refine ab_iload_n C dX8_byteOf_3 rfl rfl ?_
  refine ab_imul C dX8_byteOf_4 (by omega) ?_
  refine ab_lushr (z := y1) C dX8_byteOf_5 hy1 hy3 ?_
  refine ab_l2i (z := y2) C dX8_byteOf_6 hy2 hy4 ?_
  refine ab_sipush C dX8_byteOf_7 (by decide) (by decide +kernel) ?_
  refine ab_iand (z := bt x i) C dX8_byteOf_10 (by omega) hy5 ?_
  refine ab_iret (st := []) C r dX8_byteOf_11 ?_
  exact ⟨_, rfl, rfl, rfl⟩
set_option maxRecDepth 100000 in
set_option maxHeartbeats 4000000 in
theorem m_X8_isPrime {D : va_G} {cA : Nat → ClassId} {S : List AbS} {M : AbM} {x : Int} : Meth yX8_isPrime cX8_isPrime 2 (some .boolean) rmX8_isPrime D cA S [vI x] M (qI fun q M2 => M = M2 ∧ (q = 0 ∨ q = 1) ∧ (q ≠ 0 ↔ Pr x)) := by
  refine ab_intro (lv := [vI x, vU]) (by decide +kernel) rfl (Nat.le_of_ble_eq_true rfl) ?_
  intro hO hargs K hKD hKA C r
  have C : Cx K cX8_isPrime RX8 rmX8_isPrime := C
  have i_x : inI x := hargs _ (List.mem_cons_self)
  refine ab_iload_n C dX8_isPrime_0 rfl rfl ?_
  refine ab_iconst C dX8_isPrime_1 (by decide) ?_
  refine ab_icmp_lt (tgt := 11) C dX8_isPrime_2 rfl (fun h_2 => ?_) (fun h_2 => ?_)
  · skip
    refine ab_iconst C dX8_isPrime_11 (by decide) ?_
    refine ab_zret (st := []) C r (by omega) dX8_isPrime_12 ?_
    exact ⟨_, rfl, rfl, Or.inl rfl, fun z => absurd rfl z, fun z => by have := z.1; have := z.2.1; omega⟩
  · skip
    refine ab_iload_n C dX8_isPrime_5 rfl rfl ?_
    refine ab_bipush C dX8_isPrime_6 (by decide) (by decide +kernel) ?_
    refine ab_icmp_le (tgt := 13) C dX8_isPrime_8 rfl (fun h_8 => ?_) (fun h_8 => ?_)
    · skip
      refine ab_iconst C dX8_isPrime_13 (by decide) ?_
      refine ab_istore1 (lv := []) C rfl dX8_isPrime_14 ?_
      refine ab_loop (fun i (_ : Unit) => AJ K S 15 [vI x, vI i] [] M) (fun i _ => (2 ≤ i ∧ i ≤ 11) ∧ ∀ j, 2 ≤ j → j < i → x % j ≠ 0) 12 ?_ 2 () (by omega) ⟨⟨by omega, by omega⟩, fun j a b => by omega⟩
      · intro i _ hi hI ih
        obtain ⟨⟨i2, i11⟩, hv⟩ := hI
        have hm : 0 ≤ i * i ∧ i * i ≤ 11 * 11 := ⟨Int.mul_nonneg (by omega) (by omega), Int.mul_le_mul (by omega) (by omega) (by omega) (by omega)⟩
        have hm2 : 11 ≤ i → 11 * 11 ≤ i * i := fun z => Int.mul_le_mul z z (by omega) (by omega)
        refine ab_iload_n C dX8_isPrime_15 rfl rfl ?_
        refine ab_iload_n C dX8_isPrime_16 rfl rfl ?_
        refine ab_imul C dX8_isPrime_17 (by omega) ?_
        refine ab_iload_n C dX8_isPrime_18 rfl rfl ?_
        refine ab_icmp_gt (tgt := 36) C dX8_isPrime_19 rfl (fun h_19 => ?_) (fun h_19 => ?_)
        · skip
          refine ab_iconst C dX8_isPrime_36 (by decide) ?_
          refine ab_zret (st := []) C r (by omega) dX8_isPrime_37 ?_
          refine ⟨_, rfl, rfl, Or.inr rfl, fun _ => Pr_dec (by omega) (by omega) (fun j a b => ?_), fun _ => by decide⟩
          rcases (show j < i ∨ i ≤ j by omega) with q | q
          · exact hv j a q
          · exfalso
            have : i * i ≤ j * j := Int.mul_le_mul q q (by omega) (by omega)
            omega
        · skip
          refine ab_iload_n C dX8_isPrime_22 rfl rfl ?_
          refine ab_iload_n C dX8_isPrime_23 rfl rfl ?_
          refine ab_irem C dX8_isPrime_24 (by omega) (by omega) ?_
          refine ab_if_ne (tgt := 30) C dX8_isPrime_25 rfl (fun h_25 => ?_) (fun h_25 => ?_)
          · skip
            refine ab_iinc1 (lv := []) C rfl dX8_isPrime_30 (by omega) ?_
            refine ab_goto (tgt := 15) C dX8_isPrime_33 rfl ?_
            refine ih () (by omega) ⟨⟨by omega, by omega⟩, fun j a b => ?_⟩
            rcases (show j < i ∨ j = i by omega) with q | q
            · exact hv j a q
            · rw [q]; exact h_25
          · skip
            refine ab_iconst C dX8_isPrime_28 (by decide) ?_
            refine ab_zret (st := []) C r (by omega) dX8_isPrime_29 ?_
            refine ⟨_, rfl, rfl, Or.inl rfl, fun z => absurd rfl z, fun z => ?_⟩
            exfalso
            have hi2 : 2 * i ≤ i * i := Int.mul_le_mul_of_nonneg_right i2 (by omega)
            exact z.2.2 i i2 (by omega) h_25
    · skip
      refine ab_iconst C dX8_isPrime_11 (by decide) ?_
      refine ab_zret (st := []) C r (by omega) dX8_isPrime_12 ?_
      exact ⟨_, rfl, rfl, Or.inl rfl, fun z => absurd rfl z, fun z => by have := z.1; have := z.2.1; omega⟩
set_option maxRecDepth 100000 in
set_option maxHeartbeats 4000000 in
theorem m_X8_normal {D : va_G} {cA : Nat → ClassId} {S : List AbS} {M : AbM} {w al t rr u v g h b c k sh x0 x1 x2 x3 Bd : Nat} {a : St} (B_t : WL S w al t rr u v g h b c k sh x0 x1 x2 x3 Bd) (H : CRel a M w al t u g h b c x0 x1 x2 x3) {d : Int} : Meth yX8_normal cX8_normal 2 (some .int) rmX8_normal D cA S [vP w, vI d] M (qI fun q M2 => lo Bd M M2 ∧ CRel a M2 w al t u g h b c x0 x1 x2 x3 ∧ q = aNormal a d) := by
  refine ab_intro (lv := [vP w, vI d]) (by decide +kernel) rfl (Nat.le_of_ble_eq_true rfl) ?_
  intro hO hargs K hKD hKA C r
  have C : Cx K cX8_normal RX8 rmX8_normal := C
  have i_d : inI d := hargs _ (List.mem_cons_of_mem _ (List.mem_cons_self))
  obtain ⟨⟨s_t, B_t_alphabet, B_t_tape, B_t_reader, B_t_lookedAt, B_t_spare, B_t_lawList, B_t_otherList, B_t_algebra, B_t_otherAlgebra, B_t_echelon, s_t_sheets, B_x0, B_x1, B_x2, B_x3⟩, hPl⟩ := id B_t
  obtain ⟨s_t_alphabet, -⟩ := id B_t_alphabet
  obtain ⟨s_t_tape, -⟩ := id B_t_tape
  obtain ⟨s_t_reader, -⟩ := id B_t_reader
  obtain ⟨s_t_lookedAt, -⟩ := id B_t_lookedAt
  obtain ⟨s_t_spare, -⟩ := id B_t_spare
  obtain ⟨s_t_lawList, -⟩ := id B_t_lawList
  obtain ⟨s_t_otherList, -⟩ := id B_t_otherList
  obtain ⟨s_t_algebra, -⟩ := id B_t_algebra
  obtain ⟨s_t_otherAlgebra, -⟩ := id B_t_otherAlgebra
  obtain ⟨s_t_echelon, -⟩ := id B_t_echelon
  have A_t_alphabet := H.1
  obtain ⟨⟨n1, n2, hPr⟩, -⟩ := id A_t_alphabet
  obtain ⟨p1, p2, -⟩ := id hPr
  have hLB := Lg_B a.n
  have hLO : lo Bd M M := lo.rf Bd M
  refine ab_aload_n C dX8_normal_0 rfl rfl ?_
  refine gf_RX8_10 C s_t rfl dX8_normal_1 ?_
  refine ab_iload_n C dX8_normal_4 rfl rfl ?_
  refine ab_callV C cl_RX8_152 (m_X1_hasLength B_t_alphabet A_t_alphabet) (by decide) rfl s_t_alphabet rfl rfl (Nat.le_of_ble_eq_true rfl) dX8_normal_5 (ab_kI (fun r_5 M_5 h_5 => ?_))
  obtain ⟨rfl, rfl⟩ := h_5
  refine ab_if_eq (tgt := 22) C dX8_normal_8 rfl (fun h_8 => ?_) (fun h_8 => ?_)
  · skip
    have hq := b01_eq h_8
    refine ab_iconst C dX8_normal_22 (by decide) ?_
    refine ab_iret (st := []) C r dX8_normal_23 ?_
    refine ⟨_, rfl, hLO, H, ?_⟩
    unfold aNormal
    first | rw [if_pos hq] | rw [if_neg hq]
  · skip
    have hq := b01_ne h_8
    refine ab_aload_n C dX8_normal_11 rfl rfl ?_
    refine gf_RX8_57 C s_t rfl dX8_normal_12 ?_
    refine ab_iload_n C dX8_normal_15 rfl rfl ?_
    refine ab_callV C cl_RX8_155 (m_X0_normalsOf B_t_algebra H.1 (by omega) (by omega) H.2.1.ok H.2.2.1 (by omega) (by omega)) (by decide) rfl s_t_algebra rfl rfl (Nat.le_of_ble_eq_true rfl) dX8_normal_16 (ab_kI (fun r_16 M_16 h_16 => ?_))
    obtain ⟨hs1, hA1, hd1, hv1⟩ := h_16
    obtain ⟨z1, z2, z3, z4, z5, z6⟩ := H.2.1.eq
    rw [z3] at hv1
    subst hv1
    obtain ⟨hC1, hl1⟩ := H.alg B_t hs1 hA1
    have hLO := hLO.tr hl1
    clear H hs1 hA1 hd1 z1 z2 z3 z4 z5 z6
    have H := hC1
    clear A_t_alphabet hC1 hl1
    have A_t_alphabet := H.1
    refine ab_goto (tgt := 23) C dX8_normal_19 rfl ?_
    refine ab_iret (st := []) C r dX8_normal_23 ?_
    refine ⟨_, rfl, hLO, H, ?_⟩
    unfold aNormal
    first | rw [if_pos hq] | rw [if_neg hq]
set_option maxRecDepth 100000 in
set_option maxHeartbeats 4000000 in
theorem m_X8_leads {D : va_G} {cA : Nat → ClassId} {S : List AbS} {M : AbM} {w al t rr u v g h b c k sh x0 x1 x2 x3 Bd : Nat} {a : St} (B_t : WL S w al t rr u v g h b c k sh x0 x1 x2 x3 Bd) (H : CRel a M w al t u g h b c x0 x1 x2 x3) {d x : Int} : Meth yX8_leads cX8_leads 3 (some .int) rmX8_leads D cA S [vP w, vI d, vI x] M (qI fun q M2 => lo Bd M M2 ∧ CRel a M2 w al t u g h b c x0 x1 x2 x3 ∧ q = aLeads a d x) := by
  refine ab_intro (lv := [vP w, vI d, vI x]) (by decide +kernel) rfl (Nat.le_of_ble_eq_true rfl) ?_
  intro hO hargs K hKD hKA C r
  have C : Cx K cX8_leads RX8 rmX8_leads := C
  have i_d : inI d := hargs _ (List.mem_cons_of_mem _ (List.mem_cons_self))
  have i_x : inI x := hargs _ (List.mem_cons_of_mem _ (List.mem_cons_of_mem _ (List.mem_cons_self)))
  obtain ⟨⟨s_t, B_t_alphabet, B_t_tape, B_t_reader, B_t_lookedAt, B_t_spare, B_t_lawList, B_t_otherList, B_t_algebra, B_t_otherAlgebra, B_t_echelon, s_t_sheets, B_x0, B_x1, B_x2, B_x3⟩, hPl⟩ := id B_t
  obtain ⟨s_t_alphabet, -⟩ := id B_t_alphabet
  obtain ⟨s_t_tape, -⟩ := id B_t_tape
  obtain ⟨s_t_reader, -⟩ := id B_t_reader
  obtain ⟨s_t_lookedAt, -⟩ := id B_t_lookedAt
  obtain ⟨s_t_spare, -⟩ := id B_t_spare
  obtain ⟨s_t_lawList, -⟩ := id B_t_lawList
  obtain ⟨s_t_otherList, -⟩ := id B_t_otherList
  obtain ⟨s_t_algebra, -⟩ := id B_t_algebra
  obtain ⟨s_t_otherAlgebra, -⟩ := id B_t_otherAlgebra
  obtain ⟨s_t_echelon, -⟩ := id B_t_echelon
  have A_t_alphabet := H.1
  obtain ⟨⟨n1, n2, hPr⟩, -⟩ := id A_t_alphabet
  obtain ⟨p1, p2, -⟩ := id hPr
  have hLB := Lg_B a.n
  have hLO : lo Bd M M := lo.rf Bd M
  refine ab_aload_n C dX8_leads_0 rfl rfl ?_
  refine gf_RX8_10 C s_t rfl dX8_leads_1 ?_
  refine ab_iload_n C dX8_leads_4 rfl rfl ?_
  refine ab_iload_n C dX8_leads_5 rfl rfl ?_
  refine ab_callV C cl_RX8_132 (m_X1_hasWord B_t_alphabet A_t_alphabet) (by decide) rfl s_t_alphabet rfl rfl (Nat.le_of_ble_eq_true rfl) dX8_leads_6 (ab_kI (fun r_6 M_6 h_6 => ?_))
  obtain ⟨rfl, rfl⟩ := h_6
  refine ab_if_ne (tgt := 14) C dX8_leads_9 rfl (fun h_9 => ?_) (fun h_9 => ?_)
  · skip
    have hq := b01_ne h_9
    refine ab_aload_n C dX8_leads_14 rfl rfl ?_
    refine gf_RX8_57 C s_t rfl dX8_leads_15 ?_
    refine ab_iload_n C dX8_leads_18 rfl rfl ?_
    refine ab_iload_n C dX8_leads_19 rfl rfl ?_
    refine ab_callV C cl_RX8_158 (m_X0_isLeading B_t_algebra H.1 (by omega) (by omega) H.2.1.ok H.2.2.1 (by omega) (by omega) (by omega) (by omega)) (by decide) rfl s_t_algebra rfl rfl (Nat.le_of_ble_eq_true rfl) dX8_leads_20 (ab_kI (fun r_20 M_20 h_20 => ?_))
    obtain ⟨hs1, hA1, hd1, hv1⟩ := h_20
    obtain ⟨z1, z2, z3, z4, z5, z6⟩ := H.2.1.eq
    rw [z1] at hv1
    have h01 := ((hA1.2.2.1 d (by omega) (by omega)).1.1 x (by omega) (by omega)).1
    rw [(alg_same p1 n1 hA1 (show 0 ≤ d by omega) (by omega) x (by omega) (by omega)).1, hs1 g (by simp; omega), hs1 (g + 1) (by simp; omega), hs1 (g + 2) (by simp; omega), z1] at h01
    subst hv1
    obtain ⟨hC1, hl1⟩ := H.alg B_t hs1 hA1
    have hLO := hLO.tr hl1
    clear H hs1 hA1 hd1 z1 z2 z3 z4 z5 z6
    have H := hC1
    clear A_t_alphabet hC1 hl1
    have A_t_alphabet := H.1
    refine ab_if_eq (tgt := 30) C dX8_leads_23 rfl (fun h_23 => ?_) (fun h_23 => ?_)
    · skip
      refine ab_iconst C dX8_leads_30 (by decide) ?_
      refine ab_iret (st := []) C r dX8_leads_31 ?_
      refine ⟨_, rfl, hLO, H, ?_⟩
      unfold aLeads
      rw [if_pos hq]
      omega
    · skip
      refine ab_iconst C dX8_leads_26 (by decide) ?_
      refine ab_goto (tgt := 31) C dX8_leads_27 rfl ?_
      refine ab_iret (st := []) C r dX8_leads_31 ?_
      refine ⟨_, rfl, hLO, H, ?_⟩
      unfold aLeads
      rw [if_pos hq]
      omega
  · skip
    have hq := b01_eq h_9
    refine ab_iconst C dX8_leads_12 (by decide) ?_
    refine ab_iret (st := []) C r dX8_leads_13 ?_
    refine ⟨_, rfl, hLO, H, ?_⟩
    unfold aLeads
    rw [if_neg hq]
set_option maxRecDepth 100000 in
set_option maxHeartbeats 4000000 in
theorem m_X8_word {D : va_G} {cA : Nat → ClassId} {S : List AbS} {M : AbM} {w al t rr u v g h b c k sh x0 x1 x2 x3 Bd : Nat} {a : St} (B_t : WL S w al t rr u v g h b c k sh x0 x1 x2 x3 Bd) (H : CRel a M w al t u g h b c x0 x1 x2 x3) {d i : Int} : Meth yX8_word cX8_word 3 (some .int) rmX8_word D cA S [vP w, vI d, vI i] M (qI fun q M2 => lo Bd M M2 ∧ CRel a M2 w al t u g h b c x0 x1 x2 x3 ∧ q = aWord a d i) := by
  refine ab_intro (lv := [vP w, vI d, vI i]) (by decide +kernel) rfl (Nat.le_of_ble_eq_true rfl) ?_
  intro hO hargs K hKD hKA C r
  have C : Cx K cX8_word RX8 rmX8_word := C
  have i_d : inI d := hargs _ (List.mem_cons_of_mem _ (List.mem_cons_self))
  have i_i : inI i := hargs _ (List.mem_cons_of_mem _ (List.mem_cons_of_mem _ (List.mem_cons_self)))
  obtain ⟨⟨s_t, B_t_alphabet, B_t_tape, B_t_reader, B_t_lookedAt, B_t_spare, B_t_lawList, B_t_otherList, B_t_algebra, B_t_otherAlgebra, B_t_echelon, s_t_sheets, B_x0, B_x1, B_x2, B_x3⟩, hPl⟩ := id B_t
  obtain ⟨s_t_alphabet, -⟩ := id B_t_alphabet
  obtain ⟨s_t_tape, -⟩ := id B_t_tape
  obtain ⟨s_t_reader, -⟩ := id B_t_reader
  obtain ⟨s_t_lookedAt, -⟩ := id B_t_lookedAt
  obtain ⟨s_t_spare, -⟩ := id B_t_spare
  obtain ⟨s_t_lawList, -⟩ := id B_t_lawList
  obtain ⟨s_t_otherList, -⟩ := id B_t_otherList
  obtain ⟨s_t_algebra, -⟩ := id B_t_algebra
  obtain ⟨s_t_otherAlgebra, -⟩ := id B_t_otherAlgebra
  obtain ⟨s_t_echelon, -⟩ := id B_t_echelon
  have A_t_alphabet := H.1
  obtain ⟨⟨n1, n2, hPr⟩, -⟩ := id A_t_alphabet
  obtain ⟨p1, p2, -⟩ := id hPr
  have hLB := Lg_B a.n
  have hLO : lo Bd M M := lo.rf Bd M
  refine ab_aload_n C dX8_word_0 rfl rfl ?_
  refine gf_RX8_10 C s_t rfl dX8_word_1 ?_
  refine ab_iload_n C dX8_word_4 rfl rfl ?_
  refine ab_callV C cl_RX8_152 (m_X1_hasLength B_t_alphabet A_t_alphabet) (by decide) rfl s_t_alphabet rfl rfl (Nat.le_of_ble_eq_true rfl) dX8_word_5 (ab_kI (fun r_5 M_5 h_5 => ?_))
  obtain ⟨rfl, rfl⟩ := h_5
  refine ab_if_eq (tgt := 27) C dX8_word_8 rfl (fun h_8 => ?_) (fun h_8 => ?_)
  · skip
    have hq := b01_eq h_8
    refine ab_iconst C dX8_word_27 (by decide) ?_
    refine ab_iret (st := []) C r dX8_word_28 ?_
    refine ⟨_, rfl, hLO, H, ?_⟩
    unfold aWord
    first
    | (rw [if_neg (fun z => hq z.1)]; done)
    | (rw [if_neg (fun z => by have := z.2; omega)]; done)
    | (have hp9 := pw_pos (d := d) n1
       rw [if_pos ⟨hq, by omega⟩]
       unfold aWd
       exact (nthF_out (by omega) (Or.inr (by unfold sNm at h_24; omega))).symm)
  · skip
    have hq := b01_ne h_8
    refine ab_iload_n C dX8_word_11 rfl rfl ?_
    refine ab_if_lt (tgt := 27) C dX8_word_12 rfl (fun h_12 => ?_) (fun h_12 => ?_)
    · skip
      refine ab_iconst C dX8_word_27 (by decide) ?_
      refine ab_iret (st := []) C r dX8_word_28 ?_
      refine ⟨_, rfl, hLO, H, ?_⟩
      unfold aWord
      first
      | (rw [if_neg (fun z => hq z.1)]; done)
      | (rw [if_neg (fun z => by have := z.2; omega)]; done)
      | (have hp9 := pw_pos (d := d) n1
         rw [if_pos ⟨hq, by omega⟩]
         unfold aWd
         exact (nthF_out (by omega) (Or.inr (by unfold sNm at h_24; omega))).symm)
    · skip
      refine ab_iload_n C dX8_word_15 rfl rfl ?_
      refine ab_aload_n C dX8_word_16 rfl rfl ?_
      refine gf_RX8_57 C s_t rfl dX8_word_17 ?_
      refine ab_iload_n C dX8_word_20 rfl rfl ?_
      refine ab_callV C cl_RX8_155 (m_X0_normalsOf B_t_algebra H.1 (by omega) (by omega) H.2.1.ok H.2.2.1 (by omega) (by omega)) (by decide) rfl s_t_algebra rfl rfl (Nat.le_of_ble_eq_true rfl) dX8_word_21 (ab_kI (fun r_21 M_21 h_21 => ?_))
      obtain ⟨hs1, hA1, hd1, hv1⟩ := h_21
      obtain ⟨z1, z2, z3, z4, z5, z6⟩ := H.2.1.eq
      rw [z3] at hv1
      subst hv1
      obtain ⟨hC1, hl1⟩ := H.alg B_t hs1 hA1
      have hLO := hLO.tr hl1
      clear H hs1 hA1 hd1 z1 z2 z3 z4 z5 z6
      have H := hC1
      clear A_t_alphabet hC1 hl1
      have A_t_alphabet := H.1
      refine ab_icmp_lt (tgt := 29) C dX8_word_24 rfl (fun h_24 => ?_) (fun h_24 => ?_)
      · skip
        refine ab_aload_n C dX8_word_29 rfl rfl ?_
        refine gf_RX8_57 C s_t rfl dX8_word_30 ?_
        refine ab_iload_n C dX8_word_33 rfl rfl ?_
        refine ab_iload_n C dX8_word_34 rfl rfl ?_
        refine ab_callV C cl_RX8_161 (m_X0_normalWord B_t_algebra H.1 (by omega) (by omega) H.2.1.ok H.2.2.1 (by omega) (by omega) (by omega)) (by decide) rfl s_t_algebra rfl rfl (Nat.le_of_ble_eq_true rfl) dX8_word_35 (ab_kI (fun r_35 M_35 h_35 => ?_))
        obtain ⟨hs1, hA1, hd1, hv1⟩ := h_35
        obtain ⟨z1, z2, z3, z4, z5, z6⟩ := H.2.1.eq
        rw [z1] at hv1
        subst hv1
        obtain ⟨hC1, hl1⟩ := H.alg B_t hs1 hA1
        have hLO := hLO.tr hl1
        clear H hs1 hA1 hd1 z1 z2 z3 z4 z5 z6
        have H := hC1
        clear A_t_alphabet hC1 hl1
        have A_t_alphabet := H.1
        refine ab_iret (st := []) C r dX8_word_38 ?_
        refine ⟨_, rfl, hLO, H, ?_⟩
        unfold aWord aWd
        rw [if_pos ⟨hq, by omega⟩]
      · skip
        refine ab_iconst C dX8_word_27 (by decide) ?_
        refine ab_iret (st := []) C r dX8_word_28 ?_
        refine ⟨_, rfl, hLO, H, ?_⟩
        unfold aWord
        first
        | (rw [if_neg (fun z => hq z.1)]; done)
        | (rw [if_neg (fun z => by have := z.2; omega)]; done)
        | (have hp9 := pw_pos (d := d) n1
           rw [if_pos ⟨hq, by omega⟩]
           unfold aWd
           exact (nthF_out (by omega) (Or.inr (by unfold sNm at h_24; omega))).symm)
set_option maxRecDepth 100000 in
set_option maxHeartbeats 4000000 in
theorem m_X8_plain {D : va_G} {cA : Nat → ClassId} {S : List AbS} {M : AbM} {w al t rr u v g h b c k sh x0 x1 x2 x3 Bd : Nat} {a : St} (B_t : WL S w al t rr u v g h b c k sh x0 x1 x2 x3 Bd) (H : CRel a M w al t u g h b c x0 x1 x2 x3) {d x y : Int} : Meth yX8_plain cX8_plain 4 (some .int) rmX8_plain D cA S [vP w, vI d, vI x, vI y] M (qI fun q M2 => lo Bd M M2 ∧ CRel a M2 w al t u g h b c x0 x1 x2 x3 ∧ q = aPlain a d x y) := by
  refine ab_intro (lv := [vP w, vI d, vI x, vI y]) (by decide +kernel) rfl (Nat.le_of_ble_eq_true rfl) ?_
  intro hO hargs K hKD hKA C r
  have C : Cx K cX8_plain RX8 rmX8_plain := C
  have i_d : inI d := hargs _ (List.mem_cons_of_mem _ (List.mem_cons_self))
  have i_x : inI x := hargs _ (List.mem_cons_of_mem _ (List.mem_cons_of_mem _ (List.mem_cons_self)))
  have i_y : inI y := hargs _ (List.mem_cons_of_mem _ (List.mem_cons_of_mem _ (List.mem_cons_of_mem _ (List.mem_cons_self))))
  obtain ⟨⟨s_t, B_t_alphabet, B_t_tape, B_t_reader, B_t_lookedAt, B_t_spare, B_t_lawList, B_t_otherList, B_t_algebra, B_t_otherAlgebra, B_t_echelon, s_t_sheets, B_x0, B_x1, B_x2, B_x3⟩, hPl⟩ := id B_t
  obtain ⟨s_t_alphabet, -⟩ := id B_t_alphabet
  obtain ⟨s_t_tape, -⟩ := id B_t_tape
  obtain ⟨s_t_reader, -⟩ := id B_t_reader
  obtain ⟨s_t_lookedAt, -⟩ := id B_t_lookedAt
  obtain ⟨s_t_spare, -⟩ := id B_t_spare
  obtain ⟨s_t_lawList, -⟩ := id B_t_lawList
  obtain ⟨s_t_otherList, -⟩ := id B_t_otherList
  obtain ⟨s_t_algebra, -⟩ := id B_t_algebra
  obtain ⟨s_t_otherAlgebra, -⟩ := id B_t_otherAlgebra
  obtain ⟨s_t_echelon, -⟩ := id B_t_echelon
  have A_t_alphabet := H.1
  obtain ⟨⟨n1, n2, hPr⟩, -⟩ := id A_t_alphabet
  obtain ⟨p1, p2, -⟩ := id hPr
  have hLB := Lg_B a.n
  have hLO : lo Bd M M := lo.rf Bd M
  refine ab_aload_n C dX8_plain_0 rfl rfl ?_
  refine gf_RX8_10 C s_t rfl dX8_plain_1 ?_
  refine ab_iload_n C dX8_plain_4 rfl rfl ?_
  refine ab_iload_n C dX8_plain_5 rfl rfl ?_
  refine ab_callV C cl_RX8_132 (m_X1_hasWord B_t_alphabet A_t_alphabet) (by decide) rfl s_t_alphabet rfl rfl (Nat.le_of_ble_eq_true rfl) dX8_plain_6 (ab_kI (fun r_6 M_6 h_6 => ?_))
  obtain ⟨rfl, rfl⟩ := h_6
  refine ab_if_eq (tgt := 24) C dX8_plain_9 rfl (fun h_9 => ?_) (fun h_9 => ?_)
  · skip
    have hq := b01_eq h_9
    refine ab_iconst C dX8_plain_24 (by decide) ?_
    refine ab_iret (st := []) C r dX8_plain_25 ?_
    refine ⟨_, rfl, hLO, H, ?_⟩
    unfold aPlain
    rw [if_neg]
    intro z
    first | exact hq z.1 | exact hq2 z.2
  · skip
    have hq := b01_ne h_9
    refine ab_aload_n C dX8_plain_12 rfl rfl ?_
    refine gf_RX8_10 C s_t rfl dX8_plain_13 ?_
    refine ab_iload_n C dX8_plain_16 rfl rfl ?_
    refine ab_iload_n C dX8_plain_17 rfl rfl ?_
    refine ab_callV C cl_RX8_132 (m_X1_hasWord B_t_alphabet A_t_alphabet) (by decide) rfl s_t_alphabet rfl rfl (Nat.le_of_ble_eq_true rfl) dX8_plain_18 (ab_kI (fun r_18 M_18 h_18 => ?_))
    obtain ⟨rfl, rfl⟩ := h_18
    refine ab_if_ne (tgt := 26) C dX8_plain_21 rfl (fun h_21 => ?_) (fun h_21 => ?_)
    · skip
      have hq2 := b01_ne h_21
      refine ab_aload_n C dX8_plain_26 rfl rfl ?_
      refine gf_RX8_57 C s_t rfl dX8_plain_27 ?_
      refine ab_iload_n C dX8_plain_30 rfl rfl ?_
      refine ab_iload_n C dX8_plain_31 rfl rfl ?_
      refine ab_iload_n C dX8_plain_32 rfl rfl ?_
      refine ab_callV C cl_RX8_164 (m_X0_numberInForm B_t_algebra H.1 (by omega) (by omega) H.2.1.ok H.2.2.1 (by omega) (by omega) (by omega) (by omega) (by omega) (by omega)) (by decide) rfl s_t_algebra rfl rfl (Nat.le_of_ble_eq_true rfl) dX8_plain_33 (ab_kI (fun r_33 M_33 h_33 => ?_))
      obtain ⟨hs1, hA1, hd1, hv1⟩ := h_33
      obtain ⟨z1, z2, z3, z4, z5, z6⟩ := H.2.1.eq
      rw [z2] at hv1
      subst hv1
      obtain ⟨hC1, hl1⟩ := H.alg B_t hs1 hA1
      have hLO := hLO.tr hl1
      clear H hs1 hA1 hd1 z1 z2 z3 z4 z5 z6
      have H := hC1
      clear A_t_alphabet hC1 hl1
      have A_t_alphabet := H.1
      refine ab_iret (st := []) C r dX8_plain_36 ?_
      refine ⟨_, rfl, hLO, H, ?_⟩
      unfold aPlain
      rw [if_pos ⟨hq, hq2⟩]
    · skip
      have hq2 := b01_eq h_21
      refine ab_iconst C dX8_plain_24 (by decide) ?_
      refine ab_iret (st := []) C r dX8_plain_25 ?_
      refine ⟨_, rfl, hLO, H, ?_⟩
      unfold aPlain
      rw [if_neg]
      intro z
      first | exact hq z.1 | exact hq2 z.2
set_option maxRecDepth 100000 in
set_option maxHeartbeats 4000000 in
theorem m_X8_tellLeast {D : va_G} {cA : Nat → ClassId} {S : List AbS} {M : AbM} {w al t rr u v g h b c k sh x0 x1 x2 x3 Bd : Nat} {a : St} (B_t : WL S w al t rr u v g h b c k sh x0 x1 x2 x3 Bd) (H : CRel a M w al t u g h b c x0 x1 x2 x3) {d x y : Int} (d0 : 0 ≤ d) (d1 : d ≤ Lg a.n) (w0 : 0 ≤ x) (w1 : x < pw a.n d) : Meth yX8_tellLeast cX8_tellLeast 4 (some .int) rmX8_tellLeast D cA S [vP w, vI d, vI x, vI y] M (qI fun q M2 => lo Bd M M2 ∧ CRel a M2 w al t u g h b c x0 x1 x2 x3 ∧ q = (if y = 0 then d else if y = 1 then x else 1 + cntF (srh a.n a.p a.sz a.len a.num d x) (x + 1))) := by
  refine ab_intro (lv := [vP w, vI d, vI x, vI y]) (by decide +kernel) rfl (Nat.le_of_ble_eq_true rfl) ?_
  intro hO hargs K hKD hKA C r
  have C : Cx K cX8_tellLeast RX8 rmX8_tellLeast := C
  have i_d : inI d := hargs _ (List.mem_cons_of_mem _ (List.mem_cons_self))
  have i_x : inI x := hargs _ (List.mem_cons_of_mem _ (List.mem_cons_of_mem _ (List.mem_cons_self)))
  have i_y : inI y := hargs _ (List.mem_cons_of_mem _ (List.mem_cons_of_mem _ (List.mem_cons_of_mem _ (List.mem_cons_self))))
  obtain ⟨⟨s_t, B_t_alphabet, B_t_tape, B_t_reader, B_t_lookedAt, B_t_spare, B_t_lawList, B_t_otherList, B_t_algebra, B_t_otherAlgebra, B_t_echelon, s_t_sheets, B_x0, B_x1, B_x2, B_x3⟩, hPl⟩ := id B_t
  obtain ⟨s_t_alphabet, -⟩ := id B_t_alphabet
  obtain ⟨s_t_tape, -⟩ := id B_t_tape
  obtain ⟨s_t_reader, -⟩ := id B_t_reader
  obtain ⟨s_t_lookedAt, -⟩ := id B_t_lookedAt
  obtain ⟨s_t_spare, -⟩ := id B_t_spare
  obtain ⟨s_t_lawList, -⟩ := id B_t_lawList
  obtain ⟨s_t_otherList, -⟩ := id B_t_otherList
  obtain ⟨s_t_algebra, -⟩ := id B_t_algebra
  obtain ⟨s_t_otherAlgebra, -⟩ := id B_t_otherAlgebra
  obtain ⟨s_t_echelon, -⟩ := id B_t_echelon
  have A_t_alphabet := H.1
  obtain ⟨⟨n1, n2, hPr⟩, -⟩ := id A_t_alphabet
  obtain ⟨p1, p2, -⟩ := id hPr
  have hLB := Lg_B a.n
  have hLO : lo Bd M M := lo.rf Bd M
  have hB := sz_B n1 n2 d0 d1
  refine ab_iload_n C dX8_tellLeast_0 rfl rfl ?_
  refine ab_if_ne (tgt := 6) C dX8_tellLeast_1 rfl (fun h_1 => ?_) (fun h_1 => ?_)
  · skip
    refine ab_iload_n C dX8_tellLeast_6 rfl rfl ?_
    refine ab_iconst C dX8_tellLeast_7 (by decide) ?_
    refine ab_icmp_ne (tgt := 15) C dX8_tellLeast_8 rfl (fun h_8 => ?_) (fun h_8 => ?_)
    · skip
      refine ab_iconst C dX8_tellLeast_15 (by decide) ?_
      refine ab_aload_n C dX8_tellLeast_16 rfl rfl ?_
      refine gf_RX8_57 C s_t rfl dX8_tellLeast_17 ?_
      refine ab_iload_n C dX8_tellLeast_20 rfl rfl ?_
      refine ab_iload_n C dX8_tellLeast_21 rfl rfl ?_
      refine ab_callV C cl_RX8_267 (m_X0_termsInForm B_t_algebra H.1 (by omega) (by omega) H.2.1.ok H.2.2.1 (by omega) (by omega) (by omega) (by omega)) (by decide) rfl s_t_algebra rfl rfl (Nat.le_of_ble_eq_true rfl) dX8_tellLeast_22 (ab_kI (fun r_22 M_22 h_22 => ?_))
      obtain ⟨hs1, hA1, hd1, hv1⟩ := h_22
      obtain ⟨z1, z2, z3, z4, z5, z6⟩ := H.2.1.eq
      rw [z2] at hv1
      subst hv1
      obtain ⟨hC1, hl1⟩ := H.alg B_t hs1 hA1
      have hLO := hLO.tr hl1
      clear H hs1 hA1 hd1 z1 z2 z3 z4 z5 z6
      have H := hC1
      clear A_t_alphabet hC1 hl1
      have A_t_alphabet := H.1
      have cB := cntF_B (f := srh a.n a.p a.sz a.len a.num d x) (N := x + 1) (by omega)
      refine ab_iadd C dX8_tellLeast_25 (by omega) ?_
      refine ab_iret (st := []) C r dX8_tellLeast_26 ?_
      refine ⟨_, rfl, hLO, H, ?_⟩
      rw [if_neg h_1]
      first | rw [if_pos h_8] | rw [if_neg h_8]
    · skip
      refine ab_iload_n C dX8_tellLeast_11 rfl rfl ?_
      refine ab_goto (tgt := 26) C dX8_tellLeast_12 rfl ?_
      refine ab_iret (st := []) C r dX8_tellLeast_26 ?_
      refine ⟨_, rfl, hLO, H, ?_⟩
      rw [if_neg h_1]
      first | rw [if_pos h_8] | rw [if_neg h_8]
  · skip
    refine ab_iload_n C dX8_tellLeast_4 rfl rfl ?_
    refine ab_iret (st := []) C r dX8_tellLeast_5 ?_
    refine ⟨_, rfl, hLO, H, ?_⟩
    rw [if_pos h_1]
set_option maxRecDepth 100000 in
set_option maxHeartbeats 4000000 in
theorem m_X8_least {D : va_G} {cA : Nat → ClassId} {S : List AbS} {M : AbM} {w al t rr u v g h b c k sh x0 x1 x2 x3 Bd : Nat} {a : St} (B_t : WL S w al t rr u v g h b c k sh x0 x1 x2 x3 Bd) (H : CRel a M w al t u g h b c x0 x1 x2 x3) {i y : Int} : Meth yX8_least cX8_least 6 (some .int) rmX8_least D cA S [vP w, vI i, vI y] M (qI fun q M2 => lo Bd M M2 ∧ CRel a M2 w al t u g h b c x0 x1 x2 x3 ∧ aLeast a i y q) := by
  refine ab_intro (lv := [vP w, vI i, vI y, vU, vU, vU]) (by decide +kernel) rfl (Nat.le_of_ble_eq_true rfl) ?_
  intro hO hargs K hKD hKA C r
  have C : Cx K cX8_least RX8 rmX8_least := C
  have i_i : inI i := hargs _ (List.mem_cons_of_mem _ (List.mem_cons_self))
  have i_y : inI y := hargs _ (List.mem_cons_of_mem _ (List.mem_cons_of_mem _ (List.mem_cons_self)))
  obtain ⟨⟨s_t, B_t_alphabet, B_t_tape, B_t_reader, B_t_lookedAt, B_t_spare, B_t_lawList, B_t_otherList, B_t_algebra, B_t_otherAlgebra, B_t_echelon, s_t_sheets, B_x0, B_x1, B_x2, B_x3⟩, hPl⟩ := id B_t
  obtain ⟨s_t_alphabet, -⟩ := id B_t_alphabet
  obtain ⟨s_t_tape, -⟩ := id B_t_tape
  obtain ⟨s_t_reader, -⟩ := id B_t_reader
  obtain ⟨s_t_lookedAt, -⟩ := id B_t_lookedAt
  obtain ⟨s_t_spare, -⟩ := id B_t_spare
  obtain ⟨s_t_lawList, -⟩ := id B_t_lawList
  obtain ⟨s_t_otherList, -⟩ := id B_t_otherList
  obtain ⟨s_t_algebra, -⟩ := id B_t_algebra
  obtain ⟨s_t_otherAlgebra, -⟩ := id B_t_otherAlgebra
  obtain ⟨s_t_echelon, -⟩ := id B_t_echelon
  have A_t_alphabet := H.1
  obtain ⟨⟨n1, n2, hPr⟩, -⟩ := id A_t_alphabet
  obtain ⟨p1, p2, -⟩ := id hPr
  have hLB := Lg_B a.n
  have hLO : lo Bd M M := lo.rf Bd M
  refine ab_iload_n C dX8_least_0 rfl rfl ?_
  refine ab_if_lt (tgt := 13) C dX8_least_1 rfl (fun h_1 => ?_) (fun h_1 => ?_)
  · skip
    refine ab_iconst C dX8_least_13 (by decide) ?_
    refine ab_iret (st := []) C r dX8_least_14 ?_
    exact ⟨_, rfl, hLO, H, fun z => by omega, fun _ => rfl⟩
  · skip
    refine ab_iload_n C dX8_least_4 rfl rfl ?_
    refine ab_if_lt (tgt := 13) C dX8_least_5 rfl (fun h_5 => ?_) (fun h_5 => ?_)
    · skip
      refine ab_iconst C dX8_least_13 (by decide) ?_
      refine ab_iret (st := []) C r dX8_least_14 ?_
      exact ⟨_, rfl, hLO, H, fun z => by omega, fun _ => rfl⟩
    · skip
      refine ab_iload_n C dX8_least_8 rfl rfl ?_
      refine ab_iconst C dX8_least_9 (by decide) ?_
      refine ab_icmp_le (tgt := 15) C dX8_least_10 rfl (fun h_10 => ?_) (fun h_10 => ?_)
      · skip
        refine ab_iload_n C dX8_least_15 rfl rfl ?_
        refine ab_istore3 (lv := []) C rfl dX8_least_16 ?_
        refine ab_iconst C dX8_least_17 (by decide) ?_
        refine ab_istore4 (lv := []) C rfl dX8_least_18 ?_
        refine ab_loop (fun d (z : Int × AbV × AbM) => AJ K S 20 [vP w, vI i, vI y, vI z.1, vI d, z.2.1] [] z.2.2) (fun d z => 0 ≤ d ∧ (z.1 = i - sumF (sLs a.n a.p a.sz a.len a.num) d ∧ 0 ≤ z.1 ∧ z.1 ≤ i) ∧ lo Bd M z.2.2 ∧ CRel a z.2.2 w al t u g h b c x0 x1 x2 x3) (Lg a.n + 1) ?_ 0 (i, vU, M) (by omega) ⟨by omega, ⟨by rw [sumF_0]; dsimp only; omega, by dsimp only; omega, by dsimp only; omega⟩, hLO, H⟩
        · intro d z hd hI ih
          obtain ⟨x, y5, M5⟩ := z
          obtain ⟨d0, ⟨hx1, hx0, hx2⟩, hLO5, H5⟩ := hI
          dsimp only at hx1 hx0 hx2 hLO5 H5 ih ⊢
          refine ab_iload C dX8_least_20 rfl ?_
          refine ab_aload_n C dX8_least_22 rfl rfl ?_
          refine gf_RX8_10 C s_t rfl dX8_least_23 ?_
          refine ab_callV C cl_RX8_98 (m_X1_longest B_t_alphabet H5.1) (by decide) rfl s_t_alphabet rfl rfl (Nat.le_of_ble_eq_true rfl) dX8_least_26 (ab_kI (fun r_26 M_26 h_26 => ?_))
          obtain ⟨rfl, rfl⟩ := h_26
          refine ab_icmp_gt (tgt := 78) C dX8_least_29 rfl (fun h_29 => ?_) (fun h_29 => ?_)
          · skip
            refine ab_iconst C dX8_least_78 (by decide) ?_
            refine ab_iret (st := []) C r dX8_least_79 ?_
            refine ⟨_, rfl, hLO5, H5, fun _ => Or.inr ⟨?_, rfl⟩, fun z => absurd ⟨by omega, by omega, by omega⟩ z⟩
            have ed : d = Lg a.n + 1 := by omega
            subst ed
            show sumF (sLs a.n a.p a.sz a.len a.num) (Lg a.n + 1) ≤ i
            omega
          · skip
            refine ab_aload_n C dX8_least_32 rfl rfl ?_
            refine gf_RX8_57 C s_t rfl dX8_least_33 ?_
            refine ab_iload C dX8_least_36 rfl ?_
            refine ab_callV C cl_RX8_168 (m_X0_leastLawsOf B_t_algebra H5.1 (by omega) (by omega) H5.2.1.ok H5.2.2.1 (by omega) (by omega)) (by decide) rfl s_t_algebra rfl rfl (Nat.le_of_ble_eq_true rfl) dX8_least_38 (ab_kI (fun r_38 M_38 h_38 => ?_))
            obtain ⟨hs1, hA1, hd1, hv1⟩ := h_38
            obtain ⟨z1, z2, z3, z4, z5, z6⟩ := H5.2.1.eq
            rw [z4] at hv1
            subst hv1
            obtain ⟨hC1, hl1⟩ := H5.alg B_t hs1 hA1
            have hLO5 := hLO5.tr hl1
            clear H5 hs1 hA1 hd1 z1 z2 z3 z4 z5 z6
            have H5 := hC1
            clear hC1 hl1
            refine ab_istore5 (lv := []) C rfl dX8_least_41 ?_
            refine ab_iload_n C dX8_least_43 rfl rfl ?_
            refine ab_iload C dX8_least_44 rfl ?_
            have sB := cntF_B (f := (fun e => lsA a.n e (sld a.n a.p a.sz a.len a.num (e - 1)) (sld a.n a.p a.sz a.len a.num e)) d) (N := pw a.n d) (by have := pw_pos (d := d) n1; omega)
            have eS : (sLs a.n a.p a.sz a.len a.num) d = cntF ((fun e => lsA a.n e (sld a.n a.p a.sz a.len a.num (e - 1)) (sld a.n a.p a.sz a.len a.num e)) d) (pw a.n d) := rfl
            have hB := sz_B n1 n2 d0 (show d ≤ Lg a.n by omega)
            refine ab_icmp_ge (tgt := 67) C dX8_least_46 rfl (fun h_46 => ?_) (fun h_46 => ?_)
            · skip
              refine ab_iload_n C dX8_least_67 rfl rfl ?_
              refine ab_iload C dX8_least_68 rfl ?_
              refine ab_isub C dX8_least_70 (by omega) ?_
              refine ab_istore3 (lv := []) C rfl dX8_least_71 ?_
              refine ab_iinc4 (lv := []) C rfl dX8_least_72 (by omega) ?_
              refine ab_goto (tgt := 20) C dX8_least_75 rfl ?_
              refine ih (_, _, _) (by omega) ⟨by omega, ⟨?_, by dsimp only; omega, by dsimp only; omega⟩, hLO5, H5⟩
              rw [sumF_s d0]
              dsimp only
              omega
            · skip
              skip
              refine ab_aload_n C dX8_least_49 rfl rfl ?_
              refine ab_iload C dX8_least_50 rfl ?_
              refine ab_aload_n C dX8_least_52 rfl rfl ?_
              refine gf_RX8_57 C s_t rfl dX8_least_53 ?_
              refine ab_iload C dX8_least_56 rfl ?_
              refine ab_iload_n C dX8_least_58 rfl rfl ?_
              refine ab_callV C cl_RX8_171 (m_X0_leastWord B_t_algebra H5.1 (by omega) (by omega) H5.2.1.ok H5.2.2.1 (by omega) (by omega) (by omega)) (by decide) rfl s_t_algebra rfl rfl (Nat.le_of_ble_eq_true rfl) dX8_least_59 (ab_kI (fun r_59 M_59 h_59 => ?_))
              obtain ⟨hs1, hA1, hd1, hv1⟩ := h_59
              obtain ⟨z1, z2, z3, z4, z5, z6⟩ := H5.2.1.eq
              rw [z1] at hv1
              subst hv1
              obtain ⟨hC1, hl1⟩ := H5.alg B_t hs1 hA1
              have hLO5 := hLO5.tr hl1
              clear H5 hs1 hA1 hd1 z1 z2 z3 z4 z5 z6
              have H5 := hC1
              clear hC1 hl1
              have hpp := pw_pos (d := d) n1
              obtain ⟨nw0, nw1, nw2, nw3⟩ := nthF_in (f := (fun e => lsA a.n e (sld a.n a.p a.sz a.len a.num (e - 1)) (sld a.n a.p a.sz a.len a.num e)) d) (N := pw a.n d) (j := x) (by omega) (by omega) (by unfold sLs at h_46; omega)
              refine ab_iload_n C dX8_least_62 rfl rfl ?_
              refine ab_callV C cl_RX8_174 (m_X8_tellLeast B_t H5 (by omega) (by omega) nw0 nw1) (by decide) rfl s_t rfl rfl (Nat.le_of_ble_eq_true rfl) dX8_least_63 (ab_kI (fun r_63 M_63 h_63 => ?_))
              obtain ⟨hl6, H6, hv6⟩ := h_63
              refine ab_iret (st := []) C r dX8_least_66 ?_
              refine ⟨_, rfl, hLO5.tr hl6, H6, fun _ => Or.inl ⟨d, _, d0, by omega, nw0, nw1, nw2, ?_, hv6⟩, fun z => absurd ⟨by omega, by omega, by omega⟩ z⟩
              rw [nw3]
              have : sumF (fun e => cntF ((fun e => lsA a.n e (sld a.n a.p a.sz a.len a.num (e - 1)) (sld a.n a.p a.sz a.len a.num e)) e) (pw a.n e)) d = sumF (sLs a.n a.p a.sz a.len a.num) d := rfl
              rw [this]
              omega
      · skip
        refine ab_iconst C dX8_least_13 (by decide) ?_
        refine ab_iret (st := []) C r dX8_least_14 ?_
        exact ⟨_, rfl, hLO, H, fun z => by omega, fun _ => rfl⟩
set_option maxRecDepth 100000 in
set_option maxHeartbeats 4000000 in
theorem m_X8_product {D : va_G} {cA : Nat → ClassId} {S : List AbS} {M : AbM} {w al t rr u v g h b c k sh x0 x1 x2 x3 Bd : Nat} {a : St} (B_t : WL S w al t rr u v g h b c k sh x0 x1 x2 x3 Bd) (H : CRel a M w al t u g h b c x0 x1 x2 x3) {d i e j x : Int} : Meth yX8_product cX8_product 7 (some .int) rmX8_product D cA S [vP w, vI d, vI i, vI e, vI j, vI x] M (qI fun q M2 => lo Bd M M2 ∧ CRel a M2 w al t u g h b c x0 x1 x2 x3 ∧ q = aProduct a d i e j x) := by
  refine ab_intro (lv := [vP w, vI d, vI i, vI e, vI j, vI x, vU]) (by decide +kernel) rfl (Nat.le_of_ble_eq_true rfl) ?_
  intro hO hargs K hKD hKA C r
  have C : Cx K cX8_product RX8 rmX8_product := C
  have i_d : inI d := hargs _ (List.mem_cons_of_mem _ (List.mem_cons_self))
  have i_i : inI i := hargs _ (List.mem_cons_of_mem _ (List.mem_cons_of_mem _ (List.mem_cons_self)))
  have i_e : inI e := hargs _ (List.mem_cons_of_mem _ (List.mem_cons_of_mem _ (List.mem_cons_of_mem _ (List.mem_cons_self))))
  have i_j : inI j := hargs _ (List.mem_cons_of_mem _ (List.mem_cons_of_mem _ (List.mem_cons_of_mem _ (List.mem_cons_of_mem _ (List.mem_cons_self)))))
  have i_x : inI x := hargs _ (List.mem_cons_of_mem _ (List.mem_cons_of_mem _ (List.mem_cons_of_mem _ (List.mem_cons_of_mem _ (List.mem_cons_of_mem _ (List.mem_cons_self))))))
  obtain ⟨⟨s_t, B_t_alphabet, B_t_tape, B_t_reader, B_t_lookedAt, B_t_spare, B_t_lawList, B_t_otherList, B_t_algebra, B_t_otherAlgebra, B_t_echelon, s_t_sheets, B_x0, B_x1, B_x2, B_x3⟩, hPl⟩ := id B_t
  obtain ⟨s_t_alphabet, -⟩ := id B_t_alphabet
  obtain ⟨s_t_tape, -⟩ := id B_t_tape
  obtain ⟨s_t_reader, -⟩ := id B_t_reader
  obtain ⟨s_t_lookedAt, -⟩ := id B_t_lookedAt
  obtain ⟨s_t_spare, -⟩ := id B_t_spare
  obtain ⟨s_t_lawList, -⟩ := id B_t_lawList
  obtain ⟨s_t_otherList, -⟩ := id B_t_otherList
  obtain ⟨s_t_algebra, -⟩ := id B_t_algebra
  obtain ⟨s_t_otherAlgebra, -⟩ := id B_t_otherAlgebra
  obtain ⟨s_t_echelon, -⟩ := id B_t_echelon
  have A_t_alphabet := H.1
  obtain ⟨⟨n1, n2, hPr⟩, -⟩ := id A_t_alphabet
  obtain ⟨p1, p2, -⟩ := id hPr
  have hLB := Lg_B a.n
  have hLO : lo Bd M M := lo.rf Bd M
  refine ab_aload_n C dX8_product_0 rfl rfl ?_
  refine gf_RX8_10 C s_t rfl dX8_product_1 ?_
  refine ab_iload_n C dX8_product_4 rfl rfl ?_
  refine ab_callV C cl_RX8_152 (m_X1_hasLength B_t_alphabet A_t_alphabet) (by decide) rfl s_t_alphabet rfl rfl (Nat.le_of_ble_eq_true rfl) dX8_product_5 (ab_kI (fun r_5 M_5 h_5 => ?_))
  obtain ⟨rfl, rfl⟩ := h_5
  refine ab_if_eq (tgt := 37) C dX8_product_8 rfl (fun h_8 => ?_) (fun h_8 => ?_)
  · skip
    have hq := b01_eq h_8
    refine ab_iconst C dX8_product_37 (by decide) ?_
    refine ab_iret (st := []) C r dX8_product_38 ?_
    refine ⟨_, rfl, hLO, H, ?_⟩
    unfold aProduct
    first
    | (rw [if_neg (fun z => hq z.1)]; done)
    | (rw [if_neg (fun z => hq2 z.2.1)]; done)
    | (rw [if_neg (fun z => hq3 ⟨by have := hq.1; have := hq2.1; omega, z.2.2.1, z.2.2.2.2.2⟩)]; done)
    | (rw [if_neg (fun z => by have := z.2.2.2; omega)]; done)
    | (have hp9 := pw_pos (d := d) n1
       have hp8 := pw_pos (d := e) n1
       by_cases z : (0 ≤ d ∧ d ≤ Lg a.n) ∧ (0 ≤ e ∧ e ≤ Lg a.n) ∧ d + e ≤ Lg a.n ∧ 0 ≤ i ∧ 0 ≤ j ∧ 0 ≤ x ∧ x < pw a.n (d + e)
       · rw [if_pos z, if_pos]
         first
         | (left; unfold aWd; rw [nthF_out (by omega) (Or.inr (by unfold sNm at h_52; omega))]; decide)
         | (right; unfold aWd; rw [nthF_out (by omega) (Or.inr (by unfold sNm at h_70; omega))]; decide)
       · rw [if_neg z])
  · skip
    have hq := b01_ne h_8
    refine ab_aload_n C dX8_product_11 rfl rfl ?_
    refine gf_RX8_10 C s_t rfl dX8_product_12 ?_
    refine ab_iload_n C dX8_product_15 rfl rfl ?_
    refine ab_callV C cl_RX8_152 (m_X1_hasLength B_t_alphabet A_t_alphabet) (by decide) rfl s_t_alphabet rfl rfl (Nat.le_of_ble_eq_true rfl) dX8_product_16 (ab_kI (fun r_16 M_16 h_16 => ?_))
    obtain ⟨rfl, rfl⟩ := h_16
    refine ab_if_eq (tgt := 37) C dX8_product_19 rfl (fun h_19 => ?_) (fun h_19 => ?_)
    · skip
      have hq2 := b01_eq h_19
      refine ab_iconst C dX8_product_37 (by decide) ?_
      refine ab_iret (st := []) C r dX8_product_38 ?_
      refine ⟨_, rfl, hLO, H, ?_⟩
      unfold aProduct
      first
      | (rw [if_neg (fun z => hq z.1)]; done)
      | (rw [if_neg (fun z => hq2 z.2.1)]; done)
      | (rw [if_neg (fun z => hq3 ⟨by have := hq.1; have := hq2.1; omega, z.2.2.1, z.2.2.2.2.2⟩)]; done)
      | (rw [if_neg (fun z => by have := z.2.2.2; omega)]; done)
      | (have hp9 := pw_pos (d := d) n1
         have hp8 := pw_pos (d := e) n1
         by_cases z : (0 ≤ d ∧ d ≤ Lg a.n) ∧ (0 ≤ e ∧ e ≤ Lg a.n) ∧ d + e ≤ Lg a.n ∧ 0 ≤ i ∧ 0 ≤ j ∧ 0 ≤ x ∧ x < pw a.n (d + e)
         · rw [if_pos z, if_pos]
           first
           | (left; unfold aWd; rw [nthF_out (by omega) (Or.inr (by unfold sNm at h_52; omega))]; decide)
           | (right; unfold aWd; rw [nthF_out (by omega) (Or.inr (by unfold sNm at h_70; omega))]; decide)
         · rw [if_neg z])
    · skip
      have hq2 := b01_ne h_19
      refine ab_aload_n C dX8_product_22 rfl rfl ?_
      refine gf_RX8_10 C s_t rfl dX8_product_23 ?_
      refine ab_iload_n C dX8_product_26 rfl rfl ?_
      refine ab_iload_n C dX8_product_27 rfl rfl ?_
      refine ab_iadd C dX8_product_28 (by omega) ?_
      refine ab_iload C dX8_product_29 rfl ?_
      refine ab_callV C cl_RX8_132 (m_X1_hasWord B_t_alphabet A_t_alphabet) (by decide) rfl s_t_alphabet rfl rfl (Nat.le_of_ble_eq_true rfl) dX8_product_31 (ab_kI (fun r_31 M_31 h_31 => ?_))
      obtain ⟨rfl, rfl⟩ := h_31
      refine ab_if_ne (tgt := 39) C dX8_product_34 rfl (fun h_34 => ?_) (fun h_34 => ?_)
      · skip
        have hq3 := b01_ne h_34
        refine ab_iload_n C dX8_product_39 rfl rfl ?_
        refine ab_if_lt (tgt := 73) C dX8_product_40 rfl (fun h_40 => ?_) (fun h_40 => ?_)
        · skip
          refine ab_iconst C dX8_product_73 (by decide) ?_
          refine ab_iret (st := []) C r dX8_product_74 ?_
          refine ⟨_, rfl, hLO, H, ?_⟩
          unfold aProduct
          first
          | (rw [if_neg (fun z => hq z.1)]; done)
          | (rw [if_neg (fun z => hq2 z.2.1)]; done)
          | (rw [if_neg (fun z => hq3 ⟨by have := hq.1; have := hq2.1; omega, z.2.2.1, z.2.2.2.2.2⟩)]; done)
          | (rw [if_neg (fun z => by have := z.2.2.2; omega)]; done)
          | (have hp9 := pw_pos (d := d) n1
             have hp8 := pw_pos (d := e) n1
             by_cases z : (0 ≤ d ∧ d ≤ Lg a.n) ∧ (0 ≤ e ∧ e ≤ Lg a.n) ∧ d + e ≤ Lg a.n ∧ 0 ≤ i ∧ 0 ≤ j ∧ 0 ≤ x ∧ x < pw a.n (d + e)
             · rw [if_pos z, if_pos]
               first
               | (left; unfold aWd; rw [nthF_out (by omega) (Or.inr (by unfold sNm at h_52; omega))]; decide)
               | (right; unfold aWd; rw [nthF_out (by omega) (Or.inr (by unfold sNm at h_70; omega))]; decide)
             · rw [if_neg z])
        · skip
          refine ab_iload_n C dX8_product_43 rfl rfl ?_
          refine ab_aload_n C dX8_product_44 rfl rfl ?_
          refine gf_RX8_57 C s_t rfl dX8_product_45 ?_
          refine ab_iload_n C dX8_product_48 rfl rfl ?_
          refine ab_callV C cl_RX8_155 (m_X0_normalsOf B_t_algebra H.1 (by omega) (by omega) H.2.1.ok H.2.2.1 (by omega) (by omega)) (by decide) rfl s_t_algebra rfl rfl (Nat.le_of_ble_eq_true rfl) dX8_product_49 (ab_kI (fun r_49 M_49 h_49 => ?_))
          obtain ⟨hs1, hA1, hd1, hv1⟩ := h_49
          obtain ⟨z1, z2, z3, z4, z5, z6⟩ := H.2.1.eq
          rw [z3] at hv1
          subst hv1
          obtain ⟨hC1, hl1⟩ := H.alg B_t hs1 hA1
          have hLO := hLO.tr hl1
          clear H hs1 hA1 hd1 z1 z2 z3 z4 z5 z6
          have H := hC1
          clear A_t_alphabet hC1 hl1
          have A_t_alphabet := H.1
          refine ab_icmp_ge (tgt := 73) C dX8_product_52 rfl (fun h_52 => ?_) (fun h_52 => ?_)
          · skip
            refine ab_iconst C dX8_product_73 (by decide) ?_
            refine ab_iret (st := []) C r dX8_product_74 ?_
            refine ⟨_, rfl, hLO, H, ?_⟩
            unfold aProduct
            first
            | (rw [if_neg (fun z => hq z.1)]; done)
            | (rw [if_neg (fun z => hq2 z.2.1)]; done)
            | (rw [if_neg (fun z => hq3 ⟨by have := hq.1; have := hq2.1; omega, z.2.2.1, z.2.2.2.2.2⟩)]; done)
            | (rw [if_neg (fun z => by have := z.2.2.2; omega)]; done)
            | (have hp9 := pw_pos (d := d) n1
               have hp8 := pw_pos (d := e) n1
               by_cases z : (0 ≤ d ∧ d ≤ Lg a.n) ∧ (0 ≤ e ∧ e ≤ Lg a.n) ∧ d + e ≤ Lg a.n ∧ 0 ≤ i ∧ 0 ≤ j ∧ 0 ≤ x ∧ x < pw a.n (d + e)
               · rw [if_pos z, if_pos]
                 first
                 | (left; unfold aWd; rw [nthF_out (by omega) (Or.inr (by unfold sNm at h_52; omega))]; decide)
                 | (right; unfold aWd; rw [nthF_out (by omega) (Or.inr (by unfold sNm at h_70; omega))]; decide)
               · rw [if_neg z])
          · skip
            refine ab_iload C dX8_product_55 rfl ?_
            refine ab_if_lt (tgt := 73) C dX8_product_57 rfl (fun h_57 => ?_) (fun h_57 => ?_)
            · skip
              refine ab_iconst C dX8_product_73 (by decide) ?_
              refine ab_iret (st := []) C r dX8_product_74 ?_
              refine ⟨_, rfl, hLO, H, ?_⟩
              unfold aProduct
              first
              | (rw [if_neg (fun z => hq z.1)]; done)
              | (rw [if_neg (fun z => hq2 z.2.1)]; done)
              | (rw [if_neg (fun z => hq3 ⟨by have := hq.1; have := hq2.1; omega, z.2.2.1, z.2.2.2.2.2⟩)]; done)
              | (rw [if_neg (fun z => by have := z.2.2.2; omega)]; done)
              | (have hp9 := pw_pos (d := d) n1
                 have hp8 := pw_pos (d := e) n1
                 by_cases z : (0 ≤ d ∧ d ≤ Lg a.n) ∧ (0 ≤ e ∧ e ≤ Lg a.n) ∧ d + e ≤ Lg a.n ∧ 0 ≤ i ∧ 0 ≤ j ∧ 0 ≤ x ∧ x < pw a.n (d + e)
                 · rw [if_pos z, if_pos]
                   first
                   | (left; unfold aWd; rw [nthF_out (by omega) (Or.inr (by unfold sNm at h_52; omega))]; decide)
                   | (right; unfold aWd; rw [nthF_out (by omega) (Or.inr (by unfold sNm at h_70; omega))]; decide)
                 · rw [if_neg z])
            · skip
              refine ab_iload C dX8_product_60 rfl ?_
              refine ab_aload_n C dX8_product_62 rfl rfl ?_
              refine gf_RX8_57 C s_t rfl dX8_product_63 ?_
              refine ab_iload_n C dX8_product_66 rfl rfl ?_
              refine ab_callV C cl_RX8_155 (m_X0_normalsOf B_t_algebra H.1 (by omega) (by omega) H.2.1.ok H.2.2.1 (by omega) (by omega)) (by decide) rfl s_t_algebra rfl rfl (Nat.le_of_ble_eq_true rfl) dX8_product_67 (ab_kI (fun r_67 M_67 h_67 => ?_))
              obtain ⟨hs1, hA1, hd1, hv1⟩ := h_67
              obtain ⟨z1, z2, z3, z4, z5, z6⟩ := H.2.1.eq
              rw [z3] at hv1
              subst hv1
              obtain ⟨hC1, hl1⟩ := H.alg B_t hs1 hA1
              have hLO := hLO.tr hl1
              clear H hs1 hA1 hd1 z1 z2 z3 z4 z5 z6
              have H := hC1
              clear A_t_alphabet hC1 hl1
              have A_t_alphabet := H.1
              refine ab_icmp_lt (tgt := 75) C dX8_product_70 rfl (fun h_70 => ?_) (fun h_70 => ?_)
              · skip
                refine ab_aload_n C dX8_product_75 rfl rfl ?_
                refine gf_RX8_10 C s_t rfl dX8_product_76 ?_
                refine ab_aload_n C dX8_product_79 rfl rfl ?_
                refine gf_RX8_57 C s_t rfl dX8_product_80 ?_
                refine ab_iload_n C dX8_product_83 rfl rfl ?_
                refine ab_iload_n C dX8_product_84 rfl rfl ?_
                refine ab_callV C cl_RX8_161 (m_X0_normalWord B_t_algebra H.1 (by omega) (by omega) H.2.1.ok H.2.2.1 (by omega) (by omega) (by omega)) (by decide) rfl s_t_algebra rfl rfl (Nat.le_of_ble_eq_true rfl) dX8_product_85 (ab_kI (fun r_85 M_85 h_85 => ?_))
                obtain ⟨hs1, hA1, hd1, hv1⟩ := h_85
                obtain ⟨z1, z2, z3, z4, z5, z6⟩ := H.2.1.eq
                rw [z1] at hv1
                subst hv1
                obtain ⟨hC1, hl1⟩ := H.alg B_t hs1 hA1
                have hLO := hLO.tr hl1
                clear H hs1 hA1 hd1 z1 z2 z3 z4 z5 z6
                have H := hC1
                clear A_t_alphabet hC1 hl1
                have A_t_alphabet := H.1
                have hp9 := pw_pos (d := d) n1
                obtain ⟨a0, a1, -⟩ := nthF_in (f := nlA (sld a.n a.p a.sz a.len a.num d)) (N := pw a.n d) (j := i) (by omega) (by omega) (by unfold sNm at h_52; omega)
                have hBd := sz_B n1 n2 hq.1 hq.2
                refine ab_iload_n C dX8_product_88 rfl rfl ?_
                refine ab_aload_n C dX8_product_89 rfl rfl ?_
                refine gf_RX8_57 C s_t rfl dX8_product_90 ?_
                refine ab_iload_n C dX8_product_93 rfl rfl ?_
                refine ab_iload C dX8_product_94 rfl ?_
                refine ab_callV C cl_RX8_161 (m_X0_normalWord B_t_algebra H.1 (by omega) (by omega) H.2.1.ok H.2.2.1 (by omega) (by omega) (by omega)) (by decide) rfl s_t_algebra rfl rfl (Nat.le_of_ble_eq_true rfl) dX8_product_96 (ab_kI (fun r_96 M_96 h_96 => ?_))
                obtain ⟨hs1, hA1, hd1, hv1⟩ := h_96
                obtain ⟨z1, z2, z3, z4, z5, z6⟩ := H.2.1.eq
                rw [z1] at hv1
                subst hv1
                obtain ⟨hC1, hl1⟩ := H.alg B_t hs1 hA1
                have hLO := hLO.tr hl1
                clear H hs1 hA1 hd1 z1 z2 z3 z4 z5 z6
                have H := hC1
                clear A_t_alphabet hC1 hl1
                have A_t_alphabet := H.1
                have hp8 := pw_pos (d := e) n1
                obtain ⟨b0, b1, -⟩ := nthF_in (f := nlA (sld a.n a.p a.sz a.len a.num e)) (N := pw a.n e) (j := j) (by omega) (by omega) (by unfold sNm at h_70; omega)
                have hBe := sz_B n1 n2 hq2.1 hq2.2
                have hj9 := join_B n1 hq.1 hq2.1 a0 a1 b0 b1
                have hm0 := Int.mul_nonneg a0 (show 0 ≤ pw a.n e by omega)
                refine ab_callV C cl_RX8_177 (m_X1_join B_t_alphabet A_t_alphabet a0 (by omega) (by omega) (by omega) b0 b1) (by decide) rfl s_t_alphabet rfl rfl (Nat.le_of_ble_eq_true rfl) dX8_product_99 (ab_kI (fun r_99 M_99 h_99 => ?_))
                obtain ⟨rfl, rfl⟩ := h_99
                refine ab_istore6 (lv := []) C rfl dX8_product_102 ?_
                refine ab_aload_n C dX8_product_104 rfl rfl ?_
                refine gf_RX8_57 C s_t rfl dX8_product_105 ?_
                refine ab_iload_n C dX8_product_108 rfl rfl ?_
                refine ab_iload_n C dX8_product_109 rfl rfl ?_
                refine ab_iadd C dX8_product_110 (by omega) ?_
                refine ab_iload C dX8_product_111 rfl ?_
                refine ab_iload C dX8_product_113 rfl ?_
                refine ab_callV C cl_RX8_164 (m_X0_numberInForm B_t_algebra H.1 (by omega) (by omega) H.2.1.ok H.2.2.1 (by omega) (by omega) (by omega) (by omega) (by omega) (by omega)) (by decide) rfl s_t_algebra rfl rfl (Nat.le_of_ble_eq_true rfl) dX8_product_115 (ab_kI (fun r_115 M_115 h_115 => ?_))
                obtain ⟨hs1, hA1, hd1, hv1⟩ := h_115
                obtain ⟨z1, z2, z3, z4, z5, z6⟩ := H.2.1.eq
                rw [z2] at hv1
                subst hv1
                obtain ⟨hC1, hl1⟩ := H.alg B_t hs1 hA1
                have hLO := hLO.tr hl1
                clear H hs1 hA1 hd1 z1 z2 z3 z4 z5 z6
                have H := hC1
                clear A_t_alphabet hC1 hl1
                have A_t_alphabet := H.1
                refine ab_iret (st := []) C r dX8_product_118 ?_
                refine ⟨_, rfl, hLO, H, ?_⟩
                unfold aProduct
                rw [if_pos ⟨hq, hq2, hq3.2.1, by omega, by omega, hq3.2.2⟩]
                unfold aWd
                rw [if_neg (by omega)]
              · skip
                refine ab_iconst C dX8_product_73 (by decide) ?_
                refine ab_iret (st := []) C r dX8_product_74 ?_
                refine ⟨_, rfl, hLO, H, ?_⟩
                unfold aProduct
                first
                | (rw [if_neg (fun z => hq z.1)]; done)
                | (rw [if_neg (fun z => hq2 z.2.1)]; done)
                | (rw [if_neg (fun z => hq3 ⟨by have := hq.1; have := hq2.1; omega, z.2.2.1, z.2.2.2.2.2⟩)]; done)
                | (rw [if_neg (fun z => by have := z.2.2.2; omega)]; done)
                | (have hp9 := pw_pos (d := d) n1
                   have hp8 := pw_pos (d := e) n1
                   by_cases z : (0 ≤ d ∧ d ≤ Lg a.n) ∧ (0 ≤ e ∧ e ≤ Lg a.n) ∧ d + e ≤ Lg a.n ∧ 0 ≤ i ∧ 0 ≤ j ∧ 0 ≤ x ∧ x < pw a.n (d + e)
                   · rw [if_pos z, if_pos]
                     first
                     | (left; unfold aWd; rw [nthF_out (by omega) (Or.inr (by unfold sNm at h_52; omega))]; decide)
                     | (right; unfold aWd; rw [nthF_out (by omega) (Or.inr (by unfold sNm at h_70; omega))]; decide)
                   · rw [if_neg z])
      · skip
        have hq3 := b01_eq h_34
        refine ab_iconst C dX8_product_37 (by decide) ?_
        refine ab_iret (st := []) C r dX8_product_38 ?_
        refine ⟨_, rfl, hLO, H, ?_⟩
        unfold aProduct
        first
        | (rw [if_neg (fun z => hq z.1)]; done)
        | (rw [if_neg (fun z => hq2 z.2.1)]; done)
        | (rw [if_neg (fun z => hq3 ⟨by have := hq.1; have := hq2.1; omega, z.2.2.1, z.2.2.2.2.2⟩)]; done)
        | (rw [if_neg (fun z => by have := z.2.2.2; omega)]; done)
        | (have hp9 := pw_pos (d := d) n1
           have hp8 := pw_pos (d := e) n1
           by_cases z : (0 ≤ d ∧ d ≤ Lg a.n) ∧ (0 ≤ e ∧ e ≤ Lg a.n) ∧ d + e ≤ Lg a.n ∧ 0 ≤ i ∧ 0 ≤ j ∧ 0 ≤ x ∧ x < pw a.n (d + e)
           · rw [if_pos z, if_pos]
             first
             | (left; unfold aWd; rw [nthF_out (by omega) (Or.inr (by unfold sNm at h_52; omega))]; decide)
             | (right; unfold aWd; rw [nthF_out (by omega) (Or.inr (by unfold sNm at h_70; omega))]; decide)
           · rw [if_neg z])
set_option maxRecDepth 100000 in
set_option maxHeartbeats 4000000 in
theorem m_X8_middle {D : va_G} {cA : Nat → ClassId} {S : List AbS} {M : AbM} {w al t rr u v g h b c k sh x0 x1 x2 x3 Bd : Nat} {a : St} (B_t : WL S w al t rr u v g h b c k sh x0 x1 x2 x3 Bd) (H : CRel a M w al t u g h b c x0 x1 x2 x3) {d : Int} : Meth yX8_middle cX8_middle 2 (some .int) rmX8_middle D cA S [vP w, vI d] M (qI fun q M2 => lo Bd M M2 ∧ CRel a M2 w al t u g h b c x0 x1 x2 x3 ∧ q = aMiddle a d) := by
  refine ab_intro (lv := [vP w, vI d]) (by decide +kernel) rfl (Nat.le_of_ble_eq_true rfl) ?_
  intro hO hargs K hKD hKA C r
  have C : Cx K cX8_middle RX8 rmX8_middle := C
  have i_d : inI d := hargs _ (List.mem_cons_of_mem _ (List.mem_cons_self))
  obtain ⟨⟨s_t, B_t_alphabet, B_t_tape, B_t_reader, B_t_lookedAt, B_t_spare, B_t_lawList, B_t_otherList, B_t_algebra, B_t_otherAlgebra, B_t_echelon, s_t_sheets, B_x0, B_x1, B_x2, B_x3⟩, hPl⟩ := id B_t
  obtain ⟨s_t_alphabet, -⟩ := id B_t_alphabet
  obtain ⟨s_t_tape, -⟩ := id B_t_tape
  obtain ⟨s_t_reader, -⟩ := id B_t_reader
  obtain ⟨s_t_lookedAt, -⟩ := id B_t_lookedAt
  obtain ⟨s_t_spare, -⟩ := id B_t_spare
  obtain ⟨s_t_lawList, -⟩ := id B_t_lawList
  obtain ⟨s_t_otherList, -⟩ := id B_t_otherList
  obtain ⟨s_t_algebra, -⟩ := id B_t_algebra
  obtain ⟨s_t_otherAlgebra, -⟩ := id B_t_otherAlgebra
  obtain ⟨s_t_echelon, -⟩ := id B_t_echelon
  have A_t_alphabet := H.1
  obtain ⟨⟨n1, n2, hPr⟩, -⟩ := id A_t_alphabet
  obtain ⟨p1, p2, -⟩ := id hPr
  have hLB := Lg_B a.n
  have hLO : lo Bd M M := lo.rf Bd M
  refine ab_aload_n C dX8_middle_0 rfl rfl ?_
  refine gf_RX8_10 C s_t rfl dX8_middle_1 ?_
  refine ab_iload_n C dX8_middle_4 rfl rfl ?_
  refine ab_callV C cl_RX8_152 (m_X1_hasLength B_t_alphabet A_t_alphabet) (by decide) rfl s_t_alphabet rfl rfl (Nat.le_of_ble_eq_true rfl) dX8_middle_5 (ab_kI (fun r_5 M_5 h_5 => ?_))
  obtain ⟨rfl, rfl⟩ := h_5
  refine ab_if_eq (tgt := 37) C dX8_middle_8 rfl (fun h_8 => ?_) (fun h_8 => ?_)
  · skip
    have hq := b01_eq h_8
    refine ab_iconst C dX8_middle_37 (by decide) ?_
    refine ab_iret (st := []) C r dX8_middle_38 ?_
    refine ⟨_, rfl, hLO, H, ?_⟩
    unfold aMiddle
    first | rw [if_pos (by omega)] | rw [if_neg (by omega)]
  · skip
    have hq := b01_ne h_8
    refine ab_iload_n C dX8_middle_11 rfl rfl ?_
    refine ab_aload_n C dX8_middle_12 rfl rfl ?_
    refine gf_RX8_10 C s_t rfl dX8_middle_13 ?_
    refine ab_callV C cl_RX8_98 (m_X1_longest B_t_alphabet A_t_alphabet) (by decide) rfl s_t_alphabet rfl rfl (Nat.le_of_ble_eq_true rfl) dX8_middle_16 (ab_kI (fun r_16 M_16 h_16 => ?_))
    obtain ⟨rfl, rfl⟩ := h_16
    refine ab_icmp_ge (tgt := 37) C dX8_middle_19 rfl (fun h_19 => ?_) (fun h_19 => ?_)
    · skip
      refine ab_iconst C dX8_middle_37 (by decide) ?_
      refine ab_iret (st := []) C r dX8_middle_38 ?_
      refine ⟨_, rfl, hLO, H, ?_⟩
      unfold aMiddle
      first | rw [if_pos (by omega)] | rw [if_neg (by omega)]
    · skip
      refine ab_aload_n C dX8_middle_22 rfl rfl ?_
      refine gf_RX8_57 C s_t rfl dX8_middle_23 ?_
      refine ab_iload_n C dX8_middle_26 rfl rfl ?_
      refine ab_aload_n C dX8_middle_27 rfl rfl ?_
      refine gf_RX8_67 C s_t rfl dX8_middle_28 ?_
      refine ab_callV C cl_RX8_180 (m_X0_middleOf B_t_algebra H.1 (by omega) (by omega) H.2.1.ok H.2.2.1 B_t_echelon (by omega) (by omega) (by omega)) (by decide) rfl s_t_algebra rfl rfl (Nat.le_of_ble_eq_true rfl) dX8_middle_31 (ab_kI (fun r_31 M_31 h_31 => ?_))
      obtain ⟨hs1, hA1, hv1⟩ := h_31
      obtain ⟨z1, z2, z3, z4, z5, z6⟩ := H.2.1.eq
      rw [z5] at hv1
      subst hv1
      obtain ⟨hC1, hl1⟩ := H.mid B_t hs1 hA1
      have hLO := hLO.tr hl1
      clear H
      have H := hC1
      refine ab_goto (tgt := 38) C dX8_middle_34 rfl ?_
      refine ab_iret (st := []) C r dX8_middle_38 ?_
      refine ⟨_, rfl, hLO, H, ?_⟩
      unfold aMiddle
      first | rw [if_pos (by omega)] | rw [if_neg (by omega)]
set_option maxRecDepth 100000 in
set_option maxHeartbeats 4000000 in
theorem m_X8_countLeastLaws {D : va_G} {cA : Nat → ClassId} {S : List AbS} {M : AbM} {w al t rr u v g h b c k sh x0 x1 x2 x3 Bd : Nat} {a : St} (B_t : WL S w al t rr u v g h b c k sh x0 x1 x2 x3 Bd) (H : CRel a M w al t u g h b c x0 x1 x2 x3) : Meth yX8_countLeastLaws cX8_countLeastLaws 3 (some .int) rmX8_countLeastLaws D cA S [vP w] M (qI fun q M2 => lo Bd M M2 ∧ CRel a M2 w al t u g h b c x0 x1 x2 x3 ∧ q = sumF (sLs a.n a.p a.sz a.len a.num) (Lg a.n + 1)) := by
  refine ab_intro (lv := [vP w, vU, vU]) (by decide +kernel) rfl (Nat.le_of_ble_eq_true rfl) ?_
  intro hO hargs K hKD hKA C r
  have C : Cx K cX8_countLeastLaws RX8 rmX8_countLeastLaws := C
  obtain ⟨⟨s_t, B_t_alphabet, B_t_tape, B_t_reader, B_t_lookedAt, B_t_spare, B_t_lawList, B_t_otherList, B_t_algebra, B_t_otherAlgebra, B_t_echelon, s_t_sheets, B_x0, B_x1, B_x2, B_x3⟩, hPl⟩ := id B_t
  obtain ⟨s_t_alphabet, -⟩ := id B_t_alphabet
  obtain ⟨s_t_tape, -⟩ := id B_t_tape
  obtain ⟨s_t_reader, -⟩ := id B_t_reader
  obtain ⟨s_t_lookedAt, -⟩ := id B_t_lookedAt
  obtain ⟨s_t_spare, -⟩ := id B_t_spare
  obtain ⟨s_t_lawList, -⟩ := id B_t_lawList
  obtain ⟨s_t_otherList, -⟩ := id B_t_otherList
  obtain ⟨s_t_algebra, -⟩ := id B_t_algebra
  obtain ⟨s_t_otherAlgebra, -⟩ := id B_t_otherAlgebra
  obtain ⟨s_t_echelon, -⟩ := id B_t_echelon
  have A_t_alphabet := H.1
  obtain ⟨⟨n1, n2, hPr⟩, -⟩ := id A_t_alphabet
  obtain ⟨p1, p2, -⟩ := id hPr
  have hLB := Lg_B a.n
  have hLO : lo Bd M M := lo.rf Bd M
  refine ab_iconst C dX8_countLeastLaws_0 (by decide) ?_
  refine ab_istore1 (lv := []) C rfl dX8_countLeastLaws_1 ?_
  refine ab_iconst C dX8_countLeastLaws_2 (by decide) ?_
  refine ab_istore2 (lv := []) C rfl dX8_countLeastLaws_3 ?_
  refine ab_lvs (lv2 := [vP w, vI (sumF (sLs a.n a.p a.sz a.len a.num) 0), vI 0]) (by rw [sumF_0]) ?_
  refine ab_loop (fun d (M5 : AbM) => AJ K S 4 [vP w, vI (sumF (sLs a.n a.p a.sz a.len a.num) d), vI d] [] M5) (fun d M5 => 0 ≤ d ∧ (0 ≤ sumF (sLs a.n a.p a.sz a.len a.num) d ∧ sumF (sLs a.n a.p a.sz a.len a.num) d ≤ 1000 * d) ∧ lo Bd M M5 ∧ CRel a M5 w al t u g h b c x0 x1 x2 x3) (Lg a.n + 1) ?_ 0 M (by omega) ⟨by omega, ⟨by rw [sumF_0]; omega, by rw [sumF_0]; omega⟩, hLO, H⟩
  · intro d M5 hd hI ih
    obtain ⟨d0, ⟨s0, s1⟩, hLO5, H5⟩ := hI
    rw [sumF_s d0] at ih
    refine ab_iload_n C dX8_countLeastLaws_4 rfl rfl ?_
    refine ab_aload_n C dX8_countLeastLaws_5 rfl rfl ?_
    refine gf_RX8_10 C s_t rfl dX8_countLeastLaws_6 ?_
    refine ab_callV C cl_RX8_98 (m_X1_longest B_t_alphabet H5.1) (by decide) rfl s_t_alphabet rfl rfl (Nat.le_of_ble_eq_true rfl) dX8_countLeastLaws_9 (ab_kI (fun r_9 M_9 h_9 => ?_))
    obtain ⟨rfl, rfl⟩ := h_9
    refine ab_icmp_gt (tgt := 32) C dX8_countLeastLaws_12 rfl (fun h_12 => ?_) (fun h_12 => ?_)
    · skip
      refine ab_iload_n C dX8_countLeastLaws_32 rfl rfl ?_
      refine ab_iret (st := []) C r dX8_countLeastLaws_33 ?_
      exact ⟨_, rfl, hLO5, H5, by rw [show d = Lg a.n + 1 by omega]⟩
    · skip
      refine ab_iload_n C dX8_countLeastLaws_15 rfl rfl ?_
      refine ab_aload_n C dX8_countLeastLaws_16 rfl rfl ?_
      refine gf_RX8_57 C s_t rfl dX8_countLeastLaws_17 ?_
      refine ab_iload_n C dX8_countLeastLaws_20 rfl rfl ?_
      refine ab_callV C cl_RX8_168 (m_X0_leastLawsOf B_t_algebra H5.1 (by omega) (by omega) H5.2.1.ok H5.2.2.1 (by omega) (by omega)) (by decide) rfl s_t_algebra rfl rfl (Nat.le_of_ble_eq_true rfl) dX8_countLeastLaws_21 (ab_kI (fun r_21 M_21 h_21 => ?_))
      obtain ⟨hs1, hA1, hd1, hv1⟩ := h_21
      obtain ⟨z1, z2, z3, z4, z5, z6⟩ := H5.2.1.eq
      rw [z4] at hv1
      subst hv1
      obtain ⟨hC1, hl1⟩ := H5.alg B_t hs1 hA1
      have hLO5 := hLO5.tr hl1
      clear H5 hs1 hA1 hd1 z1 z2 z3 z4 z5 z6
      have H5 := hC1
      clear hC1 hl1
      have sB := cntF_B (f := (fun e => lsA a.n e (sld a.n a.p a.sz a.len a.num (e - 1)) (sld a.n a.p a.sz a.len a.num e)) d) (N := pw a.n d) (by have := pw_pos (d := d) n1; omega)
      have eS : (sLs a.n a.p a.sz a.len a.num) d = cntF ((fun e => lsA a.n e (sld a.n a.p a.sz a.len a.num (e - 1)) (sld a.n a.p a.sz a.len a.num e)) d) (pw a.n d) := rfl
      have hB := sz_B n1 n2 d0 (show d ≤ Lg a.n by omega)
      refine ab_iadd C dX8_countLeastLaws_24 (by omega) ?_
      refine ab_istore1 (lv := []) C rfl dX8_countLeastLaws_25 ?_
      refine ab_iinc2 (lv := []) C rfl dX8_countLeastLaws_26 (by omega) ?_
      refine ab_goto (tgt := 4) C dX8_countLeastLaws_29 rfl ?_
      exact ih _ (by omega) ⟨by omega, ⟨by omega, by omega⟩, hLO5, H5⟩
set_option maxRecDepth 100000 in
set_option maxHeartbeats 4000000 in
theorem m_X8_count {D : va_G} {cA : Nat → ClassId} {S : List AbS} {M : AbM} {w al t rr u v g h b c k sh x0 x1 x2 x3 Bd : Nat} {a : St} (B_t : WL S w al t rr u v g h b c k sh x0 x1 x2 x3 Bd) (H : CRel a M w al t u g h b c x0 x1 x2 x3) {x : Int} : Meth yX8_count cX8_count 2 (some .int) rmX8_count D cA S [vP w, vI x] M (qI fun q M2 => lo Bd M M2 ∧ CRel a M2 w al t u g h b c x0 x1 x2 x3 ∧ q = aCount a x) := by
  refine ab_intro (lv := [vP w, vI x]) (by decide +kernel) rfl (Nat.le_of_ble_eq_true rfl) ?_
  intro hO hargs K hKD hKA C r
  have C : Cx K cX8_count RX8 rmX8_count := C
  have i_x : inI x := hargs _ (List.mem_cons_of_mem _ (List.mem_cons_self))
  obtain ⟨⟨s_t, B_t_alphabet, B_t_tape, B_t_reader, B_t_lookedAt, B_t_spare, B_t_lawList, B_t_otherList, B_t_algebra, B_t_otherAlgebra, B_t_echelon, s_t_sheets, B_x0, B_x1, B_x2, B_x3⟩, hPl⟩ := id B_t
  obtain ⟨s_t_alphabet, -⟩ := id B_t_alphabet
  obtain ⟨s_t_tape, -⟩ := id B_t_tape
  obtain ⟨s_t_reader, -⟩ := id B_t_reader
  obtain ⟨s_t_lookedAt, -⟩ := id B_t_lookedAt
  obtain ⟨s_t_spare, -⟩ := id B_t_spare
  obtain ⟨s_t_lawList, -⟩ := id B_t_lawList
  obtain ⟨s_t_otherList, -⟩ := id B_t_otherList
  obtain ⟨s_t_algebra, -⟩ := id B_t_algebra
  obtain ⟨s_t_otherAlgebra, -⟩ := id B_t_otherAlgebra
  obtain ⟨s_t_echelon, -⟩ := id B_t_echelon
  have A_t_alphabet := H.1
  obtain ⟨⟨n1, n2, hPr⟩, -⟩ := id A_t_alphabet
  obtain ⟨p1, p2, -⟩ := id hPr
  have hLB := Lg_B a.n
  have hLO : lo Bd M M := lo.rf Bd M
  refine ab_iload_n C dX8_count_0 rfl rfl ?_
  by_cases h_1 : 0 ≤ x ∧ x ≤ 5
  · have h_1b : x = 0 ∨ x = 1 ∨ x = 2 ∨ x = 3 ∨ x = 4 ∨ x = 5 := by omega
    rcases h_1b with h_1b | h_1b | h_1b | h_1b | h_1b | h_1b
    · refine ab_tableIn (off := 39) (tgt := 40) C dX8_count_1 (by omega) (by omega) (by rw [h_1b]; rfl) rfl ?_
      refine ab_aload_n C dX8_count_40 rfl rfl ?_
      refine gf_RX8_10 C s_t rfl dX8_count_41 ?_
      refine ab_callV C cl_RX8_140 (m_X1_letters B_t_alphabet A_t_alphabet) (by decide) rfl s_t_alphabet rfl rfl (Nat.le_of_ble_eq_true rfl) dX8_count_44 (ab_kI (fun r_44 M_44 h_44 => ?_))
      obtain ⟨rfl, rfl⟩ := h_44
      refine ab_iret (st := []) C r dX8_count_47 ?_
      refine ⟨_, rfl, hLO, H, ?_⟩
      rw [h_1b]
      rfl
    · refine ab_tableIn (off := 47) (tgt := 48) C dX8_count_1 (by omega) (by omega) (by rw [h_1b]; rfl) rfl ?_
      refine ab_aload_n C dX8_count_48 rfl rfl ?_
      refine gf_RX8_10 C s_t rfl dX8_count_49 ?_
      refine ab_callV C cl_RX8_143 (m_X1_prime B_t_alphabet A_t_alphabet) (by decide) rfl s_t_alphabet rfl rfl (Nat.le_of_ble_eq_true rfl) dX8_count_52 (ab_kI (fun r_52 M_52 h_52 => ?_))
      obtain ⟨rfl, rfl⟩ := h_52
      refine ab_iret (st := []) C r dX8_count_55 ?_
      refine ⟨_, rfl, hLO, H, ?_⟩
      rw [h_1b]
      rfl
    · refine ab_tableIn (off := 55) (tgt := 56) C dX8_count_1 (by omega) (by omega) (by rw [h_1b]; rfl) rfl ?_
      refine ab_aload_n C dX8_count_56 rfl rfl ?_
      refine gf_RX8_10 C s_t rfl dX8_count_57 ?_
      refine ab_callV C cl_RX8_98 (m_X1_longest B_t_alphabet A_t_alphabet) (by decide) rfl s_t_alphabet rfl rfl (Nat.le_of_ble_eq_true rfl) dX8_count_60 (ab_kI (fun r_60 M_60 h_60 => ?_))
      obtain ⟨rfl, rfl⟩ := h_60
      refine ab_iret (st := []) C r dX8_count_63 ?_
      refine ⟨_, rfl, hLO, H, ?_⟩
      rw [h_1b]
      rfl
    · refine ab_tableIn (off := 63) (tgt := 64) C dX8_count_1 (by omega) (by omega) (by rw [h_1b]; rfl) rfl ?_
      refine ab_aload_n C dX8_count_64 rfl rfl ?_
      refine gf_RX8_45 C s_t rfl dX8_count_65 ?_
      refine ab_callV C cl_RX8_121 (m_X3_size B_t_lawList) (by decide) rfl s_t_lawList rfl rfl (Nat.le_of_ble_eq_true rfl) dX8_count_68 (ab_kI (fun r_68 M_68 h_68 => ?_))
      obtain ⟨rfl, rfl⟩ := h_68
      refine ab_iret (st := []) C r dX8_count_71 ?_
      refine ⟨_, rfl, hLO, H, ?_⟩
      rw [h_1b]
      exact H.2.1.1
    · refine ab_tableIn (off := 71) (tgt := 72) C dX8_count_1 (by omega) (by omega) (by rw [h_1b]; rfl) rfl ?_
      refine ab_aload_n C dX8_count_72 rfl rfl ?_
      refine ab_callV C cl_RX8_146 (m_X8_countLeastLaws B_t H) (by decide) rfl s_t rfl rfl (Nat.le_of_ble_eq_true rfl) dX8_count_73 (ab_kI (fun r_73 M_73 h_73 => ?_))
      obtain ⟨hl1, H1, hv1⟩ := h_73
      subst hv1
      refine ab_iret (st := []) C r dX8_count_76 ?_
      refine ⟨_, rfl, hl1, H1, ?_⟩
      rw [h_1b]
      rfl
    · refine ab_tableIn (off := 76) (tgt := 77) C dX8_count_1 (by omega) (by omega) (by rw [h_1b]; rfl) rfl ?_
      refine ab_aload_n C dX8_count_77 rfl rfl ?_
      refine gf_RX8_35 C s_t rfl dX8_count_78 ?_
      refine ab_callV C cl_RX8_149 (m_X6_terms B_t_lookedAt) (by decide) rfl s_t_lookedAt rfl rfl (Nat.le_of_ble_eq_true rfl) dX8_count_81 (ab_kI (fun r_81 M_81 h_81 => ?_))
      obtain ⟨rfl, rfl⟩ := h_81
      refine ab_iret (st := []) C r dX8_count_84 ?_
      refine ⟨_, rfl, hLO, H, ?_⟩
      rw [h_1b]
      show _ = cntF a.sum 364
      exact cntF_congr (fun j z0 z9 => by rw [(H.2.2.2.2.1.1 j z0 z9).1])
  · refine ab_tableOut (tgt := 85) C dX8_count_1 (by omega) rfl ?_
    refine ab_iconst C dX8_count_85 (by decide) ?_
    refine ab_iret (st := []) C r dX8_count_86 ?_
    refine ⟨_, rfl, hLO, H, ?_⟩
    unfold aCount
    rw [if_neg (by omega), if_neg (by omega), if_neg (by omega), if_neg (by omega), if_neg (by omega), if_neg (by omega)]
set_option maxRecDepth 100000 in
set_option maxHeartbeats 4000000 in
theorem m_X8_told {D : va_G} {cA : Nat → ClassId} {S : List AbS} {M : AbM} {w al t rr u v g h b c k sh x0 x1 x2 x3 Bd : Nat} {a : St} (B_t : WL S w al t rr u v g h b c k sh x0 x1 x2 x3 Bd) (H : CRel a M w al t u g h b c x0 x1 x2 x3) {l x : Int} : Meth yX8_told cX8_told 4 (some .int) rmX8_told D cA S [vP w, vI l, vI x] M (qI fun q M2 => lo Bd M M2 ∧ CRel a M2 w al t u g h b c x0 x1 x2 x3 ∧ q = aTold a l x) := by
  refine ab_intro (lv := [vP w, vI l, vI x, vU]) (by decide +kernel) rfl (Nat.le_of_ble_eq_true rfl) ?_
  intro hO hargs K hKD hKA C r
  have C : Cx K cX8_told RX8 rmX8_told := C
  have i_l : inI l := hargs _ (List.mem_cons_of_mem _ (List.mem_cons_self))
  have i_x : inI x := hargs _ (List.mem_cons_of_mem _ (List.mem_cons_of_mem _ (List.mem_cons_self)))
  obtain ⟨⟨s_t, B_t_alphabet, B_t_tape, B_t_reader, B_t_lookedAt, B_t_spare, B_t_lawList, B_t_otherList, B_t_algebra, B_t_otherAlgebra, B_t_echelon, s_t_sheets, B_x0, B_x1, B_x2, B_x3⟩, hPl⟩ := id B_t
  obtain ⟨s_t_alphabet, -⟩ := id B_t_alphabet
  obtain ⟨s_t_tape, -⟩ := id B_t_tape
  obtain ⟨s_t_reader, -⟩ := id B_t_reader
  obtain ⟨s_t_lookedAt, -⟩ := id B_t_lookedAt
  obtain ⟨s_t_spare, -⟩ := id B_t_spare
  obtain ⟨s_t_lawList, -⟩ := id B_t_lawList
  obtain ⟨s_t_otherList, -⟩ := id B_t_otherList
  obtain ⟨s_t_algebra, -⟩ := id B_t_algebra
  obtain ⟨s_t_otherAlgebra, -⟩ := id B_t_otherAlgebra
  obtain ⟨s_t_echelon, -⟩ := id B_t_echelon
  have A_t_alphabet := H.1
  obtain ⟨⟨n1, n2, hPr⟩, -⟩ := id A_t_alphabet
  obtain ⟨p1, p2, -⟩ := id hPr
  have hLB := Lg_B a.n
  have hLO : lo Bd M M := lo.rf Bd M
  obtain ⟨l6, ⟨z0, z8⟩, hl⟩ := id H.2.1
  refine ab_iload_n C dX8_told_0 rfl rfl ?_
  refine ab_if_lt (tgt := 15) C dX8_told_1 rfl (fun h_1 => ?_) (fun h_1 => ?_)
  · skip
    refine ab_iconst C dX8_told_15 (by decide) ?_
    refine ab_iret (st := []) C r dX8_told_16 ?_
    refine ⟨_, rfl, hLO, H, ?_⟩
    unfold aTold
    rw [if_neg (fun z => by omega)]
  · skip
    refine ab_iload_n C dX8_told_4 rfl rfl ?_
    refine ab_aload_n C dX8_told_5 rfl rfl ?_
    refine gf_RX8_45 C s_t rfl dX8_told_6 ?_
    refine ab_callV C cl_RX8_121 (m_X3_size B_t_lawList) (by decide) rfl s_t_lawList rfl rfl (Nat.le_of_ble_eq_true rfl) dX8_told_9 (ab_kI (fun r_9 M_9 h_9 => ?_))
    obtain ⟨rfl, rfl⟩ := h_9
    rw [l6]
    refine ab_icmp_lt (tgt := 17) C dX8_told_12 rfl (fun h_12 => ?_) (fun h_12 => ?_)
    · skip
      have hll := hl l (by omega) (by omega)
      have h81 := law_len n1 n2 hll.2.1.1 hll.2.1.2
      refine ab_aload_n C dX8_told_17 rfl rfl ?_
      refine gf_RX8_45 C s_t rfl dX8_told_18 ?_
      refine ab_iload_n C dX8_told_21 rfl rfl ?_
      refine ab_callV C cl_RX8_126 (m_X3_lengthOf B_t_lawList (by omega) (by omega)) (by decide) rfl s_t_lawList rfl rfl (Nat.le_of_ble_eq_true rfl) dX8_told_22 (ab_kI (fun r_22 M_22 h_22 => ?_))
      obtain ⟨rfl, rfl⟩ := h_22
      rw [hll.1]
      refine ab_istore3 (lv := []) C rfl dX8_told_25 ?_
      refine ab_iload_n C dX8_told_26 rfl rfl ?_
      refine ab_iconst C dX8_told_27 (by decide) ?_
      refine ab_icmp_ne (tgt := 33) C dX8_told_28 rfl (fun h_28 => ?_) (fun h_28 => ?_)
      · skip
        refine ab_aload_n C dX8_told_33 rfl rfl ?_
        refine gf_RX8_10 C s_t rfl dX8_told_34 ?_
        refine ab_iload_n C dX8_told_37 rfl rfl ?_
        refine ab_iload_n C dX8_told_38 rfl rfl ?_
        refine ab_callV C cl_RX8_132 (m_X1_hasWord B_t_alphabet A_t_alphabet) (by decide) rfl s_t_alphabet rfl rfl (Nat.le_of_ble_eq_true rfl) dX8_told_39 (ab_kI (fun r_39 M_39 h_39 => ?_))
        obtain ⟨rfl, rfl⟩ := h_39
        refine ab_if_eq (tgt := 57) C dX8_told_42 rfl (fun h_42 => ?_) (fun h_42 => ?_)
        · skip
          have hq := b01_eq h_42
          refine ab_iconst C dX8_told_57 (by decide) ?_
          refine ab_iret (st := []) C r dX8_told_58 ?_
          refine ⟨_, rfl, hLO, H, ?_⟩
          unfold aTold
          first
          | (rw [if_pos ⟨⟨by omega, by omega⟩, by omega, hq.2.2.2⟩, if_neg (by omega)]; exact (hll.2.2 x hq.2.2.1 hq.2.2.2).1)
          | (rw [if_neg]; intro z; exact hq ⟨by omega, by omega, by have := z.2.1; omega, z.2.2⟩)
        · skip
          have hq := b01_ne h_42
          refine ab_aload_n C dX8_told_45 rfl rfl ?_
          refine gf_RX8_45 C s_t rfl dX8_told_46 ?_
          refine ab_iload_n C dX8_told_49 rfl rfl ?_
          refine ab_iload_n C dX8_told_50 rfl rfl ?_
          refine ab_callV C cl_RX8_136 (m_X3_numberOf B_t_lawList (by omega) (by omega) (by omega) (by omega)) (by decide) rfl s_t_lawList rfl rfl (Nat.le_of_ble_eq_true rfl) dX8_told_51 (ab_kI (fun r_51 M_51 h_51 => ?_))
          obtain ⟨rfl, rfl⟩ := h_51
          refine ab_goto (tgt := 58) C dX8_told_54 rfl ?_
          refine ab_iret (st := []) C r dX8_told_58 ?_
          refine ⟨_, rfl, hLO, H, ?_⟩
          unfold aTold
          first
          | (rw [if_pos ⟨⟨by omega, by omega⟩, by omega, hq.2.2.2⟩, if_neg (by omega)]; exact (hll.2.2 x hq.2.2.1 hq.2.2.2).1)
          | (rw [if_neg]; intro z; exact hq ⟨by omega, by omega, by have := z.2.1; omega, z.2.2⟩)
      · skip
        refine ab_iload_n C dX8_told_31 rfl rfl ?_
        refine ab_iret (st := []) C r dX8_told_32 ?_
        refine ⟨_, rfl, hLO, H, ?_⟩
        unfold aTold
        have hp9 := pw_pos (d := a.len l) n1
        rw [if_pos ⟨⟨by omega, by omega⟩, by omega, by omega⟩, if_pos (by omega)]
    · skip
      refine ab_iconst C dX8_told_15 (by decide) ?_
      refine ab_iret (st := []) C r dX8_told_16 ?_
      refine ⟨_, rfl, hLO, H, ?_⟩
      unfold aTold
      rw [if_neg (fun z => by omega)]
set_option maxRecDepth 100000 in
set_option maxHeartbeats 4000000 in
theorem m_X8_part {D : va_G} {cA : Nat → ClassId} {S : List AbS} {M : AbM} {w al t rr u v g h b c k sh x0 x1 x2 x3 Bd : Nat} {a : St} (B_t : WL S w al t rr u v g h b c k sh x0 x1 x2 x3 Bd) (H : CRel a M w al t u g h b c x0 x1 x2 x3) {d x : Int} : Meth yX8_part cX8_part 3 (some .int) rmX8_part D cA S [vP w, vI d, vI x] M (qI fun q M2 => lo Bd M M2 ∧ CRel a M2 w al t u g h b c x0 x1 x2 x3 ∧ q = aPart a d x) := by
  refine ab_intro (lv := [vP w, vI d, vI x]) (by decide +kernel) rfl (Nat.le_of_ble_eq_true rfl) ?_
  intro hO hargs K hKD hKA C r
  have C : Cx K cX8_part RX8 rmX8_part := C
  have i_d : inI d := hargs _ (List.mem_cons_of_mem _ (List.mem_cons_self))
  have i_x : inI x := hargs _ (List.mem_cons_of_mem _ (List.mem_cons_of_mem _ (List.mem_cons_self)))
  obtain ⟨⟨s_t, B_t_alphabet, B_t_tape, B_t_reader, B_t_lookedAt, B_t_spare, B_t_lawList, B_t_otherList, B_t_algebra, B_t_otherAlgebra, B_t_echelon, s_t_sheets, B_x0, B_x1, B_x2, B_x3⟩, hPl⟩ := id B_t
  obtain ⟨s_t_alphabet, -⟩ := id B_t_alphabet
  obtain ⟨s_t_tape, -⟩ := id B_t_tape
  obtain ⟨s_t_reader, -⟩ := id B_t_reader
  obtain ⟨s_t_lookedAt, -⟩ := id B_t_lookedAt
  obtain ⟨s_t_spare, -⟩ := id B_t_spare
  obtain ⟨s_t_lawList, -⟩ := id B_t_lawList
  obtain ⟨s_t_otherList, -⟩ := id B_t_otherList
  obtain ⟨s_t_algebra, -⟩ := id B_t_algebra
  obtain ⟨s_t_otherAlgebra, -⟩ := id B_t_otherAlgebra
  obtain ⟨s_t_echelon, -⟩ := id B_t_echelon
  have A_t_alphabet := H.1
  obtain ⟨⟨n1, n2, hPr⟩, -⟩ := id A_t_alphabet
  obtain ⟨p1, p2, -⟩ := id hPr
  have hLB := Lg_B a.n
  have hLO : lo Bd M M := lo.rf Bd M
  refine ab_aload_n C dX8_part_0 rfl rfl ?_
  refine gf_RX8_10 C s_t rfl dX8_part_1 ?_
  refine ab_iload_n C dX8_part_4 rfl rfl ?_
  refine ab_iload_n C dX8_part_5 rfl rfl ?_
  refine ab_callV C cl_RX8_132 (m_X1_hasWord B_t_alphabet A_t_alphabet) (by decide) rfl s_t_alphabet rfl rfl (Nat.le_of_ble_eq_true rfl) dX8_part_6 (ab_kI (fun r_6 M_6 h_6 => ?_))
  obtain ⟨rfl, rfl⟩ := h_6
  refine ab_if_eq (tgt := 24) C dX8_part_9 rfl (fun h_9 => ?_) (fun h_9 => ?_)
  · skip
    have hq := b01_eq h_9
    refine ab_iconst C dX8_part_24 (by decide) ?_
    refine ab_iret (st := []) C r dX8_part_25 ?_
    refine ⟨_, rfl, hLO, H, ?_⟩
    unfold aPart
    first
    | (rw [if_pos hq]; have hB := sz_B n1 n2 hq.1 hq.2.1; exact (H.2.2.2.2.1.1 _ (by omega) (by omega)).1)
    | rw [if_neg hq]
  · skip
    have hq := b01_ne h_9
    refine ab_aload_n C dX8_part_12 rfl rfl ?_
    refine gf_RX8_35 C s_t rfl dX8_part_13 ?_
    refine ab_iload_n C dX8_part_16 rfl rfl ?_
    refine ab_iload_n C dX8_part_17 rfl rfl ?_
    refine ab_callV C cl_RX8_197 (m_X6_numberOf B_t_lookedAt A_t_alphabet (by omega) (by omega) (by omega) (by omega) (by omega)) (by decide) rfl s_t_lookedAt rfl rfl (Nat.le_of_ble_eq_true rfl) dX8_part_18 (ab_kI (fun r_18 M_18 h_18 => ?_))
    obtain ⟨rfl, rfl⟩ := h_18
    refine ab_goto (tgt := 25) C dX8_part_21 rfl ?_
    refine ab_iret (st := []) C r dX8_part_25 ?_
    refine ⟨_, rfl, hLO, H, ?_⟩
    unfold aPart
    first
    | (rw [if_pos hq]; have hB := sz_B n1 n2 hq.1 hq.2.1; exact (H.2.2.2.2.1.1 _ (by omega) (by omega)).1)
    | rw [if_neg hq]
