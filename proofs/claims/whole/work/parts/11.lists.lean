set_option maxRecDepth 100000 in
set_option maxHeartbeats 4000000 in
theorem m_X3_size {D : va_G} {cA : Nat → ClassId} {S : List AbS} {M : AbM} {g : Nat} (B_t : shLL S g) : Meth yX3_size cX3_size 1 (some .int) rmX3_size D cA S [vP g] M (qI fun r M2 => M = M2 ∧ M g 2 = r) := by
  refine ab_intro (lv := [vP g]) (by decide +kernel) rfl (Nat.le_of_ble_eq_true rfl) ?_
  intro hO hargs K hKD hKA C r
  have C : Cx K cX3_size RX3 rmX3_size := C
  obtain ⟨s_t, s_t_lengths, s_t_numbers⟩ := id B_t
  refine ab_aload_n C dX3_size_0 rfl rfl ?_
  refine gf_RX3_18 C s_t rfl dX3_size_1 ?_
  refine ab_iret (st := []) C r dX3_size_4 ?_
  exact ⟨_, rfl, rfl, rfl⟩
set_option maxRecDepth 100000 in
set_option maxHeartbeats 4000000 in
theorem m_X3_clear {D : va_G} {cA : Nat → ClassId} {S : List AbS} {M : AbM} {g : Nat} (B_t : shLL S g) : Meth yX3_clear cX3_clear 1 none rmX3_clear D cA S [vP g] M (qV fun M2 => up M g 2 0 = M2) := by
  refine ab_intro (lv := [vP g]) (by decide +kernel) rfl (Nat.le_of_ble_eq_true rfl) ?_
  intro hO hargs K hKD hKA C r
  have C : Cx K cX3_clear RX3 rmX3_clear := C
  obtain ⟨s_t, s_t_lengths, s_t_numbers⟩ := id B_t
  refine ab_aload_n C dX3_clear_0 rfl rfl ?_
  refine ab_iconst C dX3_clear_1 (by decide) ?_
  refine pf_RX3_18 C s_t rfl dX3_clear_2 ?_
  refine ab_vret (st := []) C r dX3_clear_5 ?_
  exact ⟨rfl, rfl⟩
set_option maxRecDepth 100000 in
set_option maxHeartbeats 4000000 in
theorem m_X3_open {D : va_G} {cA : Nat → ClassId} {S : List AbS} {M : AbM} {g : Nat} (B_t : shLL S g) {x : Int} (h0 : 0 ≤ M g 2) (h1 : M g 2 < 9) : Meth yX3_open cX3_open 2 none rmX3_open D cA S [vP g, vI x] M (qV fun M2 => up (up M (g + 1) (M g 2) x) g 2 (M g 2 + 1) = M2) := by
  refine ab_intro (lv := [vP g, vI x]) (by decide +kernel) rfl (Nat.le_of_ble_eq_true rfl) ?_
  intro hO hargs K hKD hKA C r
  have C : Cx K cX3_open RX3 rmX3_open := C
  have i_x : inI x := hargs _ (List.mem_cons_of_mem _ (List.mem_cons_self))
  obtain ⟨s_t, s_t_lengths, s_t_numbers⟩ := id B_t
  refine ab_aload_n C dX3_open_0 rfl rfl ?_
  refine gf_RX3_18 C s_t rfl dX3_open_1 ?_
  refine ab_bipush C dX3_open_4 (by decide) (by decide +kernel) ?_
  refine ab_icmp_ge (tgt := 29) C dX3_open_6 rfl (fun h_6 => ?_) (fun h_6 => ?_)
  · skip
    exfalso; omega
  · skip
    refine ab_aload_n C dX3_open_9 rfl rfl ?_
    refine gf_RX3_9 C s_t rfl dX3_open_10 ?_
    refine ab_aload_n C dX3_open_13 rfl rfl ?_
    refine gf_RX3_18 C s_t rfl dX3_open_14 ?_
    refine ab_iload_n C dX3_open_17 rfl rfl ?_
    refine ab_iastore C s_t_lengths (by omega) (by omega) dX3_open_18 ?_
    refine ab_aload_n C dX3_open_19 rfl rfl ?_
    refine ab_dup C dX3_open_20 rfl ?_
    refine gf_RX3_18 C s_t rfl dX3_open_21 ?_
    rw [up_row (show g ≠ g + 1 by omega)]
    refine ab_iconst C dX3_open_24 (by decide) ?_
    refine ab_iadd C dX3_open_25 (by omega) ?_
    refine pf_RX3_18 C s_t rfl dX3_open_26 ?_
    refine ab_vret (st := []) C r dX3_open_29 ?_
    exact ⟨rfl, rfl⟩
set_option maxRecDepth 100000 in
set_option maxHeartbeats 4000000 in
theorem m_X3_set {D : va_G} {cA : Nat → ClassId} {S : List AbS} {M : AbM} {g : Nat} (B_t : shLL S g) {w x : Int} (h0 : 0 < M g 2) (h1 : M g 2 ≤ 9) (w0 : 0 ≤ w) (w1 : w < 81) : Meth yX3_set cX3_set 3 none rmX3_set D cA S [vP g, vI w, vI x] M (qV fun M2 => up M (g + 2) ((M g 2 - 1) * 81 + w) x = M2) := by
  refine ab_intro (lv := [vP g, vI w, vI x]) (by decide +kernel) rfl (Nat.le_of_ble_eq_true rfl) ?_
  intro hO hargs K hKD hKA C r
  have C : Cx K cX3_set RX3 rmX3_set := C
  have i_w : inI w := hargs _ (List.mem_cons_of_mem _ (List.mem_cons_self))
  have i_x : inI x := hargs _ (List.mem_cons_of_mem _ (List.mem_cons_of_mem _ (List.mem_cons_self)))
  obtain ⟨s_t, s_t_lengths, s_t_numbers⟩ := id B_t
  refine ab_aload_n C dX3_set_0 rfl rfl ?_
  refine gf_RX3_18 C s_t rfl dX3_set_1 ?_
  refine ab_if_le (tgt := 34) C dX3_set_4 rfl (fun h_4 => ?_) (fun h_4 => ?_)
  · skip
    exfalso; omega
  · skip
    refine ab_iload_n C dX3_set_7 rfl rfl ?_
    refine ab_if_lt (tgt := 34) C dX3_set_8 rfl (fun h_8 => ?_) (fun h_8 => ?_)
    · skip
      exfalso; omega
    · skip
      refine ab_iload_n C dX3_set_11 rfl rfl ?_
      refine ab_bipush C dX3_set_12 (by decide) (by decide +kernel) ?_
      refine ab_icmp_ge (tgt := 34) C dX3_set_14 rfl (fun h_14 => ?_) (fun h_14 => ?_)
      · skip
        exfalso; omega
      · skip
        refine ab_aload_n C dX3_set_17 rfl rfl ?_
        refine gf_RX3_15 C s_t rfl dX3_set_18 ?_
        refine ab_aload_n C dX3_set_21 rfl rfl ?_
        refine gf_RX3_18 C s_t rfl dX3_set_22 ?_
        refine ab_iconst C dX3_set_25 (by decide) ?_
        refine ab_isub C dX3_set_26 (by omega) ?_
        refine ab_bipush C dX3_set_27 (by decide) (by decide +kernel) ?_
        refine ab_imul C dX3_set_29 (by omega) ?_
        refine ab_iload_n C dX3_set_30 rfl rfl ?_
        refine ab_iadd C dX3_set_31 (by omega) ?_
        refine ab_iload_n C dX3_set_32 rfl rfl ?_
        refine ab_iastore C s_t_numbers (by omega) (by omega) dX3_set_33 ?_
        refine ab_vret (st := []) C r dX3_set_34 ?_
        exact ⟨rfl, rfl⟩
set_option maxRecDepth 100000 in
set_option maxHeartbeats 4000000 in
theorem m_X3_removeLatest {D : va_G} {cA : Nat → ClassId} {S : List AbS} {M : AbM} {g : Nat} (B_t : shLL S g) (h0 : 0 < M g 2) : Meth yX3_removeLatest cX3_removeLatest 1 none rmX3_removeLatest D cA S [vP g] M (qV fun M2 => up M g 2 (M g 2 - 1) = M2) := by
  refine ab_intro (lv := [vP g]) (by decide +kernel) rfl (Nat.le_of_ble_eq_true rfl) ?_
  intro hO hargs K hKD hKA C r
  have C : Cx K cX3_removeLatest RX3 rmX3_removeLatest := C
  obtain ⟨s_t, s_t_lengths, s_t_numbers⟩ := id B_t
  have hr := ab_okI hO s_t 2
  refine ab_aload_n C dX3_removeLatest_0 rfl rfl ?_
  refine gf_RX3_18 C s_t rfl dX3_removeLatest_1 ?_
  refine ab_if_le (tgt := 17) C dX3_removeLatest_4 rfl (fun h_4 => ?_) (fun h_4 => ?_)
  · skip
    exfalso; omega
  · skip
    refine ab_aload_n C dX3_removeLatest_7 rfl rfl ?_
    refine ab_dup C dX3_removeLatest_8 rfl ?_
    refine gf_RX3_18 C s_t rfl dX3_removeLatest_9 ?_
    refine ab_iconst C dX3_removeLatest_12 (by decide) ?_
    refine ab_isub C dX3_removeLatest_13 (by omega) ?_
    refine pf_RX3_18 C s_t rfl dX3_removeLatest_14 ?_
    refine ab_vret (st := []) C r dX3_removeLatest_17 ?_
    exact ⟨rfl, rfl⟩
set_option maxRecDepth 100000 in
set_option maxHeartbeats 4000000 in
theorem m_X3_lengthOf {D : va_G} {cA : Nat → ClassId} {S : List AbS} {M : AbM} {g : Nat} (B_t : shLL S g) {i : Int} (h0 : 0 ≤ i) (h1 : i < 9) : Meth yX3_lengthOf cX3_lengthOf 2 (some .int) rmX3_lengthOf D cA S [vP g, vI i] M (qI fun r M2 => M = M2 ∧ M (g + 1) i = r) := by
  refine ab_intro (lv := [vP g, vI i]) (by decide +kernel) rfl (Nat.le_of_ble_eq_true rfl) ?_
  intro hO hargs K hKD hKA C r
  have C : Cx K cX3_lengthOf RX3 rmX3_lengthOf := C
  have i_i : inI i := hargs _ (List.mem_cons_of_mem _ (List.mem_cons_self))
  obtain ⟨s_t, s_t_lengths, s_t_numbers⟩ := id B_t
  refine ab_aload_n C dX3_lengthOf_0 rfl rfl ?_
  refine gf_RX3_9 C s_t rfl dX3_lengthOf_1 ?_
  refine ab_iload_n C dX3_lengthOf_4 rfl rfl ?_
  refine ab_iaload C s_t_lengths (by omega) (by omega) dX3_lengthOf_5 ?_
  refine ab_iret (st := []) C r dX3_lengthOf_6 ?_
  exact ⟨_, rfl, rfl, rfl⟩
set_option maxRecDepth 100000 in
set_option maxHeartbeats 4000000 in
theorem m_X3_numberOf {D : va_G} {cA : Nat → ClassId} {S : List AbS} {M : AbM} {g : Nat} (B_t : shLL S g) {i w : Int} (h0 : 0 ≤ i) (h1 : i < 9) (w0 : 0 ≤ w) (w1 : w < 81) : Meth yX3_numberOf cX3_numberOf 3 (some .int) rmX3_numberOf D cA S [vP g, vI i, vI w] M (qI fun r M2 => M = M2 ∧ M (g + 2) (i * 81 + w) = r) := by
  refine ab_intro (lv := [vP g, vI i, vI w]) (by decide +kernel) rfl (Nat.le_of_ble_eq_true rfl) ?_
  intro hO hargs K hKD hKA C r
  have C : Cx K cX3_numberOf RX3 rmX3_numberOf := C
  have i_i : inI i := hargs _ (List.mem_cons_of_mem _ (List.mem_cons_self))
  have i_w : inI w := hargs _ (List.mem_cons_of_mem _ (List.mem_cons_of_mem _ (List.mem_cons_self)))
  obtain ⟨s_t, s_t_lengths, s_t_numbers⟩ := id B_t
  refine ab_aload_n C dX3_numberOf_0 rfl rfl ?_
  refine gf_RX3_15 C s_t rfl dX3_numberOf_1 ?_
  refine ab_iload_n C dX3_numberOf_4 rfl rfl ?_
  refine ab_bipush C dX3_numberOf_5 (by decide) (by decide +kernel) ?_
  refine ab_imul C dX3_numberOf_7 (by omega) ?_
  refine ab_iload_n C dX3_numberOf_8 rfl rfl ?_
  refine ab_iadd C dX3_numberOf_9 (by omega) ?_
  refine ab_iaload C s_t_numbers (by omega) (by omega) dX3_numberOf_10 ?_
  refine ab_iret (st := []) C r dX3_numberOf_11 ?_
  exact ⟨_, rfl, rfl, rfl⟩
set_option maxRecDepth 100000 in
set_option maxHeartbeats 4000000 in
theorem m_X3_allHaveLength {D : va_G} {cA : Nat → ClassId} {S : List AbS} {M : AbM} {g : Nat} (B_t : shLL S g) {d : Int} (h0 : 0 ≤ M g 2) (h1 : M g 2 ≤ 9) : Meth yX3_allHaveLength cX3_allHaveLength 3 (some .boolean) rmX3_allHaveLength D cA S [vP g, vI d] M (qI fun r M2 => M = M2 ∧ (if cntF (fun i => M (g + 1) i - d) (M g 2) = 0 then 1 else 0) = r) := by
  refine ab_intro (lv := [vP g, vI d, vU]) (by decide +kernel) rfl (Nat.le_of_ble_eq_true rfl) ?_
  intro hO hargs K hKD hKA C r
  have C : Cx K cX3_allHaveLength RX3 rmX3_allHaveLength := C
  have i_d : inI d := hargs _ (List.mem_cons_of_mem _ (List.mem_cons_self))
  obtain ⟨s_t, s_t_lengths, s_t_numbers⟩ := id B_t
  refine ab_iconst C dX3_allHaveLength_0 (by decide) ?_
  refine ab_istore2 (lv := []) C rfl dX3_allHaveLength_1 ?_
  refine ab_loop (fun i (_ : Unit) => AJ K S 2 [vP g, vI d, vI i] [] M) (fun i _ => 0 ≤ i ∧ cntF (fun i => M (g + 1) i - d) i = 0) (M g 2) ?_ 0 () (by omega) ⟨by omega, rfl⟩
  · intro i _ hi hI ih
    obtain ⟨i0, hc⟩ := hI
    rw [cntF_s i0, hc] at ih
    refine ab_iload_n C dX3_allHaveLength_2 rfl rfl ?_
    refine ab_aload_n C dX3_allHaveLength_3 rfl rfl ?_
    refine gf_RX3_18 C s_t rfl dX3_allHaveLength_4 ?_
    refine ab_icmp_ge (tgt := 28) C dX3_allHaveLength_7 rfl (fun h_7 => ?_) (fun h_7 => ?_)
    · skip
      refine ab_iconst C dX3_allHaveLength_28 (by decide) ?_
      refine ab_zret (st := []) C r (by omega) dX3_allHaveLength_29 ?_
      refine ⟨_, rfl, rfl, ?_⟩
      rw [if_pos]
      have e9 : i = M g 2 := by omega
      rw [← e9]; exact hc
    · skip
      refine ab_aload_n C dX3_allHaveLength_10 rfl rfl ?_
      refine gf_RX3_9 C s_t rfl dX3_allHaveLength_11 ?_
      refine ab_iload_n C dX3_allHaveLength_14 rfl rfl ?_
      refine ab_iaload C s_t_lengths (by omega) (by omega) dX3_allHaveLength_15 ?_
      refine ab_iload_n C dX3_allHaveLength_16 rfl rfl ?_
      refine ab_icmp_eq (tgt := 22) C dX3_allHaveLength_17 rfl (fun h_17 => ?_) (fun h_17 => ?_)
      · skip
        refine ab_iinc2 (lv := []) C rfl dX3_allHaveLength_22 (by omega) ?_
        refine ab_goto (tgt := 2) C dX3_allHaveLength_25 rfl ?_
        exact ih () (by omega) ⟨by omega, by rw [if_pos (by omega)]; rfl⟩
      · skip
        refine ab_iconst C dX3_allHaveLength_20 (by decide) ?_
        refine ab_zret (st := []) C r (by omega) dX3_allHaveLength_21 ?_
        refine ⟨_, rfl, rfl, ?_⟩
        rw [if_neg]
        intro z
        have := (cntF_eq0 h0).mp z i i0 (by omega)
        exact h_17 (by omega)
set_option maxRecDepth 100000 in
set_option maxHeartbeats 4000000 in
theorem m_X5_isMissing {D : va_G} {cA : Nat → ClassId} {S : List AbS} {M : AbM} {h : Nat} (B_t : shSh S h) : Meth yX5_isMissing cX5_isMissing 1 (some .boolean) rmX5_isMissing D cA S [vP h] M (qI fun r M2 => M = M2 ∧ (if M h 1 = -1 then 1 else 0) = r) := by
  refine ab_intro (lv := [vP h]) (by decide +kernel) rfl (Nat.le_of_ble_eq_true rfl) ?_
  intro hO hargs K hKD hKA C r
  have C : Cx K cX5_isMissing RX5 rmX5_isMissing := C
  obtain ⟨s_t, s_t_items⟩ := id B_t
  refine ab_aload_n C dX5_isMissing_0 rfl rfl ?_
  refine gf_RX5_15 C s_t rfl dX5_isMissing_1 ?_
  refine ab_iconst C dX5_isMissing_4 (by decide) ?_
  refine ab_icmp_ne (tgt := 12) C dX5_isMissing_5 rfl (fun h_5 => ?_) (fun h_5 => ?_)
  · skip
    refine ab_iconst C dX5_isMissing_12 (by decide) ?_
    refine ab_zret (st := []) C r (by omega) dX5_isMissing_13 ?_
    first | exact ⟨_, rfl, rfl, if_pos (by omega)⟩ | exact ⟨_, rfl, rfl, if_neg (by omega)⟩
  · skip
    refine ab_iconst C dX5_isMissing_8 (by decide) ?_
    refine ab_goto (tgt := 13) C dX5_isMissing_9 rfl ?_
    refine ab_zret (st := []) C r (by omega) dX5_isMissing_13 ?_
    first | exact ⟨_, rfl, rfl, if_pos (by omega)⟩ | exact ⟨_, rfl, rfl, if_neg (by omega)⟩
set_option maxRecDepth 100000 in
set_option maxHeartbeats 4000000 in
theorem m_X5_isOf {D : va_G} {cA : Nat → ClassId} {S : List AbS} {M : AbM} {h : Nat} (B_t : shSh S h) {x : Int} : Meth yX5_isOf cX5_isOf 2 (some .boolean) rmX5_isOf D cA S [vP h, vI x] M (qI fun r M2 => M = M2 ∧ (if M h 1 = x then 1 else 0) = r) := by
  refine ab_intro (lv := [vP h, vI x]) (by decide +kernel) rfl (Nat.le_of_ble_eq_true rfl) ?_
  intro hO hargs K hKD hKA C r
  have C : Cx K cX5_isOf RX5 rmX5_isOf := C
  have i_x : inI x := hargs _ (List.mem_cons_of_mem _ (List.mem_cons_self))
  obtain ⟨s_t, s_t_items⟩ := id B_t
  refine ab_aload_n C dX5_isOf_0 rfl rfl ?_
  refine gf_RX5_15 C s_t rfl dX5_isOf_1 ?_
  refine ab_iload_n C dX5_isOf_4 rfl rfl ?_
  refine ab_icmp_ne (tgt := 12) C dX5_isOf_5 rfl (fun h_5 => ?_) (fun h_5 => ?_)
  · skip
    refine ab_iconst C dX5_isOf_12 (by decide) ?_
    refine ab_zret (st := []) C r (by omega) dX5_isOf_13 ?_
    first | exact ⟨_, rfl, rfl, if_pos (by omega)⟩ | exact ⟨_, rfl, rfl, if_neg (by omega)⟩
  · skip
    refine ab_iconst C dX5_isOf_8 (by decide) ?_
    refine ab_goto (tgt := 13) C dX5_isOf_9 rfl ?_
    refine ab_zret (st := []) C r (by omega) dX5_isOf_13 ?_
    first | exact ⟨_, rfl, rfl, if_pos (by omega)⟩ | exact ⟨_, rfl, rfl, if_neg (by omega)⟩
set_option maxRecDepth 100000 in
set_option maxHeartbeats 4000000 in
theorem m_X5_has {D : va_G} {cA : Nat → ClassId} {S : List AbS} {M : AbM} {h : Nat} (B_t : shSh S h) {i m : Int} (h0 : 0 ≤ M h 2) (h1 : M h 2 ≤ 90) : Meth yX5_has cX5_has 3 (some .boolean) rmX5_has D cA S [vP h, vI i, vI m] M (qI fun r M2 => M = M2 ∧ (if 0 ≤ i ∧ i ≤ M h 2 ∧ m ≤ M h 2 - i then 1 else 0) = r) := by
  refine ab_intro (lv := [vP h, vI i, vI m]) (by decide +kernel) rfl (Nat.le_of_ble_eq_true rfl) ?_
  intro hO hargs K hKD hKA C r
  have C : Cx K cX5_has RX5 rmX5_has := C
  have i_i : inI i := hargs _ (List.mem_cons_of_mem _ (List.mem_cons_self))
  have i_m : inI m := hargs _ (List.mem_cons_of_mem _ (List.mem_cons_of_mem _ (List.mem_cons_self)))
  obtain ⟨s_t, s_t_items⟩ := id B_t
  refine ab_iload_n C dX5_has_0 rfl rfl ?_
  refine ab_if_lt (tgt := 26) C dX5_has_1 rfl (fun h_1 => ?_) (fun h_1 => ?_)
  · skip
    refine ab_iconst C dX5_has_26 (by decide) ?_
    refine ab_zret (st := []) C r (by omega) dX5_has_27 ?_
    first | exact ⟨_, rfl, rfl, if_pos (by omega)⟩ | exact ⟨_, rfl, rfl, if_neg (by omega)⟩
  · skip
    refine ab_iload_n C dX5_has_4 rfl rfl ?_
    refine ab_aload_n C dX5_has_5 rfl rfl ?_
    refine gf_RX5_19 C s_t rfl dX5_has_6 ?_
    refine ab_icmp_gt (tgt := 26) C dX5_has_9 rfl (fun h_9 => ?_) (fun h_9 => ?_)
    · skip
      refine ab_iconst C dX5_has_26 (by decide) ?_
      refine ab_zret (st := []) C r (by omega) dX5_has_27 ?_
      first | exact ⟨_, rfl, rfl, if_pos (by omega)⟩ | exact ⟨_, rfl, rfl, if_neg (by omega)⟩
    · skip
      refine ab_iload_n C dX5_has_12 rfl rfl ?_
      refine ab_aload_n C dX5_has_13 rfl rfl ?_
      refine gf_RX5_19 C s_t rfl dX5_has_14 ?_
      refine ab_iload_n C dX5_has_17 rfl rfl ?_
      refine ab_isub C dX5_has_18 (by omega) ?_
      refine ab_icmp_gt (tgt := 26) C dX5_has_19 rfl (fun h_19 => ?_) (fun h_19 => ?_)
      · skip
        refine ab_iconst C dX5_has_26 (by decide) ?_
        refine ab_zret (st := []) C r (by omega) dX5_has_27 ?_
        first | exact ⟨_, rfl, rfl, if_pos (by omega)⟩ | exact ⟨_, rfl, rfl, if_neg (by omega)⟩
      · skip
        refine ab_iconst C dX5_has_22 (by decide) ?_
        refine ab_goto (tgt := 27) C dX5_has_23 rfl ?_
        refine ab_zret (st := []) C r (by omega) dX5_has_27 ?_
        first | exact ⟨_, rfl, rfl, if_pos (by omega)⟩ | exact ⟨_, rfl, rfl, if_neg (by omega)⟩
set_option maxRecDepth 100000 in
set_option maxHeartbeats 4000000 in
theorem m_X5_hold {D : va_G} {cA : Nat → ClassId} {S : List AbS} {M : AbM} {h : Nat} (B_t : shSh S h) {x m : Int} : Meth yX5_hold cX5_hold 3 none rmX5_hold D cA S [vP h, vI x, vI m] M (qV fun M2 => up (up (upA M (h + 1) (fun j => if 0 ≤ j ∧ j < 90 then 0 else M (h + 1) j)) h 1 x) h 2 m = M2) := by
  refine ab_intro (lv := [vP h, vI x, vI m]) (by decide +kernel) rfl (Nat.le_of_ble_eq_true rfl) ?_
  intro hO hargs K hKD hKA C r
  have C : Cx K cX5_hold RX5 rmX5_hold := C
  have i_x : inI x := hargs _ (List.mem_cons_of_mem _ (List.mem_cons_self))
  have i_m : inI m := hargs _ (List.mem_cons_of_mem _ (List.mem_cons_of_mem _ (List.mem_cons_self)))
  obtain ⟨s_t, s_t_items⟩ := id B_t
  refine ab_aload_n C dX5_hold_0 rfl rfl ?_
  refine gf_RX5_9 C s_t rfl dX5_hold_1 ?_
  refine ab_lconst (n := 0) C dX5_hold_4 (by decide) (by decide +kernel) ?_
  refine ab_callS C cl_RX5_22 (m_J7_fill_d0a16 s_t_items (by decide)) (by decide) rfl rfl (Nat.le_of_ble_eq_true rfl) dX5_hold_5 (ab_kV (fun M_5 h_5 => ?_))
  subst h_5
  refine ab_aload_n C dX5_hold_8 rfl rfl ?_
  refine ab_iload_n C dX5_hold_9 rfl rfl ?_
  refine pf_RX5_15 C s_t rfl dX5_hold_10 ?_
  refine ab_aload_n C dX5_hold_13 rfl rfl ?_
  refine ab_iload_n C dX5_hold_14 rfl rfl ?_
  refine pf_RX5_19 C s_t rfl dX5_hold_15 ?_
  refine ab_vret (st := []) C r dX5_hold_18 ?_
  exact ⟨rfl, rfl⟩
set_option maxRecDepth 100000 in
set_option maxHeartbeats 4000000 in
theorem m_X5_release {D : va_G} {cA : Nat → ClassId} {S : List AbS} {M : AbM} {h : Nat} (B_t : shSh S h) : Meth yX5_release cX5_release 1 (some .int) rmX5_release D cA S [vP h] M (qI fun r M2 => up M h 1 (-1) = M2 ∧ M h 2 = r) := by
  refine ab_intro (lv := [vP h]) (by decide +kernel) rfl (Nat.le_of_ble_eq_true rfl) ?_
  intro hO hargs K hKD hKA C r
  have C : Cx K cX5_release RX5 rmX5_release := C
  obtain ⟨s_t, s_t_items⟩ := id B_t
  refine ab_aload_n C dX5_release_0 rfl rfl ?_
  refine ab_iconst C dX5_release_1 (by decide) ?_
  refine pf_RX5_15 C s_t rfl dX5_release_2 ?_
  refine ab_aload_n C dX5_release_5 rfl rfl ?_
  refine gf_RX5_19 C s_t rfl dX5_release_6 ?_
  refine ab_iret (st := []) C r dX5_release_9 ?_
  exact ⟨_, rfl, rfl, by simp [up]⟩
set_option maxRecDepth 100000 in
set_option maxHeartbeats 4000000 in
theorem m_X5_set {D : va_G} {cA : Nat → ClassId} {S : List AbS} {M : AbM} {h : Nat} (B_t : shSh S h) {i x : Int} (h0 : 0 ≤ i) (h1 : i < M h 2) (h2 : M h 2 ≤ 90) : Meth yX5_set cX5_set 3 none rmX5_set D cA S [vP h, vI i, vI x] M (qV fun M2 => up M (h + 1) i (if M h 1 = 0 then x.bmod 256 else x) = M2) := by
  refine ab_intro (lv := [vP h, vI i, vI x]) (by decide +kernel) rfl (Nat.le_of_ble_eq_true rfl) ?_
  intro hO hargs K hKD hKA C r
  have C : Cx K cX5_set RX5 rmX5_set := C
  have i_i : inI i := hargs _ (List.mem_cons_of_mem _ (List.mem_cons_self))
  have i_x : inI x := hargs _ (List.mem_cons_of_mem _ (List.mem_cons_of_mem _ (List.mem_cons_self)))
  obtain ⟨s_t, s_t_items⟩ := id B_t
  have hbm : -128 ≤ x.bmod 256 ∧ x.bmod 256 < 128 := ⟨by have := Int.le_bmod (x := x) (m := 256) (by decide); omega, by have := Int.bmod_lt (x := x) (m := 256) (by decide); omega⟩
  refine ab_aload_n C dX5_set_0 rfl rfl ?_
  refine ab_iload_n C dX5_set_1 rfl rfl ?_
  refine ab_iconst C dX5_set_2 (by decide) ?_
  refine ab_callV C cl_RX5_28 (m_X5_has B_t (by omega) (by omega)) (by decide) rfl s_t rfl rfl (Nat.le_of_ble_eq_true rfl) dX5_set_3 (ab_kI (fun r_3 M_3 h_3 => ?_))
  obtain ⟨rfl, rfl⟩ := h_3
  refine ab_if_eq (tgt := 30) C dX5_set_6 rfl (fun h_6 => ?_) (fun h_6 => ?_)
  · skip
    exact absurd h_6 (by rw [if_pos (by omega)]; decide)
  · skip
    refine ab_aload_n C dX5_set_9 rfl rfl ?_
    refine gf_RX5_9 C s_t rfl dX5_set_10 ?_
    refine ab_iload_n C dX5_set_13 rfl rfl ?_
    refine ab_aload_n C dX5_set_14 rfl rfl ?_
    refine gf_RX5_15 C s_t rfl dX5_set_15 ?_
    refine ab_if_ne (tgt := 27) C dX5_set_18 rfl (fun h_18 => ?_) (fun h_18 => ?_)
    · skip
      refine ab_iload_n C dX5_set_27 rfl rfl ?_
      refine ab_i2l C dX5_set_28 ?_
      refine ab_lastore C s_t_items (by omega) (by omega) dX5_set_29 ?_
      refine ab_vret (st := []) C r dX5_set_30 ?_
      first | exact ⟨rfl, by rw [if_pos (by omega)]⟩ | exact ⟨rfl, by rw [if_neg (by omega)]⟩
    · skip
      refine ab_iload_n C dX5_set_21 rfl rfl ?_
      refine ab_i2b (z := x.bmod 256) C dX5_set_22 (by omega) (by apply ab_of; rw [Int8.toInt_toInt32, Int32.toInt_toInt8, ab_i32 i_x]) ?_
      refine ab_i2l C dX5_set_23 ?_
      refine ab_goto (tgt := 29) C dX5_set_24 rfl ?_
      refine ab_lastore C s_t_items (by omega) (by omega) dX5_set_29 ?_
      refine ab_vret (st := []) C r dX5_set_30 ?_
      first | exact ⟨rfl, by rw [if_pos (by omega)]⟩ | exact ⟨rfl, by rw [if_neg (by omega)]⟩
set_option maxRecDepth 100000 in
set_option maxHeartbeats 4000000 in
theorem m_X5_at {D : va_G} {cA : Nat → ClassId} {S : List AbS} {M : AbM} {h : Nat} (B_t : shSh S h) {i : Int} (h0 : 0 ≤ i) (h1 : i < M h 2) (h2 : M h 2 ≤ 90) : Meth yX5_at cX5_at 2 (some .long) rmX5_at D cA S [vP h, vI i] M (qL fun r M2 => M = M2 ∧ M (h + 1) i = r) := by
  refine ab_intro (lv := [vP h, vI i]) (by decide +kernel) rfl (Nat.le_of_ble_eq_true rfl) ?_
  intro hO hargs K hKD hKA C r
  have C : Cx K cX5_at RX5 rmX5_at := C
  have i_i : inI i := hargs _ (List.mem_cons_of_mem _ (List.mem_cons_self))
  obtain ⟨s_t, s_t_items⟩ := id B_t
  refine ab_aload_n C dX5_at_0 rfl rfl ?_
  refine ab_iload_n C dX5_at_1 rfl rfl ?_
  refine ab_iconst C dX5_at_2 (by decide) ?_
  refine ab_callV C cl_RX5_28 (m_X5_has B_t (by omega) (by omega)) (by decide) rfl s_t rfl rfl (Nat.le_of_ble_eq_true rfl) dX5_at_3 (ab_kI (fun r_3 M_3 h_3 => ?_))
  obtain ⟨rfl, rfl⟩ := h_3
  refine ab_if_eq (tgt := 18) C dX5_at_6 rfl (fun h_6 => ?_) (fun h_6 => ?_)
  · skip
    exact absurd h_6 (by rw [if_pos (by omega)]; decide)
  · skip
    refine ab_aload_n C dX5_at_9 rfl rfl ?_
    refine gf_RX5_9 C s_t rfl dX5_at_10 ?_
    refine ab_iload_n C dX5_at_13 rfl rfl ?_
    refine ab_laload C s_t_items (by omega) (by omega) dX5_at_14 ?_
    refine ab_goto (tgt := 19) C dX5_at_15 rfl ?_
    refine ab_lret (st := []) C r dX5_at_19 ?_
    exact ⟨_, rfl, rfl, rfl⟩
set_option maxRecDepth 100000 in
set_option maxHeartbeats 4000000 in
theorem m_X6_onlyLength {D : va_G} {cA : Nat → ClassId} {S : List AbS} {M : AbM} {u a : Nat} {n p : Int} (B_t : shSu S u a) (A_t_alphabet : Al M a n p) (hua : u + 1 < a ∨ a + 3 < u) : Meth yX6_onlyLength cX6_onlyLength 3 (some .int) rmX6_onlyLength D cA S [vP u] M (qI fun r M2 => M = M2 ∧ ((0 ≤ r ∧ r ≤ Lg n ∧ (∀ d, 0 ≤ d → d ≤ Lg n → (cntF (fun w => M (u + 1) (wsm n d + w)) (pw n d) ≠ 0 ↔ d = r))) ∨ (r = -1 ∧ ∀ e, 0 ≤ e → e ≤ Lg n → ¬ (∀ d, 0 ≤ d → d ≤ Lg n → (cntF (fun w => M (u + 1) (wsm n d + w)) (pw n d) ≠ 0 ↔ d = e))))) := by
  refine ab_intro (lv := [vP u, vU, vU]) (by decide +kernel) rfl (Nat.le_of_ble_eq_true rfl) ?_
  intro hO hargs K hKD hKA C r
  have C : Cx K cX6_onlyLength RX6 rmX6_onlyLength := C
  obtain ⟨s_t, s_t_numbers, B_t_alphabet⟩ := id B_t
  obtain ⟨s_t_alphabet, -⟩ := id B_t_alphabet
  obtain ⟨⟨n1, n2, hPr⟩, -⟩ := id A_t_alphabet
  obtain ⟨p1, p2, -⟩ := id hPr
  have hLB := Lg_B n
  refine ab_iconst C dX6_onlyLength_0 (by decide) ?_
  refine ab_istore1 (lv := []) C rfl dX6_onlyLength_1 ?_
  refine ab_iconst C dX6_onlyLength_2 (by decide) ?_
  refine ab_istore2 (lv := []) C rfl dX6_onlyLength_3 ?_
  refine ab_loop (fun i (x : Int) => AJ K S 4 [vP u, vI x, vI i] [] M) (fun i x => 0 ≤ i ∧ ((x = -1 ∧ ∀ d, 0 ≤ d → d < i → cntF (fun w => M (u + 1) (wsm n d + w)) (pw n d) = 0) ∨ (0 ≤ x ∧ x < i ∧ ∀ d, 0 ≤ d → d < i → (cntF (fun w => M (u + 1) (wsm n d + w)) (pw n d) ≠ 0 ↔ d = x)))) (Lg n + 1) ?_ 0 (-1) (by omega) ⟨by omega, Or.inl ⟨rfl, fun d a b => by omega⟩⟩
  · intro i x hi hI ih
    obtain ⟨i0, hc⟩ := hI
    refine ab_iload_n C dX6_onlyLength_4 rfl rfl ?_
    refine ab_aload_n C dX6_onlyLength_5 rfl rfl ?_
    refine gf_RX6_15 C s_t rfl dX6_onlyLength_6 ?_
    refine ab_callV C cl_RX6_48 (m_X1_longest B_t_alphabet A_t_alphabet) (by decide) rfl s_t_alphabet rfl rfl (Nat.le_of_ble_eq_true rfl) dX6_onlyLength_9 (ab_kI (fun r_9 M_9 h_9 => ?_))
    obtain ⟨rfl, rfl⟩ := h_9
    refine ab_icmp_gt (tgt := 37) C dX6_onlyLength_12 rfl (fun h_12 => ?_) (fun h_12 => ?_)
    · skip
      refine ab_iload_n C dX6_onlyLength_37 rfl rfl ?_
      refine ab_iret (st := []) C r dX6_onlyLength_38 ?_
      have e9 : i = Lg n + 1 := by omega
      subst e9
      rcases hc with ⟨hx, hc⟩ | ⟨hx, hx2, hc⟩
      · exact ⟨_, rfl, rfl, Or.inr ⟨hx, fun e e0 e1 he => (he e e0 e1).mpr rfl (hc e e0 (by omega))⟩⟩
      · exact ⟨_, rfl, rfl, Or.inl ⟨hx, by omega, fun d a b => hc d a (by omega)⟩⟩
    · skip
      refine ab_aload_n C dX6_onlyLength_15 rfl rfl ?_
      refine ab_iload_n C dX6_onlyLength_16 rfl rfl ?_
      refine ab_callV C cl_RX6_52 (m_X6_hasTermsOf B_t (by assumption) (by omega) (by omega) (by omega)) (by decide) rfl s_t rfl rfl (Nat.le_of_ble_eq_true rfl) dX6_onlyLength_17 (ab_kI (fun r_17 M_17 h_17 => ?_))
      obtain ⟨rfl, rfl⟩ := h_17
      refine ab_if_eq (tgt := 31) C dX6_onlyLength_20 rfl (fun h_20 => ?_) (fun h_20 => ?_)
      · skip
        refine ab_iinc2 (lv := []) C rfl dX6_onlyLength_31 (by omega) ?_
        refine ab_goto (tgt := 4) C dX6_onlyLength_34 rfl ?_
        refine ih _ (by omega) ⟨by omega, ?_⟩
        first
        | (have hz : cntF (fun w => M (u + 1) (wsm n i + w)) (pw n i) = 0 := by
             by_cases z : cntF (fun w => M (u + 1) (wsm n i + w)) (pw n i) = 0
             · exact z
             · rw [if_neg z] at h_20; exact absurd h_20 (by decide)
           rcases hc with ⟨hx, hc⟩ | ⟨hx, hx2, hc⟩
           · refine Or.inl ⟨hx, fun d a b => ?_⟩
             rcases (show d < i ∨ d = i by omega) with z | z
             · exact hc d a z
             · rw [z]; exact hz
           · refine Or.inr ⟨hx, by omega, fun d a b => ?_⟩
             rcases (show d < i ∨ d = i by omega) with z | z
             · exact hc d a z
             · rw [z]; exact ⟨fun y => absurd hz y, fun y => by omega⟩)
        | (have hz : cntF (fun w => M (u + 1) (wsm n i + w)) (pw n i) ≠ 0 := by
             intro z
             rw [if_pos z] at h_20; exact absurd rfl h_20
           rcases hc with ⟨hx, hc⟩ | ⟨hx, hx2, hc⟩
           · refine Or.inr ⟨by omega, by omega, fun d a b => ?_⟩
             rcases (show d < i ∨ d = i by omega) with z | z
             · exact ⟨fun y => absurd (hc d a z) y, fun y => by omega⟩
             · rw [z]; exact ⟨fun _ => rfl, fun _ => hz⟩
           · exfalso; omega)
      · skip
        refine ab_iload_n C dX6_onlyLength_23 rfl rfl ?_
        refine ab_if_lt (tgt := 29) C dX6_onlyLength_24 rfl (fun h_24 => ?_) (fun h_24 => ?_)
        · skip
          refine ab_iload_n C dX6_onlyLength_29 rfl rfl ?_
          refine ab_istore1 (lv := []) C rfl dX6_onlyLength_30 ?_
          refine ab_iinc2 (lv := []) C rfl dX6_onlyLength_31 (by omega) ?_
          refine ab_goto (tgt := 4) C dX6_onlyLength_34 rfl ?_
          refine ih _ (by omega) ⟨by omega, ?_⟩
          first
          | (have hz : cntF (fun w => M (u + 1) (wsm n i + w)) (pw n i) = 0 := by
               by_cases z : cntF (fun w => M (u + 1) (wsm n i + w)) (pw n i) = 0
               · exact z
               · rw [if_neg z] at h_20; exact absurd h_20 (by decide)
             rcases hc with ⟨hx, hc⟩ | ⟨hx, hx2, hc⟩
             · refine Or.inl ⟨hx, fun d a b => ?_⟩
               rcases (show d < i ∨ d = i by omega) with z | z
               · exact hc d a z
               · rw [z]; exact hz
             · refine Or.inr ⟨hx, by omega, fun d a b => ?_⟩
               rcases (show d < i ∨ d = i by omega) with z | z
               · exact hc d a z
               · rw [z]; exact ⟨fun y => absurd hz y, fun y => by omega⟩)
          | (have hz : cntF (fun w => M (u + 1) (wsm n i + w)) (pw n i) ≠ 0 := by
               intro z
               rw [if_pos z] at h_20; exact absurd rfl h_20
             rcases hc with ⟨hx, hc⟩ | ⟨hx, hx2, hc⟩
             · refine Or.inr ⟨by omega, by omega, fun d a b => ?_⟩
               rcases (show d < i ∨ d = i by omega) with z | z
               · exact ⟨fun y => absurd (hc d a z) y, fun y => by omega⟩
               · rw [z]; exact ⟨fun _ => rfl, fun _ => hz⟩
             · exfalso; omega)
        · skip
          refine ab_iconst C dX6_onlyLength_27 (by decide) ?_
          refine ab_iret (st := []) C r dX6_onlyLength_28 ?_
          refine ⟨_, rfl, rfl, Or.inr ⟨rfl, fun e e0 e1 he => ?_⟩⟩
          have hz : cntF (fun w => M (u + 1) (wsm n i + w)) (pw n i) ≠ 0 := by
            intro z
            rw [if_pos z] at h_20; exact absurd rfl h_20
          rcases hc with ⟨hx, hc⟩ | ⟨hx, hx2, hc⟩
          · omega
          · have a1 := (he i i0 (by omega)).mp hz
            have a2 := (he x (by omega) (by omega)).mp ((hc x hx hx2).mpr rfl)
            omega
