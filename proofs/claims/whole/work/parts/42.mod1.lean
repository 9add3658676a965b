set_option maxRecDepth 100000 in
set_option maxHeartbeats 4000000 in
theorem m_X9_in {D : va_G} {cA : Nat → ClassId} {S : List AbS} {M : AbM} {x y z : Int} : Meth yX9_in cX9_in 6 (some .boolean) rmX9_in D cA S [vL x, vL y, vL z] M (qI fun q M2 => M = M2 ∧ (if y ≤ x ∧ x ≤ z then 1 else 0) = q) := by
  refine ab_intro (lv := [vL x, vU, vL y, vU, vL z, vU]) (by decide +kernel) rfl (Nat.le_of_ble_eq_true rfl) ?_
  intro hO hargs K hKD hKA C r
  have C : Cx K cX9_in RX9 rmX9_in := C
  have i_x : inL x := hargs _ (List.mem_cons_self)
  have i_y : inL y := hargs _ (List.mem_cons_of_mem _ (List.mem_cons_self))
  have i_z : inL z := hargs _ (List.mem_cons_of_mem _ (List.mem_cons_of_mem _ (List.mem_cons_self)))
  refine ab_lload_n C dX9_in_0 rfl rfl ?_
  refine ab_lload_n C dX9_in_1 rfl rfl ?_
  refine ab_lcmp C dX9_in_2 (fun h_2 => ?_) (fun h_2 => ?_) (fun h_2 => ?_)
  · skip
    refine ab_if_lt (tgt := 17) C dX9_in_3 rfl (fun h_3 => ?_) (fun h_3 => ?_)
    · exact absurd h_3 (by decide)
    · skip
      refine ab_lload_n C dX9_in_6 rfl rfl ?_
      refine ab_lload C dX9_in_7 rfl ?_
      refine ab_lcmp C dX9_in_9 (fun h_9 => ?_) (fun h_9 => ?_) (fun h_9 => ?_)
      · skip
        refine ab_if_gt (tgt := 17) C dX9_in_10 rfl (fun h_10 => ?_) (fun h_10 => ?_)
        · skip
          refine ab_iconst C dX9_in_17 (by decide) ?_
          refine ab_zret (st := []) C r (by omega) dX9_in_18 ?_
          first | exact ⟨_, rfl, rfl, if_pos (by omega)⟩ | exact ⟨_, rfl, rfl, if_neg (by omega)⟩
        · exact absurd h_10 (by decide)
      · skip
        refine ab_if_gt (tgt := 17) C dX9_in_10 rfl (fun h_10 => ?_) (fun h_10 => ?_)
        · exact absurd h_10 (by decide)
        · skip
          refine ab_iconst C dX9_in_13 (by decide) ?_
          refine ab_goto (tgt := 18) C dX9_in_14 rfl ?_
          refine ab_zret (st := []) C r (by omega) dX9_in_18 ?_
          first | exact ⟨_, rfl, rfl, if_pos (by omega)⟩ | exact ⟨_, rfl, rfl, if_neg (by omega)⟩
      · skip
        refine ab_if_gt (tgt := 17) C dX9_in_10 rfl (fun h_10 => ?_) (fun h_10 => ?_)
        · exact absurd h_10 (by decide)
        · skip
          refine ab_iconst C dX9_in_13 (by decide) ?_
          refine ab_goto (tgt := 18) C dX9_in_14 rfl ?_
          refine ab_zret (st := []) C r (by omega) dX9_in_18 ?_
          first | exact ⟨_, rfl, rfl, if_pos (by omega)⟩ | exact ⟨_, rfl, rfl, if_neg (by omega)⟩
  · skip
    refine ab_if_lt (tgt := 17) C dX9_in_3 rfl (fun h_3 => ?_) (fun h_3 => ?_)
    · exact absurd h_3 (by decide)
    · skip
      refine ab_lload_n C dX9_in_6 rfl rfl ?_
      refine ab_lload C dX9_in_7 rfl ?_
      refine ab_lcmp C dX9_in_9 (fun h_9 => ?_) (fun h_9 => ?_) (fun h_9 => ?_)
      · skip
        refine ab_if_gt (tgt := 17) C dX9_in_10 rfl (fun h_10 => ?_) (fun h_10 => ?_)
        · skip
          refine ab_iconst C dX9_in_17 (by decide) ?_
          refine ab_zret (st := []) C r (by omega) dX9_in_18 ?_
          first | exact ⟨_, rfl, rfl, if_pos (by omega)⟩ | exact ⟨_, rfl, rfl, if_neg (by omega)⟩
        · exact absurd h_10 (by decide)
      · skip
        refine ab_if_gt (tgt := 17) C dX9_in_10 rfl (fun h_10 => ?_) (fun h_10 => ?_)
        · exact absurd h_10 (by decide)
        · skip
          refine ab_iconst C dX9_in_13 (by decide) ?_
          refine ab_goto (tgt := 18) C dX9_in_14 rfl ?_
          refine ab_zret (st := []) C r (by omega) dX9_in_18 ?_
          first | exact ⟨_, rfl, rfl, if_pos (by omega)⟩ | exact ⟨_, rfl, rfl, if_neg (by omega)⟩
      · skip
        refine ab_if_gt (tgt := 17) C dX9_in_10 rfl (fun h_10 => ?_) (fun h_10 => ?_)
        · exact absurd h_10 (by decide)
        · skip
          refine ab_iconst C dX9_in_13 (by decide) ?_
          refine ab_goto (tgt := 18) C dX9_in_14 rfl ?_
          refine ab_zret (st := []) C r (by omega) dX9_in_18 ?_
          first | exact ⟨_, rfl, rfl, if_pos (by omega)⟩ | exact ⟨_, rfl, rfl, if_neg (by omega)⟩
  · skip
    refine ab_if_lt (tgt := 17) C dX9_in_3 rfl (fun h_3 => ?_) (fun h_3 => ?_)
    · skip
      refine ab_iconst C dX9_in_17 (by decide) ?_
      refine ab_zret (st := []) C r (by omega) dX9_in_18 ?_
      first | exact ⟨_, rfl, rfl, if_pos (by omega)⟩ | exact ⟨_, rfl, rfl, if_neg (by omega)⟩
    · exact absurd h_3 (by decide)
set_option maxRecDepth 100000 in
set_option maxHeartbeats 4000000 in
theorem m_X9_isLength {D : va_G} {cA : Nat → ClassId} {S : List AbS} {M : AbM} {m : Nat} {n p : Int} (B_t : shMo S m) (A_t : MoA M m n p) {d : Int} : Meth yX9_isLength cX9_isLength 2 (some .boolean) rmX9_isLength D cA S [vP m, vI d] M (qI fun q M2 => M = M2 ∧ (if 0 ≤ d ∧ d ≤ Lg n then 1 else 0) = q) := by
  refine ab_intro (lv := [vP m, vI d]) (by decide +kernel) rfl (Nat.le_of_ble_eq_true rfl) ?_
  intro hO hargs K hKD hKA C r
  have C : Cx K cX9_isLength RX9 rmX9_isLength := C
  have i_d : inI d := hargs _ (List.mem_cons_of_mem _ (List.mem_cons_self))
  obtain ⟨s_t, s_t_words, s_t_begins, s_t_squares, s_t_lengths, s_t_numbers, s_t_made, s_t_tape, s_t_rows, s_t_leads, s_t_otherRows, s_t_otherLeads, s_t_row, s_t_equations, s_t_firsts, s_t_sum, s_t_lanes, s_t_sizes, s_t_items⟩ := id B_t
  obtain ⟨⟨n1, n2, hPr⟩, m_n, m_p, m_L, m_w⟩ := id A_t
  obtain ⟨p1, p2, -⟩ := id hPr
  have hLB := Lg_B n
  refine ab_iload_n C dX9_isLength_0 rfl rfl ?_
  refine ab_i2l C dX9_isLength_1 ?_
  refine ab_lconst (n := 0) C dX9_isLength_2 (by decide) (by decide +kernel) ?_
  refine ab_aload_n C dX9_isLength_3 rfl rfl ?_
  refine gf_RX9_16 C s_t rfl dX9_isLength_4 ?_
  refine ab_i2l C dX9_isLength_7 ?_
  refine ab_callS C cl_RX9_90 (m_X9_in) (by decide) rfl rfl (Nat.le_of_ble_eq_true rfl) dX9_isLength_8 (ab_kI (fun r_8 M_8 h_8 => ?_))
  obtain ⟨rfl, rfl⟩ := h_8
  refine ab_zret (st := []) C r (by split <;> omega) dX9_isLength_11 ?_
  exact ⟨_, rfl, rfl, by rw [m_L]⟩
set_option maxRecDepth 100000 in
set_option maxHeartbeats 4000000 in
theorem m_X9_isWord {D : va_G} {cA : Nat → ClassId} {S : List AbS} {M : AbM} {m : Nat} {n p : Int} (B_t : shMo S m) (A_t : MoA M m n p) {d w : Int} : Meth yX9_isWord cX9_isWord 3 (some .boolean) rmX9_isWord D cA S [vP m, vI d, vI w] M (qI fun q M2 => M = M2 ∧ (if 0 ≤ d ∧ d ≤ Lg n ∧ 0 ≤ w ∧ w < pw n d then 1 else 0) = q) := by
  refine ab_intro (lv := [vP m, vI d, vI w]) (by decide +kernel) rfl (Nat.le_of_ble_eq_true rfl) ?_
  intro hO hargs K hKD hKA C r
  have C : Cx K cX9_isWord RX9 rmX9_isWord := C
  have i_d : inI d := hargs _ (List.mem_cons_of_mem _ (List.mem_cons_self))
  have i_w : inI w := hargs _ (List.mem_cons_of_mem _ (List.mem_cons_of_mem _ (List.mem_cons_self)))
  obtain ⟨s_t, s_t_words, s_t_begins, s_t_squares, s_t_lengths, s_t_numbers, s_t_made, s_t_tape, s_t_rows, s_t_leads, s_t_otherRows, s_t_otherLeads, s_t_row, s_t_equations, s_t_firsts, s_t_sum, s_t_lanes, s_t_sizes, s_t_items⟩ := id B_t
  obtain ⟨⟨n1, n2, hPr⟩, m_n, m_p, m_L, m_w⟩ := id A_t
  obtain ⟨p1, p2, -⟩ := id hPr
  have hLB := Lg_B n
  refine ab_aload_n C dX9_isWord_0 rfl rfl ?_
  refine ab_iload_n C dX9_isWord_1 rfl rfl ?_
  refine ab_callV C cl_RX9_156 (m_X9_isLength B_t A_t) (by decide) rfl s_t rfl rfl (Nat.le_of_ble_eq_true rfl) dX9_isWord_2 (ab_kI (fun r_2 M_2 h_2 => ?_))
  obtain ⟨rfl, rfl⟩ := h_2
  refine ab_if_eq (tgt := 30) C dX9_isWord_5 rfl (fun h_5 => ?_) (fun h_5 => ?_)
  · skip
    have hq := b01_eq h_5
    refine ab_iconst C dX9_isWord_30 (by decide) ?_
    refine ab_zret (st := []) C r (by omega) dX9_isWord_31 ?_
    first | exact ⟨_, rfl, rfl, if_pos (by omega)⟩ | exact ⟨_, rfl, rfl, if_neg (by omega)⟩
  · skip
    have hq := b01_ne h_5
    have e1 := (m_w d hq.1 hq.2).1
    have hB := sz_B n1 n2 hq.1 hq.2
    refine ab_iload_n C dX9_isWord_8 rfl rfl ?_
    refine ab_i2l C dX9_isWord_9 ?_
    refine ab_lconst (n := 0) C dX9_isWord_10 (by decide) (by decide +kernel) ?_
    refine ab_aload_n C dX9_isWord_11 rfl rfl ?_
    refine gf_RX9_19 C s_t rfl dX9_isWord_12 ?_
    refine ab_iload_n C dX9_isWord_15 rfl rfl ?_
    refine ab_iaload C s_t_words (by omega) (by omega) dX9_isWord_16 ?_
    refine ab_iconst C dX9_isWord_17 (by decide) ?_
    refine ab_isub C dX9_isWord_18 (by omega) ?_
    refine ab_i2l C dX9_isWord_19 ?_
    refine ab_callS C cl_RX9_90 (m_X9_in) (by decide) rfl rfl (Nat.le_of_ble_eq_true rfl) dX9_isWord_20 (ab_kI (fun r_20 M_20 h_20 => ?_))
    obtain ⟨rfl, rfl⟩ := h_20
    refine ab_if_eq (tgt := 30) C dX9_isWord_23 rfl (fun h_23 => ?_) (fun h_23 => ?_)
    · skip
      have hq2 := b01_eq h_23
      rw [e1] at hq2
      refine ab_iconst C dX9_isWord_30 (by decide) ?_
      refine ab_zret (st := []) C r (by omega) dX9_isWord_31 ?_
      first | exact ⟨_, rfl, rfl, if_pos (by omega)⟩ | exact ⟨_, rfl, rfl, if_neg (by omega)⟩
    · skip
      have hq2 := b01_ne h_23
      rw [e1] at hq2
      refine ab_iconst C dX9_isWord_26 (by decide) ?_
      refine ab_goto (tgt := 31) C dX9_isWord_27 rfl ?_
      refine ab_zret (st := []) C r (by omega) dX9_isWord_31 ?_
      first | exact ⟨_, rfl, rfl, if_pos (by omega)⟩ | exact ⟨_, rfl, rfl, if_neg (by omega)⟩
set_option maxRecDepth 100000 in
set_option maxHeartbeats 4000000 in
theorem m_X9_inverse {D : va_G} {cA : Nat → ClassId} {S : List AbS} {M : AbM} {m : Nat} {n p : Int} (B_t : shMo S m) (A_t : MoA M m n p) {v : Int} (v0 : 0 < v) (v1 : v < p) : Meth yX9_inverse cX9_inverse 3 (some .int) rmX9_inverse D cA S [vP m, vI v] M (qI fun q M2 => M = M2 ∧ ivf p v = q) := by
  refine ab_intro (lv := [vP m, vI v, vU]) (by decide +kernel) rfl (Nat.le_of_ble_eq_true rfl) ?_
  intro hO hargs K hKD hKA C r
  have C : Cx K cX9_inverse RX9 rmX9_inverse := C
  have i_v : inI v := hargs _ (List.mem_cons_of_mem _ (List.mem_cons_self))
  obtain ⟨s_t, s_t_words, s_t_begins, s_t_squares, s_t_lengths, s_t_numbers, s_t_made, s_t_tape, s_t_rows, s_t_leads, s_t_otherRows, s_t_otherLeads, s_t_row, s_t_equations, s_t_firsts, s_t_sum, s_t_lanes, s_t_sizes, s_t_items⟩ := id B_t
  obtain ⟨⟨n1, n2, hPr⟩, m_n, m_p, m_L, m_w⟩ := id A_t
  obtain ⟨p1, p2, -⟩ := id hPr
  have hLB := Lg_B n
  obtain ⟨k1, k2, k3⟩ := ivf_ok hPr v0 v1
  refine ab_iconst C dX9_inverse_0 (by decide) ?_
  refine ab_istore2 (lv := []) C rfl dX9_inverse_1 ?_
  refine ab_loop (fun i (_ : Unit) => AJ K S 2 [vP m, vI v, vI i] [] M) (fun i _ => 1 ≤ i ∧ ∀ j, 1 ≤ j → j < i → v * j % p ≠ 1) (ivf p v) ?_ 1 () (by omega) ⟨by omega, fun j a b => by omega⟩
  · intro i _ hi hI ih
    have hm : 0 ≤ v * i ∧ v * i ≤ 97 * 97 := ⟨Int.mul_nonneg (by omega) (by omega), Int.mul_le_mul (by omega) (by omega) (by omega) (by omega)⟩
    refine ab_iload_n C dX9_inverse_2 rfl rfl ?_
    refine ab_iload_n C dX9_inverse_3 rfl rfl ?_
    refine ab_imul C dX9_inverse_4 (by omega) ?_
    refine ab_aload_n C dX9_inverse_5 rfl rfl ?_
    refine gf_RX9_13 C s_t rfl dX9_inverse_6 ?_
    refine ab_irem C dX9_inverse_9 (by omega) (by omega) ?_
    refine ab_iconst C dX9_inverse_10 (by decide) ?_
    refine ab_icmp_eq (tgt := 20) C dX9_inverse_11 rfl (fun h_11 => ?_) (fun h_11 => ?_)
    · skip
      refine ab_iload_n C dX9_inverse_20 rfl rfl ?_
      refine ab_iret (st := []) C r dX9_inverse_21 ?_
      rw [m_p] at h_11
      exact ⟨_, rfl, rfl, ivf_eq hPr v0 v1 (by omega) (by omega) h_11⟩
    · skip
      refine ab_iinc2 (lv := []) C rfl dX9_inverse_14 (by omega) ?_
      refine ab_goto (tgt := 2) C dX9_inverse_17 rfl ?_
      rw [m_p] at h_11
      refine ih () ?_ ⟨by omega, fun j a b => ?_⟩
      · rcases (show i < ivf p v ∨ i = ivf p v by omega) with q | q
        · exact q
        · rw [q] at h_11; exact absurd k3 h_11
      · rcases (show j < i ∨ j = i by omega) with q | q
        · exact hI.2 j a q
        · rw [q]; exact h_11
set_option maxRecDepth 100000 in
set_option maxHeartbeats 4000000 in
theorem m_X9_clearRow {D : va_G} {cA : Nat → ClassId} {S : List AbS} {M : AbM} {m : Nat} (B_t : shMo S m) : Meth yX9_clearRow cX9_clearRow 2 none rmX9_clearRow D cA S [vP m] M (qV fun M2 => upA M (m + 12) (fun j => if 0 ≤ j ∧ j < 243 then 0 else M (m + 12) j) = M2) := by
  refine ab_intro (lv := [vP m, vU]) (by decide +kernel) rfl (Nat.le_of_ble_eq_true rfl) ?_
  intro hO hargs K hKD hKA C r
  have C : Cx K cX9_clearRow RX9 rmX9_clearRow := C
  obtain ⟨s_t, s_t_words, s_t_begins, s_t_squares, s_t_lengths, s_t_numbers, s_t_made, s_t_tape, s_t_rows, s_t_leads, s_t_otherRows, s_t_otherLeads, s_t_row, s_t_equations, s_t_firsts, s_t_sum, s_t_lanes, s_t_sizes, s_t_items⟩ := id B_t
  refine ab_iconst C dX9_clearRow_0 (by decide) ?_
  refine ab_istore1 (lv := []) C rfl dX9_clearRow_1 ?_
  refine ab_mem (M2 := upA M (m + 12) (fun j => if 0 ≤ j ∧ j < (0 : Int) then 0 else M (m + 12) j)) (upA_id (fun j => if_neg (by omega))) ?_
  refine ab_loop (fun i (_ : Unit) => AJ K S 2 [vP m, vI i] [] (upA M (m + 12) (fun j => if 0 ≤ j ∧ j < i then 0 else M (m + 12) j))) (fun i _ => 0 ≤ i) 243 ?_ 0 () (by omega) (by omega)
  · intro i _ hi i0 ih
    refine ab_iload_n C dX9_clearRow_2 rfl rfl ?_
    refine ab_sipush C dX9_clearRow_3 (by decide) (by decide +kernel) ?_
    refine ab_icmp_ge (tgt := 22) C dX9_clearRow_6 rfl (fun h_6 => ?_) (fun h_6 => ?_)
    · skip
      refine ab_vret (st := []) C r dX9_clearRow_22 ?_
      refine ⟨rfl, upA_ext (fun j => ?_)⟩
      have e9 : i = 243 := by omega
      rw [e9]
    · skip
      refine ab_aload_n C dX9_clearRow_9 rfl rfl ?_
      refine gf_RX9_55 C s_t rfl dX9_clearRow_10 ?_
      refine ab_iload_n C dX9_clearRow_13 rfl rfl ?_
      refine ab_iconst C dX9_clearRow_14 (by decide) ?_
      refine ab_iastore C s_t_row (by omega) (by omega) dX9_clearRow_15 ?_
      refine ab_iinc1 (lv := []) C rfl dX9_clearRow_16 (by omega) ?_
      refine ab_goto (tgt := 2) C dX9_clearRow_19 rfl ?_
      refine ab_mem (M2 := upA M (m + 12) (fun j => if 0 ≤ j ∧ j < (i + 1) then 0 else M (m + 12) j)) ?_ (ih () (by omega) (by omega))
      rw [up_upA]
      exact upA_ext (fun j => by
        by_cases q1 : j = i
        · rw [if_pos q1, if_pos (by omega)]
        · rw [if_neg q1]
          by_cases q2 : 0 ≤ j ∧ j < i
          · rw [if_pos q2, if_pos (by omega)]
          · rw [if_neg q2, if_neg (by omega)])
