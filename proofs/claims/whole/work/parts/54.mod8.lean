set_option maxRecDepth 100000 in
set_option maxHeartbeats 4000000 in
theorem m_X9_normal {D : va_G} {cA : Nat → ClassId} {S : List AbS} {M : AbM} {m : Nat} {n p : Int} (B_t : shMo S m) (A_t : MoA M m n p) (hL : LawsM n p M m) (hR : MRd n p M m) {d : Int} : Meth yX9_normal cX9_normal 2 (some .int) rmX9_normal D cA S [vP m, vI d] M (qI fun q M2 => KeepM n p M M2 m ∧ (if (0 ≤ d ∧ d ≤ Lg n) then sNm n p (M m 6) (M (m + 4)) (M (m + 5)) d else -1) = q) := by
  refine ab_intro (lv := [vP m, vI d]) (by decide +kernel) rfl (Nat.le_of_ble_eq_true rfl) ?_
  intro hO hargs K hKD hKA C r
  have C : Cx K cX9_normal RX9 rmX9_normal := C
  have i_d : inI d := hargs _ (List.mem_cons_of_mem _ (List.mem_cons_self))
  obtain ⟨s_t, s_t_words, s_t_begins, s_t_squares, s_t_lengths, s_t_numbers, s_t_made, s_t_tape, s_t_rows, s_t_leads, s_t_otherRows, s_t_otherLeads, s_t_row, s_t_equations, s_t_firsts, s_t_sum, s_t_lanes, s_t_sizes, s_t_items⟩ := id B_t
  obtain ⟨⟨n1, n2, hPr⟩, m_n, m_p, m_L, m_w⟩ := id A_t
  obtain ⟨p1, p2, -⟩ := id hPr
  have hLB := Lg_B n
  refine ab_aload_n C dX9_normal_0 rfl rfl ?_
  refine ab_iload_n C dX9_normal_1 rfl rfl ?_
  refine ab_callV C cl_RX9_156 (m_X9_isLength B_t A_t) (by decide) rfl s_t rfl rfl (Nat.le_of_ble_eq_true rfl) dX9_normal_2 (ab_kI (fun r_2 M_2 h_2 => ?_))
  obtain ⟨rfl, rfl⟩ := h_2
  refine ab_if_ne (tgt := 10) C dX9_normal_5 rfl (fun h_5 => ?_) (fun h_5 => ?_)
  · skip
    have hq := b01_ne h_5
    refine ab_aload_n C dX9_normal_10 rfl rfl ?_
    refine ab_callV C cl_RX9_153 (m_X9_find B_t A_t hL hR) (by decide) rfl s_t rfl rfl (Nat.le_of_ble_eq_true rfl) dX9_normal_11 (ab_kV (fun M_11 h_11 => ?_))
    obtain ⟨hs1, hm1, h13, hR1⟩ := h_11
    have hMd := (hR1 h13).1
    rw [hm1 6 (by decide) (by decide), hs1 (m + 4) (by simp), hs1 (m + 5) (by simp)] at hMd
    have hK : KeepM n p M M_11 m := KeepM.find hs1 hm1 hR1
    have A_t : MoA M_11 m n p := A_t.of (hm1 0 (by decide) (by decide)) (hm1 1 (by decide) (by decide)) (hm1 2 (by decide) (by decide)) (hs1 _ (by simp)) (hs1 _ (by simp)) (hs1 _ (by simp))
    obtain ⟨-, m_n, m_p, m_L, m_w⟩ := id A_t
    clear hs1 hm1 h13 hR1
    refine ab_aload_n C dX9_normal_14 rfl rfl ?_
    refine ab_aload_n C dX9_normal_15 rfl rfl ?_
    refine gf_RX9_45 C s_t rfl dX9_normal_16 ?_
    refine ab_iload_n C dX9_normal_19 rfl rfl ?_
    refine ab_callV C cl_RX9_159 (m_X9_normalIn B_t A_t s_t_leads (by omega) (by omega)) (by decide) rfl s_t rfl rfl (Nat.le_of_ble_eq_true rfl) dX9_normal_20 (ab_kI (fun r_20 M_20 h_20 => ?_))
    obtain ⟨rfl, rfl⟩ := h_20
    refine ab_iret (st := []) C r dX9_normal_23 ?_
    refine ⟨_, rfl, hK, ?_⟩
    rw [if_pos hq]
    unfold sNm nmC
    exact (cntF_congr (fun w a b => by rw [mod_nl p1 n1 hq.1 (fun e e0 e1 => hMd e e0 (by omega)) w a b])).symm
  · skip
    have hq := b01_eq h_5
    refine ab_iconst C dX9_normal_8 (by decide) ?_
    refine ab_iret (st := []) C r dX9_normal_9 ?_
    refine ⟨_, rfl, KeepM.rf hR, ?_⟩
    rw [if_neg]
    omega
set_option maxRecDepth 100000 in
set_option maxHeartbeats 4000000 in
theorem m_X9_leads {D : va_G} {cA : Nat → ClassId} {S : List AbS} {M : AbM} {m : Nat} {n p : Int} (B_t : shMo S m) (A_t : MoA M m n p) (hL : LawsM n p M m) (hR : MRd n p M m) {d w : Int} : Meth yX9_leads cX9_leads 3 (some .int) rmX9_leads D cA S [vP m, vI d, vI w] M (qI fun q M2 => KeepM n p M M2 m ∧ (if (0 ≤ d ∧ d ≤ Lg n ∧ 0 ≤ w ∧ w < pw n d) then sld n p (M m 6) (M (m + 4)) (M (m + 5)) d w else -1) = q) := by
  refine ab_intro (lv := [vP m, vI d, vI w]) (by decide +kernel) rfl (Nat.le_of_ble_eq_true rfl) ?_
  intro hO hargs K hKD hKA C r
  have C : Cx K cX9_leads RX9 rmX9_leads := C
  have i_d : inI d := hargs _ (List.mem_cons_of_mem _ (List.mem_cons_self))
  have i_w : inI w := hargs _ (List.mem_cons_of_mem _ (List.mem_cons_of_mem _ (List.mem_cons_self)))
  obtain ⟨s_t, s_t_words, s_t_begins, s_t_squares, s_t_lengths, s_t_numbers, s_t_made, s_t_tape, s_t_rows, s_t_leads, s_t_otherRows, s_t_otherLeads, s_t_row, s_t_equations, s_t_firsts, s_t_sum, s_t_lanes, s_t_sizes, s_t_items⟩ := id B_t
  obtain ⟨⟨n1, n2, hPr⟩, m_n, m_p, m_L, m_w⟩ := id A_t
  obtain ⟨p1, p2, -⟩ := id hPr
  have hLB := Lg_B n
  refine ab_aload_n C dX9_leads_0 rfl rfl ?_
  refine ab_iload_n C dX9_leads_1 rfl rfl ?_
  refine ab_iload_n C dX9_leads_2 rfl rfl ?_
  refine ab_callV C cl_RX9_163 (m_X9_isWord B_t A_t) (by decide) rfl s_t rfl rfl (Nat.le_of_ble_eq_true rfl) dX9_leads_3 (ab_kI (fun r_3 M_3 h_3 => ?_))
  obtain ⟨rfl, rfl⟩ := h_3
  refine ab_if_ne (tgt := 11) C dX9_leads_6 rfl (fun h_6 => ?_) (fun h_6 => ?_)
  · skip
    have hq := b01_ne h_6
    refine ab_aload_n C dX9_leads_11 rfl rfl ?_
    refine ab_callV C cl_RX9_153 (m_X9_find B_t A_t hL hR) (by decide) rfl s_t rfl rfl (Nat.le_of_ble_eq_true rfl) dX9_leads_12 (ab_kV (fun M_12 h_12 => ?_))
    obtain ⟨hs1, hm1, h13, hR1⟩ := h_12
    have hMd := (hR1 h13).1
    rw [hm1 6 (by decide) (by decide), hs1 (m + 4) (by simp), hs1 (m + 5) (by simp)] at hMd
    have hK : KeepM n p M M_12 m := KeepM.find hs1 hm1 hR1
    have A_t : MoA M_12 m n p := A_t.of (hm1 0 (by decide) (by decide)) (hm1 1 (by decide) (by decide)) (hm1 2 (by decide) (by decide)) (hs1 _ (by simp)) (hs1 _ (by simp)) (hs1 _ (by simp))
    obtain ⟨-, m_n, m_p, m_L, m_w⟩ := id A_t
    clear hs1 hm1 h13 hR1
    refine ab_aload_n C dX9_leads_15 rfl rfl ?_
    refine gf_RX9_45 C s_t rfl dX9_leads_16 ?_
    refine ab_aload_n C dX9_leads_19 rfl rfl ?_
    refine gf_RX9_23 C s_t rfl dX9_leads_20 ?_
    refine ab_iload_n C dX9_leads_23 rfl rfl ?_
    refine ab_iaload C s_t_begins (by omega) (by omega) dX9_leads_24 ?_
    obtain ⟨e_w, e_b, e_s⟩ := m_w d hq.1 hq.2.1
    have hB := sz_B n1 n2 hq.1 hq.2.1
    rw [e_b]
    refine ab_iload_n C dX9_leads_25 rfl rfl ?_
    refine ab_iadd C dX9_leads_26 (by omega) ?_
    refine ab_baload C s_t_leads (by omega) (by omega) dX9_leads_27 ?_
    have hl9 : M_12 (m + 9) (wsm n d + w) = ldq n d (M_12 (m + 9)) w := rfl
    have h01 := ((hMd d hq.1 hq.2.1).1 w hq.2.2.1 hq.2.2.2).1
    have hsm := (mod_same p1 n1 (show (0 : Int) ≤ d by omega) (fun e e0 e1 => hMd e e0 (by omega)) w hq.2.2.1 hq.2.2.2).1
    rw [hl9]
    refine ab_if_eq (tgt := 35) C dX9_leads_28 rfl (fun h_28 => ?_) (fun h_28 => ?_)
    · skip
      refine ab_iconst C dX9_leads_35 (by decide) ?_
      refine ab_iret (st := []) C r dX9_leads_36 ?_
      refine ⟨_, rfl, hK, ?_⟩
      rw [if_pos hq, ← hsm]
      omega
    · skip
      refine ab_iconst C dX9_leads_31 (by decide) ?_
      refine ab_goto (tgt := 36) C dX9_leads_32 rfl ?_
      refine ab_iret (st := []) C r dX9_leads_36 ?_
      refine ⟨_, rfl, hK, ?_⟩
      rw [if_pos hq, ← hsm]
      omega
  · skip
    have hq := b01_eq h_6
    refine ab_iconst C dX9_leads_9 (by decide) ?_
    refine ab_iret (st := []) C r dX9_leads_10 ?_
    refine ⟨_, rfl, KeepM.rf hR, ?_⟩
    rw [if_neg]
    omega
set_option maxRecDepth 100000 in
set_option maxHeartbeats 4000000 in
theorem m_X9_word {D : va_G} {cA : Nat → ClassId} {S : List AbS} {M : AbM} {m : Nat} {n p : Int} (B_t : shMo S m) (A_t : MoA M m n p) (hL : LawsM n p M m) (hR : MRd n p M m) {d i : Int} : Meth yX9_word cX9_word 3 (some .int) rmX9_word D cA S [vP m, vI d, vI i] M (qI fun q M2 => KeepM n p M M2 m ∧ (if (0 ≤ d ∧ d ≤ Lg n) ∧ 0 ≤ i then nthF (nlA (sld n p (M m 6) (M (m + 4)) (M (m + 5)) d)) (pw n d) i else -1) = q) := by
  refine ab_intro (lv := [vP m, vI d, vI i]) (by decide +kernel) rfl (Nat.le_of_ble_eq_true rfl) ?_
  intro hO hargs K hKD hKA C r
  have C : Cx K cX9_word RX9 rmX9_word := C
  have i_d : inI d := hargs _ (List.mem_cons_of_mem _ (List.mem_cons_self))
  have i_i : inI i := hargs _ (List.mem_cons_of_mem _ (List.mem_cons_of_mem _ (List.mem_cons_self)))
  obtain ⟨s_t, s_t_words, s_t_begins, s_t_squares, s_t_lengths, s_t_numbers, s_t_made, s_t_tape, s_t_rows, s_t_leads, s_t_otherRows, s_t_otherLeads, s_t_row, s_t_equations, s_t_firsts, s_t_sum, s_t_lanes, s_t_sizes, s_t_items⟩ := id B_t
  obtain ⟨⟨n1, n2, hPr⟩, m_n, m_p, m_L, m_w⟩ := id A_t
  obtain ⟨p1, p2, -⟩ := id hPr
  have hLB := Lg_B n
  refine ab_aload_n C dX9_word_0 rfl rfl ?_
  refine ab_iload_n C dX9_word_1 rfl rfl ?_
  refine ab_callV C cl_RX9_156 (m_X9_isLength B_t A_t) (by decide) rfl s_t rfl rfl (Nat.le_of_ble_eq_true rfl) dX9_word_2 (ab_kI (fun r_2 M_2 h_2 => ?_))
  obtain ⟨rfl, rfl⟩ := h_2
  refine ab_if_eq (tgt := 12) C dX9_word_5 rfl (fun h_5 => ?_) (fun h_5 => ?_)
  · skip
    have hq := b01_eq h_5
    refine ab_iconst C dX9_word_12 (by decide) ?_
    refine ab_iret (st := []) C r dX9_word_13 ?_
    refine ⟨_, rfl, KeepM.rf hR, ?_⟩
    rw [if_neg]
    omega
  · skip
    have hq := b01_ne h_5
    refine ab_iload_n C dX9_word_8 rfl rfl ?_
    refine ab_if_ge (tgt := 14) C dX9_word_9 rfl (fun h_9 => ?_) (fun h_9 => ?_)
    · skip
      refine ab_aload_n C dX9_word_14 rfl rfl ?_
      refine ab_callV C cl_RX9_153 (m_X9_find B_t A_t hL hR) (by decide) rfl s_t rfl rfl (Nat.le_of_ble_eq_true rfl) dX9_word_15 (ab_kV (fun M_15 h_15 => ?_))
      obtain ⟨hs1, hm1, h13, hR1⟩ := h_15
      have hMd := (hR1 h13).1
      rw [hm1 6 (by decide) (by decide), hs1 (m + 4) (by simp), hs1 (m + 5) (by simp)] at hMd
      have hK : KeepM n p M M_15 m := KeepM.find hs1 hm1 hR1
      have A_t : MoA M_15 m n p := A_t.of (hm1 0 (by decide) (by decide)) (hm1 1 (by decide) (by decide)) (hm1 2 (by decide) (by decide)) (hs1 _ (by simp)) (hs1 _ (by simp)) (hs1 _ (by simp))
      obtain ⟨-, m_n, m_p, m_L, m_w⟩ := id A_t
      clear hs1 hm1 h13 hR1
      refine ab_aload_n C dX9_word_18 rfl rfl ?_
      refine ab_iload_n C dX9_word_19 rfl rfl ?_
      refine ab_iload_n C dX9_word_20 rfl rfl ?_
      refine ab_callV C cl_RX9_167 (m_X9_wordOf B_t A_t (by omega) (by omega) (by omega)) (by decide) rfl s_t rfl rfl (Nat.le_of_ble_eq_true rfl) dX9_word_21 (ab_kI (fun r_21 M_21 h_21 => ?_))
      obtain ⟨rfl, rfl⟩ := h_21
      refine ab_iret (st := []) C r dX9_word_24 ?_
      refine ⟨_, rfl, hK, ?_⟩
      rw [if_pos ⟨hq, h_9⟩]
      exact (nthF_congr (fun w a b => by rw [mod_nl p1 n1 hq.1 (fun e e0 e1 => hMd e e0 (by omega)) w a b]) i).symm
    · skip
      refine ab_iconst C dX9_word_12 (by decide) ?_
      refine ab_iret (st := []) C r dX9_word_13 ?_
      refine ⟨_, rfl, KeepM.rf hR, ?_⟩
      rw [if_neg]
      omega
set_option maxRecDepth 100000 in
set_option maxHeartbeats 4000000 in
theorem m_X9_plain {D : va_G} {cA : Nat → ClassId} {S : List AbS} {M : AbM} {m : Nat} {n p : Int} (B_t : shMo S m) (A_t : MoA M m n p) (hL : LawsM n p M m) (hR : MRd n p M m) {d v w : Int} : Meth yX9_plain cX9_plain 4 (some .int) rmX9_plain D cA S [vP m, vI d, vI v, vI w] M (qI fun q M2 => KeepM n p M M2 m ∧ (if (0 ≤ d ∧ d ≤ Lg n ∧ 0 ≤ v ∧ v < pw n d) ∧ (0 ≤ d ∧ d ≤ Lg n ∧ 0 ≤ w ∧ w < pw n d) then srh n p (M m 6) (M (m + 4)) (M (m + 5)) d w v else -1) = q) := by
  refine ab_intro (lv := [vP m, vI d, vI v, vI w]) (by decide +kernel) rfl (Nat.le_of_ble_eq_true rfl) ?_
  intro hO hargs K hKD hKA C r
  have C : Cx K cX9_plain RX9 rmX9_plain := C
  have i_d : inI d := hargs _ (List.mem_cons_of_mem _ (List.mem_cons_self))
  have i_v : inI v := hargs _ (List.mem_cons_of_mem _ (List.mem_cons_of_mem _ (List.mem_cons_self)))
  have i_w : inI w := hargs _ (List.mem_cons_of_mem _ (List.mem_cons_of_mem _ (List.mem_cons_of_mem _ (List.mem_cons_self))))
  obtain ⟨s_t, s_t_words, s_t_begins, s_t_squares, s_t_lengths, s_t_numbers, s_t_made, s_t_tape, s_t_rows, s_t_leads, s_t_otherRows, s_t_otherLeads, s_t_row, s_t_equations, s_t_firsts, s_t_sum, s_t_lanes, s_t_sizes, s_t_items⟩ := id B_t
  obtain ⟨⟨n1, n2, hPr⟩, m_n, m_p, m_L, m_w⟩ := id A_t
  obtain ⟨p1, p2, -⟩ := id hPr
  have hLB := Lg_B n
  refine ab_aload_n C dX9_plain_0 rfl rfl ?_
  refine ab_iload_n C dX9_plain_1 rfl rfl ?_
  refine ab_iload_n C dX9_plain_2 rfl rfl ?_
  refine ab_callV C cl_RX9_163 (m_X9_isWord B_t A_t) (by decide) rfl s_t rfl rfl (Nat.le_of_ble_eq_true rfl) dX9_plain_3 (ab_kI (fun r_3 M_3 h_3 => ?_))
  obtain ⟨rfl, rfl⟩ := h_3
  refine ab_if_eq (tgt := 18) C dX9_plain_6 rfl (fun h_6 => ?_) (fun h_6 => ?_)
  · skip
    have hq := b01_eq h_6
    refine ab_iconst C dX9_plain_18 (by decide) ?_
    refine ab_iret (st := []) C r dX9_plain_19 ?_
    refine ⟨_, rfl, KeepM.rf hR, ?_⟩
    rw [if_neg]
    omega
  · skip
    have hq := b01_ne h_6
    refine ab_aload_n C dX9_plain_9 rfl rfl ?_
    refine ab_iload_n C dX9_plain_10 rfl rfl ?_
    refine ab_iload_n C dX9_plain_11 rfl rfl ?_
    refine ab_callV C cl_RX9_163 (m_X9_isWord B_t A_t) (by decide) rfl s_t rfl rfl (Nat.le_of_ble_eq_true rfl) dX9_plain_12 (ab_kI (fun r_12 M_12 h_12 => ?_))
    obtain ⟨rfl, rfl⟩ := h_12
    refine ab_if_ne (tgt := 20) C dX9_plain_15 rfl (fun h_15 => ?_) (fun h_15 => ?_)
    · skip
      have hq2 := b01_ne h_15
      refine ab_aload_n C dX9_plain_20 rfl rfl ?_
      refine ab_callV C cl_RX9_153 (m_X9_find B_t A_t hL hR) (by decide) rfl s_t rfl rfl (Nat.le_of_ble_eq_true rfl) dX9_plain_21 (ab_kV (fun M_21 h_21 => ?_))
      obtain ⟨hs1, hm1, h13, hR1⟩ := h_21
      have hMd := (hR1 h13).1
      rw [hm1 6 (by decide) (by decide), hs1 (m + 4) (by simp), hs1 (m + 5) (by simp)] at hMd
      have hK : KeepM n p M M_21 m := KeepM.find hs1 hm1 hR1
      have A_t : MoA M_21 m n p := A_t.of (hm1 0 (by decide) (by decide)) (hm1 1 (by decide) (by decide)) (hm1 2 (by decide) (by decide)) (hs1 _ (by simp)) (hs1 _ (by simp)) (hs1 _ (by simp))
      obtain ⟨-, m_n, m_p, m_L, m_w⟩ := id A_t
      clear hs1 hm1 h13 hR1
      refine ab_aload_n C dX9_plain_24 rfl rfl ?_
      refine ab_iload_n C dX9_plain_25 rfl rfl ?_
      refine ab_iload_n C dX9_plain_26 rfl rfl ?_
      refine ab_iload_n C dX9_plain_27 rfl rfl ?_
      refine ab_callV C cl_RX9_171 (m_X9_plainOf B_t A_t (by omega) (by omega) (by omega) (by omega) (by omega) (by omega) (hMd d hq.1 hq.2.1).1) (by decide) rfl s_t rfl rfl (Nat.le_of_ble_eq_true rfl) dX9_plain_28 (ab_kI (fun r_28 M_28 h_28 => ?_))
      obtain ⟨rfl, rfl⟩ := h_28
      refine ab_iret (st := []) C r dX9_plain_31 ?_
      refine ⟨_, rfl, hK, ?_⟩
      rw [if_pos ⟨hq, hq2⟩]
      exact ((mod_same p1 n1 (show (0 : Int) ≤ d by omega) (fun e e0 e1 => hMd e e0 (by omega)) w hq2.2.2.1 hq2.2.2.2).2 v).symm
    · skip
      have hq2 := b01_eq h_15
      refine ab_iconst C dX9_plain_18 (by decide) ?_
      refine ab_iret (st := []) C r dX9_plain_19 ?_
      refine ⟨_, rfl, KeepM.rf hR, ?_⟩
      rw [if_neg]
      omega
set_option maxRecDepth 100000 in
set_option maxHeartbeats 4000000 in
theorem m_X9_product {D : va_G} {cA : Nat → ClassId} {S : List AbS} {M : AbM} {m : Nat} {n p : Int} (B_t : shMo S m) (A_t : MoA M m n p) (hL : LawsM n p M m) (hR : MRd n p M m) {d i e j v : Int} : Meth yX9_product cX9_product 8 (some .int) rmX9_product D cA S [vP m, vI d, vI i, vI e, vI j, vI v] M (qI fun q M2 => KeepM n p M M2 m ∧ (if ((0 ≤ d ∧ d ≤ Lg n) ∧ (0 ≤ e ∧ e ≤ Lg n) ∧ d + e ≤ Lg n ∧ 0 ≤ i ∧ 0 ≤ j ∧ 0 ≤ v ∧ v < pw n (d + e)) then (if nthF (nlA (sld n p (M m 6) (M (m + 4)) (M (m + 5)) d)) (pw n d) i < 0 ∨ nthF (nlA (sld n p (M m 6) (M (m + 4)) (M (m + 5)) e)) (pw n e) j < 0 then -1 else srh n p (M m 6) (M (m + 4)) (M (m + 5)) (d + e) (nthF (nlA (sld n p (M m 6) (M (m + 4)) (M (m + 5)) d)) (pw n d) i * pw n e + nthF (nlA (sld n p (M m 6) (M (m + 4)) (M (m + 5)) e)) (pw n e) j) v) else -1) = q) := by
  refine ab_intro (lv := [vP m, vI d, vI i, vI e, vI j, vI v, vU, vU]) (by decide +kernel) rfl (Nat.le_of_ble_eq_true rfl) ?_
  intro hO hargs K hKD hKA C r
  have C : Cx K cX9_product RX9 rmX9_product := C
  have i_d : inI d := hargs _ (List.mem_cons_of_mem _ (List.mem_cons_self))
  have i_i : inI i := hargs _ (List.mem_cons_of_mem _ (List.mem_cons_of_mem _ (List.mem_cons_self)))
  have i_e : inI e := hargs _ (List.mem_cons_of_mem _ (List.mem_cons_of_mem _ (List.mem_cons_of_mem _ (List.mem_cons_self))))
  have i_j : inI j := hargs _ (List.mem_cons_of_mem _ (List.mem_cons_of_mem _ (List.mem_cons_of_mem _ (List.mem_cons_of_mem _ (List.mem_cons_self)))))
  have i_v : inI v := hargs _ (List.mem_cons_of_mem _ (List.mem_cons_of_mem _ (List.mem_cons_of_mem _ (List.mem_cons_of_mem _ (List.mem_cons_of_mem _ (List.mem_cons_self))))))
  obtain ⟨s_t, s_t_words, s_t_begins, s_t_squares, s_t_lengths, s_t_numbers, s_t_made, s_t_tape, s_t_rows, s_t_leads, s_t_otherRows, s_t_otherLeads, s_t_row, s_t_equations, s_t_firsts, s_t_sum, s_t_lanes, s_t_sizes, s_t_items⟩ := id B_t
  obtain ⟨⟨n1, n2, hPr⟩, m_n, m_p, m_L, m_w⟩ := id A_t
  obtain ⟨p1, p2, -⟩ := id hPr
  have hLB := Lg_B n
  refine ab_aload_n C dX9_product_0 rfl rfl ?_
  refine ab_iload_n C dX9_product_1 rfl rfl ?_
  refine ab_callV C cl_RX9_156 (m_X9_isLength B_t A_t) (by decide) rfl s_t rfl rfl (Nat.le_of_ble_eq_true rfl) dX9_product_2 (ab_kI (fun r_2 M_2 h_2 => ?_))
  obtain ⟨rfl, rfl⟩ := h_2
  refine ab_if_eq (tgt := 47) C dX9_product_5 rfl (fun h_5 => ?_) (fun h_5 => ?_)
  · skip
    have hq := b01_eq h_5
    refine ab_iconst C dX9_product_47 (by decide) ?_
    refine ab_iret (st := []) C r dX9_product_48 ?_
    refine ⟨_, rfl, KeepM.rf hR, ?_⟩
    rw [if_neg]
    omega
  · skip
    have hq := b01_ne h_5
    refine ab_aload_n C dX9_product_8 rfl rfl ?_
    refine ab_iload_n C dX9_product_9 rfl rfl ?_
    refine ab_callV C cl_RX9_156 (m_X9_isLength B_t A_t) (by decide) rfl s_t rfl rfl (Nat.le_of_ble_eq_true rfl) dX9_product_10 (ab_kI (fun r_10 M_10 h_10 => ?_))
    obtain ⟨rfl, rfl⟩ := h_10
    refine ab_if_eq (tgt := 47) C dX9_product_13 rfl (fun h_13 => ?_) (fun h_13 => ?_)
    · skip
      have hq2 := b01_eq h_13
      refine ab_iconst C dX9_product_47 (by decide) ?_
      refine ab_iret (st := []) C r dX9_product_48 ?_
      refine ⟨_, rfl, KeepM.rf hR, ?_⟩
      rw [if_neg]
      omega
    · skip
      have hq2 := b01_ne h_13
      refine ab_iload_n C dX9_product_16 rfl rfl ?_
      refine ab_iload_n C dX9_product_17 rfl rfl ?_
      refine ab_iadd C dX9_product_18 (by omega) ?_
      refine ab_aload_n C dX9_product_19 rfl rfl ?_
      refine gf_RX9_16 C s_t rfl dX9_product_20 ?_
      rw [m_L]
      refine ab_icmp_gt (tgt := 47) C dX9_product_23 rfl (fun h_23 => ?_) (fun h_23 => ?_)
      · skip
        refine ab_iconst C dX9_product_47 (by decide) ?_
        refine ab_iret (st := []) C r dX9_product_48 ?_
        refine ⟨_, rfl, KeepM.rf hR, ?_⟩
        rw [if_neg]
        omega
      · skip
        refine ab_iload_n C dX9_product_26 rfl rfl ?_
        refine ab_if_lt (tgt := 47) C dX9_product_27 rfl (fun h_27 => ?_) (fun h_27 => ?_)
        · skip
          refine ab_iconst C dX9_product_47 (by decide) ?_
          refine ab_iret (st := []) C r dX9_product_48 ?_
          refine ⟨_, rfl, KeepM.rf hR, ?_⟩
          rw [if_neg]
          omega
        · skip
          refine ab_iload C dX9_product_30 rfl ?_
          refine ab_if_lt (tgt := 47) C dX9_product_32 rfl (fun h_32 => ?_) (fun h_32 => ?_)
          · skip
            refine ab_iconst C dX9_product_47 (by decide) ?_
            refine ab_iret (st := []) C r dX9_product_48 ?_
            refine ⟨_, rfl, KeepM.rf hR, ?_⟩
            rw [if_neg]
            omega
          · skip
            refine ab_aload_n C dX9_product_35 rfl rfl ?_
            refine ab_iload_n C dX9_product_36 rfl rfl ?_
            refine ab_iload_n C dX9_product_37 rfl rfl ?_
            refine ab_iadd C dX9_product_38 (by omega) ?_
            refine ab_iload C dX9_product_39 rfl ?_
            refine ab_callV C cl_RX9_163 (m_X9_isWord B_t A_t) (by decide) rfl s_t rfl rfl (Nat.le_of_ble_eq_true rfl) dX9_product_41 (ab_kI (fun r_41 M_41 h_41 => ?_))
            obtain ⟨rfl, rfl⟩ := h_41
            refine ab_if_ne (tgt := 49) C dX9_product_44 rfl (fun h_44 => ?_) (fun h_44 => ?_)
            · skip
              have hq3 := b01_ne h_44
              refine ab_aload_n C dX9_product_49 rfl rfl ?_
              refine ab_callV C cl_RX9_153 (m_X9_find B_t A_t hL hR) (by decide) rfl s_t rfl rfl (Nat.le_of_ble_eq_true rfl) dX9_product_50 (ab_kV (fun M_50 h_50 => ?_))
              obtain ⟨hs1, hm1, h13, hR1⟩ := h_50
              have hMd := (hR1 h13).1
              rw [hm1 6 (by decide) (by decide), hs1 (m + 4) (by simp), hs1 (m + 5) (by simp)] at hMd
              have hK : KeepM n p M M_50 m := KeepM.find hs1 hm1 hR1
              have A_t : MoA M_50 m n p := A_t.of (hm1 0 (by decide) (by decide)) (hm1 1 (by decide) (by decide)) (hm1 2 (by decide) (by decide)) (hs1 _ (by simp)) (hs1 _ (by simp)) (hs1 _ (by simp))
              obtain ⟨-, m_n, m_p, m_L, m_w⟩ := id A_t
              clear hs1 hm1 h13 hR1
              refine ab_aload_n C dX9_product_53 rfl rfl ?_
              refine ab_iload_n C dX9_product_54 rfl rfl ?_
              refine ab_iload_n C dX9_product_55 rfl rfl ?_
              refine ab_callV C cl_RX9_167 (m_X9_wordOf B_t A_t (by omega) (by omega) (by omega)) (by decide) rfl s_t rfl rfl (Nat.le_of_ble_eq_true rfl) dX9_product_56 (ab_kI (fun r_56 M_56 h_56 => ?_))
              obtain ⟨rfl, rfl⟩ := h_56
              refine ab_istore6 (lv := []) C rfl dX9_product_59 ?_
              have eN1 : nthF (nlF n d (M_50 (m + 9))) (pw n d) i = nthF (nlA (sld n p (M m 6) (M (m + 4)) (M (m + 5)) d)) (pw n d) i := nthF_congr (fun w a b => by rw [mod_nl p1 n1 hq.1 (fun e e0 e1 => hMd e e0 (by omega)) w a b]) i
              rw [eN1]
              obtain ⟨N1, hN1⟩ : ∃ N1, nthF (nlA (sld n p (M m 6) (M (m + 4)) (M (m + 5)) d)) (pw n d) i = N1 := ⟨_, rfl⟩
              rw [hN1]
              have b1 : N1 < 0 ∨ (0 ≤ N1 ∧ N1 < pw n d) := by
                have hB := pw_pos (d := d) n1
                by_cases z : i < cntF (nlA (sld n p (M m 6) (M (m + 4)) (M (m + 5)) d)) (pw n d)
                · obtain ⟨x, y, -⟩ := nthF_in (f := nlA (sld n p (M m 6) (M (m + 4)) (M (m + 5)) d)) (N := pw n d) (by omega) (show 0 ≤ i by omega) z
                  rw [hN1] at x y
                  exact Or.inr ⟨x, y⟩
                · have y := nthF_out (f := nlA (sld n p (M m 6) (M (m + 4)) (M (m + 5)) d)) (N := pw n d) (j := i) (by omega) (Or.inr (by omega))
                  rw [hN1] at y
                  omega
              refine ab_aload_n C dX9_product_61 rfl rfl ?_
              refine ab_iload_n C dX9_product_62 rfl rfl ?_
              refine ab_iload C dX9_product_63 rfl ?_
              refine ab_callV C cl_RX9_167 (m_X9_wordOf B_t A_t (by omega) (by omega) (by omega)) (by decide) rfl s_t rfl rfl (Nat.le_of_ble_eq_true rfl) dX9_product_65 (ab_kI (fun r_65 M_65 h_65 => ?_))
              obtain ⟨rfl, rfl⟩ := h_65
              refine ab_istore7 (lv := []) C rfl dX9_product_68 ?_
              have eN2 : nthF (nlF n e (M_50 (m + 9))) (pw n e) j = nthF (nlA (sld n p (M m 6) (M (m + 4)) (M (m + 5)) e)) (pw n e) j := nthF_congr (fun w a b => by rw [mod_nl p1 n1 hq2.1 (fun e e0 e1 => hMd e e0 (by omega)) w a b]) j
              rw [eN2]
              obtain ⟨N2, hN2⟩ : ∃ N2, nthF (nlA (sld n p (M m 6) (M (m + 4)) (M (m + 5)) e)) (pw n e) j = N2 := ⟨_, rfl⟩
              rw [hN2]
              have b2 : N2 < 0 ∨ (0 ≤ N2 ∧ N2 < pw n e) := by
                have hB := pw_pos (d := e) n1
                by_cases z : j < cntF (nlA (sld n p (M m 6) (M (m + 4)) (M (m + 5)) e)) (pw n e)
                · obtain ⟨x, y, -⟩ := nthF_in (f := nlA (sld n p (M m 6) (M (m + 4)) (M (m + 5)) e)) (N := pw n e) (by omega) (show 0 ≤ j by omega) z
                  rw [hN2] at x y
                  exact Or.inr ⟨x, y⟩
                · have y := nthF_out (f := nlA (sld n p (M m 6) (M (m + 4)) (M (m + 5)) e)) (N := pw n e) (j := j) (by omega) (Or.inr (by omega))
                  rw [hN2] at y
                  omega
              refine ab_iload C dX9_product_70 rfl ?_
              refine ab_if_lt (tgt := 80) C dX9_product_72 rfl (fun h_72 => ?_) (fun h_72 => ?_)
              · skip
                refine ab_iconst C dX9_product_80 (by decide) ?_
                refine ab_goto (tgt := 105) C dX9_product_81 rfl ?_
                refine ab_iret (st := []) C r dX9_product_105 ?_
                refine ⟨_, rfl, hK, ?_⟩
                rw [hN1, hN2, if_pos ⟨hq, hq2, by omega, by omega, by omega, by omega, by omega⟩]
                first
                | (rw [if_pos (by omega)])
                | (rw [if_neg (by omega)]
                   exact ((mod_same p1 n1 (show (0 : Int) ≤ (d + e) by omega) (fun e e0 e1 => hMd e e0 (by omega)) (N1 * pw n e + N2) (by omega) (by omega)).2 v).symm)
              · skip
                refine ab_iload C dX9_product_75 rfl ?_
                refine ab_if_ge (tgt := 84) C dX9_product_77 rfl (fun h_77 => ?_) (fun h_77 => ?_)
                · skip
                  obtain ⟨e_w, -, -⟩ := m_w e hq2.1 hq2.2
                  have hB := sz_B n1 n2 hq2.1 hq2.2
                  have hBd := sz_B n1 n2 hq.1 hq.2
                  have hj := join_B n1 hq.1 hq2.1 (show 0 ≤ N1 by omega) (show N1 < pw n d by omega) (show 0 ≤ N2 by omega) (show N2 < pw n e by omega)
                  have hBs := sz_B n1 n2 (show 0 ≤ d + e by omega) (show d + e ≤ Lg n by omega)
                  have hm0 : 0 ≤ N1 * pw n e := Int.mul_nonneg (by omega) (by omega)
                  refine ab_aload_n C dX9_product_84 rfl rfl ?_
                  refine ab_iload_n C dX9_product_85 rfl rfl ?_
                  refine ab_iload_n C dX9_product_86 rfl rfl ?_
                  refine ab_iadd C dX9_product_87 (by omega) ?_
                  refine ab_iload C dX9_product_88 rfl ?_
                  refine ab_iload C dX9_product_90 rfl ?_
                  refine ab_aload_n C dX9_product_92 rfl rfl ?_
                  refine gf_RX9_19 C s_t rfl dX9_product_93 ?_
                  refine ab_iload_n C dX9_product_96 rfl rfl ?_
                  refine ab_iaload C s_t_words (by omega) (by omega) dX9_product_97 ?_
                  rw [e_w]
                  refine ab_imul C dX9_product_98 (by omega) ?_
                  refine ab_iload C dX9_product_99 rfl ?_
                  refine ab_iadd C dX9_product_101 (by omega) ?_
                  refine ab_callV C cl_RX9_171 (m_X9_plainOf B_t A_t (by omega) (by omega) (by omega) (by omega) (by omega) (by omega) (hMd (d + e) (by omega) (by omega)).1) (by decide) rfl s_t rfl rfl (Nat.le_of_ble_eq_true rfl) dX9_product_102 (ab_kI (fun r_102 M_102 h_102 => ?_))
                  obtain ⟨rfl, rfl⟩ := h_102
                  refine ab_iret (st := []) C r dX9_product_105 ?_
                  refine ⟨_, rfl, hK, ?_⟩
                  rw [hN1, hN2, if_pos ⟨hq, hq2, by omega, by omega, by omega, by omega, by omega⟩]
                  first
                  | (rw [if_pos (by omega)])
                  | (rw [if_neg (by omega)]
                     exact ((mod_same p1 n1 (show (0 : Int) ≤ (d + e) by omega) (fun e e0 e1 => hMd e e0 (by omega)) (N1 * pw n e + N2) (by omega) (by omega)).2 v).symm)
                · skip
                  refine ab_iconst C dX9_product_80 (by decide) ?_
                  refine ab_goto (tgt := 105) C dX9_product_81 rfl ?_
                  refine ab_iret (st := []) C r dX9_product_105 ?_
                  refine ⟨_, rfl, hK, ?_⟩
                  rw [hN1, hN2, if_pos ⟨hq, hq2, by omega, by omega, by omega, by omega, by omega⟩]
                  first
                  | (rw [if_pos (by omega)])
                  | (rw [if_neg (by omega)]
                     exact ((mod_same p1 n1 (show (0 : Int) ≤ (d + e) by omega) (fun e e0 e1 => hMd e e0 (by omega)) (N1 * pw n e + N2) (by omega) (by omega)).2 v).symm)
            · skip
              have hq3 := b01_eq h_44
              refine ab_iconst C dX9_product_47 (by decide) ?_
              refine ab_iret (st := []) C r dX9_product_48 ?_
              refine ⟨_, rfl, KeepM.rf hR, ?_⟩
              rw [if_neg]
              omega
