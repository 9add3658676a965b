set_option maxRecDepth 100000 in
set_option maxHeartbeats 4000000 in
theorem m_X4_needsTerm {D : va_G} {cA : Nat → ClassId} {S : List AbS} {M : AbM} {rr a : Nat} (B_t : shRe S rr a) : Meth yX4_needsTerm cX4_needsTerm 1 (some .boolean) rmX4_needsTerm D cA S [vP rr] M (qI fun x M2 => M = M2 ∧ (if M rr 1 = 0 ∨ M rr 1 = 1 then 1 else 0) = x) := by
  refine ab_intro (lv := [vP rr]) (by decide +kernel) rfl (Nat.le_of_ble_eq_true rfl) ?_
  intro hO hargs K hKD hKA C r
  have C : Cx K cX4_needsTerm RX4 rmX4_needsTerm := C
  obtain ⟨s_t, -⟩ := id B_t
  refine ab_aload_n C dX4_needsTerm_0 rfl rfl ?_
  refine gf_RX4_46 C s_t rfl dX4_needsTerm_1 ?_
  refine ab_if_eq (tgt := 15) C dX4_needsTerm_4 rfl (fun h_4 => ?_) (fun h_4 => ?_)
  · skip
    refine ab_iconst C dX4_needsTerm_15 (by decide) ?_
    refine ab_goto (tgt := 20) C dX4_needsTerm_16 rfl ?_
    refine ab_zret (st := []) C r (by omega) dX4_needsTerm_20 ?_
    first | exact ⟨_, rfl, rfl, if_pos (by omega)⟩ | exact ⟨_, rfl, rfl, if_neg (by omega)⟩
  · skip
    refine ab_aload_n C dX4_needsTerm_7 rfl rfl ?_
    refine gf_RX4_46 C s_t rfl dX4_needsTerm_8 ?_
    refine ab_iconst C dX4_needsTerm_11 (by decide) ?_
    refine ab_icmp_ne (tgt := 19) C dX4_needsTerm_12 rfl (fun h_12 => ?_) (fun h_12 => ?_)
    · skip
      refine ab_iconst C dX4_needsTerm_19 (by decide) ?_
      refine ab_zret (st := []) C r (by omega) dX4_needsTerm_20 ?_
      first | exact ⟨_, rfl, rfl, if_pos (by omega)⟩ | exact ⟨_, rfl, rfl, if_neg (by omega)⟩
    · skip
      refine ab_iconst C dX4_needsTerm_15 (by decide) ?_
      refine ab_goto (tgt := 20) C dX4_needsTerm_16 rfl ?_
      refine ab_zret (st := []) C r (by omega) dX4_needsTerm_20 ?_
      first | exact ⟨_, rfl, rfl, if_pos (by omega)⟩ | exact ⟨_, rfl, rfl, if_neg (by omega)⟩
set_option maxRecDepth 100000 in
set_option maxHeartbeats 4000000 in
theorem m_X4_openTerm {D : va_G} {cA : Nat → ClassId} {S : List AbS} {M : AbM} {rr a : Nat} {x y : Int} (B_t : shRe S rr a) : Meth yX4_openTerm cX4_openTerm 3 none rmX4_openTerm D cA S [vP rr, vI x, vI y] M (qV fun M2 => up (up (up (up (up M rr 1 x) rr 2 y) rr 3 1) rr 5 0) rr 6 0 = M2) := by
  refine ab_intro (lv := [vP rr, vI x, vI y]) (by decide +kernel) rfl (Nat.le_of_ble_eq_true rfl) ?_
  intro hO hargs K hKD hKA C r
  have C : Cx K cX4_openTerm RX4 rmX4_openTerm := C
  have i_x : inI x := hargs _ (List.mem_cons_of_mem _ (List.mem_cons_self))
  have i_y : inI y := hargs _ (List.mem_cons_of_mem _ (List.mem_cons_of_mem _ (List.mem_cons_self)))
  obtain ⟨s_t, -⟩ := id B_t
  refine ab_aload_n C dX4_openTerm_0 rfl rfl ?_
  refine ab_iload_n C dX4_openTerm_1 rfl rfl ?_
  refine pf_RX4_46 C s_t rfl dX4_openTerm_2 ?_
  refine ab_aload_n C dX4_openTerm_5 rfl rfl ?_
  refine ab_iload_n C dX4_openTerm_6 rfl rfl ?_
  refine pf_RX4_50 C s_t rfl dX4_openTerm_7 ?_
  refine ab_aload_n C dX4_openTerm_10 rfl rfl ?_
  refine ab_iconst C dX4_openTerm_11 (by decide) ?_
  refine pf_RX4_53 C s_t rfl dX4_openTerm_12 ?_
  refine ab_aload_n C dX4_openTerm_15 rfl rfl ?_
  refine ab_iconst C dX4_openTerm_16 (by decide) ?_
  refine pf_RX4_56 C s_t rfl dX4_openTerm_17 ?_
  refine ab_aload_n C dX4_openTerm_20 rfl rfl ?_
  refine ab_iconst C dX4_openTerm_21 (by decide) ?_
  refine pf_RX4_59 C s_t rfl dX4_openTerm_22 ?_
  refine ab_vret (st := []) C r dX4_openTerm_25 ?_
  exact ⟨rfl, rfl⟩
set_option maxRecDepth 100000 in
set_option maxHeartbeats 4000000 in
theorem m_X4_closeTerm {D : va_G} {cA : Nat → ClassId} {S : List AbS} {M : AbM} {rr a u : Nat} {n p : Int} (B_t : shRe S rr a) (A_t_alphabet : Al M a n p) (hr : rr < a ∨ a + 3 < rr) (hu : u + 1 < a ∨ a + 3 < u) (hru : rr < u ∨ u + 1 < rr) (B_f : shSu S u a) (hok : okR n (rsOf M rr)) : Meth yX4_closeTerm cX4_closeTerm 2 none rmX4_closeTerm D cA S [vP rr, vP u] M (qV fun M2 => upA M (u + 1) (closeV n p (rsOf M rr) (M (u + 1))) = M2) := by
  refine ab_intro (lv := [vP rr, vP u]) (by decide +kernel) rfl (Nat.le_of_ble_eq_true rfl) ?_
  intro hO hargs K hKD hKA C r
  have C : Cx K cX4_closeTerm RX4 rmX4_closeTerm := C
  obtain ⟨s_t, B_t_alphabet⟩ := id B_t
  obtain ⟨s_t_alphabet, -⟩ := id B_t_alphabet
  obtain ⟨⟨n1, n2, hPr⟩, -⟩ := id A_t_alphabet
  obtain ⟨p1, p2, -⟩ := id hPr
  have hLB := Lg_B n
  have hk := hok
  obtain ⟨o1, o2, o3, o4, o5, o6⟩ := hk
  dsimp only [rsOf] at o1 o2 o3 o4 o5 o6
  have hsn : -999 ≤ M rr 2 * M rr 3 ∧ M rr 2 * M rr 3 ≤ 999 := by
    rcases o2 with q | q <;> rw [q]
    · rw [Int.one_mul]; omega
    · rw [Int.neg_one_mul]; omega
  obtain ⟨s_f, -⟩ := id B_f
  refine ab_aload_n C dX4_closeTerm_0 rfl rfl ?_
  refine ab_aload_n C dX4_closeTerm_1 rfl rfl ?_
  refine gf_RX4_56 C s_t rfl dX4_closeTerm_2 ?_
  refine ab_aload_n C dX4_closeTerm_5 rfl rfl ?_
  refine gf_RX4_59 C s_t rfl dX4_closeTerm_6 ?_
  refine ab_aload_n C dX4_closeTerm_9 rfl rfl ?_
  refine gf_RX4_50 C s_t rfl dX4_closeTerm_10 ?_
  refine ab_aload_n C dX4_closeTerm_13 rfl rfl ?_
  refine gf_RX4_53 C s_t rfl dX4_closeTerm_14 ?_
  refine ab_imul C dX4_closeTerm_17 (by omega) ?_
  refine ab_i2l C dX4_closeTerm_18 ?_
  refine ab_callV C cl_RX4_62 (m_X6_add B_f (by assumption) (by omega) (by omega) (by omega) (by omega) (by omega) (by omega) (by omega)) (by decide) rfl s_f rfl rfl (Nat.le_of_ble_eq_true rfl) dX4_closeTerm_19 (ab_kV (fun M_19 h_19 => ?_))
  subst h_19
  refine ab_vret (st := []) C r dX4_closeTerm_22 ?_
  refine ⟨rfl, ?_⟩
  rw [up_eq_upA]
  refine upA_ext (fun x => ?_)
  unfold closeV
  by_cases q : x = wsm n (M rr 5) + M rr 6
  · rw [if_pos q, if_pos q, q]
  · rw [if_neg q, if_neg q]
set_option maxRecDepth 100000 in
set_option maxHeartbeats 4000000 in
theorem m_X4_takeDigit {D : va_G} {cA : Nat → ClassId} {S : List AbS} {M : AbM} {rr a u : Nat} {n p : Int} (B_t : shRe S rr a) (A_t_alphabet : Al M a n p) (hr : rr < a ∨ a + 3 < rr) (hu : u + 1 < a ∨ a + 3 < u) (hru : rr < u ∨ u + 1 < rr) {g pl : Int} (hok : okR n (rsOf M rr)) (g0 : 0 ≤ g) (g1 : g ≤ 9) : Meth yX4_takeDigit cX4_takeDigit 3 (some .int) rmX4_takeDigit D cA S [vP rr, vI g, vI pl] M (qI fun x M2 => same [rr, u + 1] M M2 ∧ (x, rsOf M2 rr, M2 (u + 1)) = rDigit (rsOf M rr) (M (u + 1)) g pl) := by
  refine ab_intro (lv := [vP rr, vI g, vI pl]) (by decide +kernel) rfl (Nat.le_of_ble_eq_true rfl) ?_
  intro hO hargs K hKD hKA C r
  have C : Cx K cX4_takeDigit RX4 rmX4_takeDigit := C
  have i_g : inI g := hargs _ (List.mem_cons_of_mem _ (List.mem_cons_self))
  have i_pl : inI pl := hargs _ (List.mem_cons_of_mem _ (List.mem_cons_of_mem _ (List.mem_cons_self)))
  obtain ⟨s_t, B_t_alphabet⟩ := id B_t
  obtain ⟨s_t_alphabet, -⟩ := id B_t_alphabet
  obtain ⟨⟨n1, n2, hPr⟩, -⟩ := id A_t_alphabet
  obtain ⟨p1, p2, -⟩ := id hPr
  have hLB := Lg_B n
  have hk := hok
  obtain ⟨o1, o2, o3, o4, o5, o6⟩ := hk
  dsimp only [rsOf] at o1 o2 o3 o4 o5 o6
  have ru : ∀ (N : AbM) (i x : Int), up N rr i x (u + 1) = N (u + 1) := fun N i x => up_row (by omega)
  refine ab_aload_n C dX4_takeDigit_0 rfl rfl ?_
  refine ab_callV C cl_RX4_38 (m_X4_needsTerm B_t) (by decide) rfl s_t rfl rfl (Nat.le_of_ble_eq_true rfl) dX4_takeDigit_1 (ab_kI (fun r_1 M_1 h_1 => ?_))
  obtain ⟨rfl, rfl⟩ := h_1
  refine ab_if_eq (tgt := 24) C dX4_takeDigit_4 rfl (fun h_4 => ?_) (fun h_4 => ?_)
  · skip
    have hq := b01_eq h_4
    refine ab_aload_n C dX4_takeDigit_24 rfl rfl ?_
    refine gf_RX4_46 C s_t rfl dX4_takeDigit_25 ?_
    refine ab_iconst C dX4_takeDigit_28 (by decide) ?_
    refine ab_icmp_eq (tgt := 34) C dX4_takeDigit_29 rfl (fun h_29 => ?_) (fun h_29 => ?_)
    · skip
      refine ab_aload_n C dX4_takeDigit_34 rfl rfl ?_
      refine ab_aload_n C dX4_takeDigit_35 rfl rfl ?_
      refine gf_RX4_53 C s_t rfl dX4_takeDigit_36 ?_
      refine ab_bipush C dX4_takeDigit_39 (by decide) (by decide +kernel) ?_
      refine ab_imul C dX4_takeDigit_41 (by omega) ?_
      refine ab_iload_n C dX4_takeDigit_42 rfl rfl ?_
      refine ab_iadd C dX4_takeDigit_43 (by omega) ?_
      refine pf_RX4_53 C s_t rfl dX4_takeDigit_44 ?_
      refine ab_aload_n C dX4_takeDigit_47 rfl rfl ?_
      skip
      refine gf_RX4_53 C s_t rfl dX4_takeDigit_48 ?_
      refine ab_sipush C dX4_takeDigit_51 (by decide) (by decide +kernel) ?_
      refine ab_icmp_le (tgt := 64) C dX4_takeDigit_54 rfl (fun h_54 => ?_) (fun h_54 => ?_)
      · skip
        refine ab_iconst C dX4_takeDigit_64 (by decide) ?_
        refine ab_iret (st := []) C r dX4_takeDigit_65 ?_
        refine ⟨_, rfl, same_up (by simp), ?_⟩
        unfold rDigit
        dsimp only [rsOf]
        rw [up_s] at h_54
        rw [if_neg hq, if_neg (fun z => z h_29), ru]
        first
        | (rw [if_pos (by omega)]; simp [up]; done)
        | (rw [if_neg (by omega)]; simp [up])
      · skip
        refine ab_aload_n C dX4_takeDigit_57 rfl rfl ?_
        refine gf_RX4_76 C s_t rfl dX4_takeDigit_58 ?_
        refine ab_goto (tgt := 65) C dX4_takeDigit_61 rfl ?_
        refine ab_iret (st := []) C r dX4_takeDigit_65 ?_
        refine ⟨_, rfl, same_up (by simp), ?_⟩
        unfold rDigit
        dsimp only [rsOf]
        rw [up_s] at h_54
        rw [if_neg hq, if_neg (fun z => z h_29), ru]
        first
        | (rw [if_pos (by omega)]; simp [up]; done)
        | (rw [if_neg (by omega)]; simp [up])
    · skip
      refine ab_iload_n C dX4_takeDigit_32 rfl rfl ?_
      refine ab_iret (st := []) C r dX4_takeDigit_33 ?_
      refine ⟨_, rfl, same_rf _ _, ?_⟩
      unfold rDigit
      dsimp only [rsOf]
      rw [if_neg hq, if_pos h_29]
  · skip
    have hq := b01_ne h_4
    refine ab_aload_n C dX4_takeDigit_7 rfl rfl ?_
    refine ab_iload_n C dX4_takeDigit_8 rfl rfl ?_
    refine pf_RX4_53 C s_t rfl dX4_takeDigit_9 ?_
    refine ab_aload_n C dX4_takeDigit_12 rfl rfl ?_
    refine ab_iload_n C dX4_takeDigit_13 rfl rfl ?_
    refine pf_RX4_76 C s_t rfl dX4_takeDigit_14 ?_
    refine ab_aload_n C dX4_takeDigit_17 rfl rfl ?_
    refine ab_iconst C dX4_takeDigit_18 (by decide) ?_
    refine pf_RX4_46 C s_t rfl dX4_takeDigit_19 ?_
    refine ab_iconst C dX4_takeDigit_22 (by decide) ?_
    refine ab_iret (st := []) C r dX4_takeDigit_23 ?_
    refine ⟨_, rfl, same_tr (same_tr (same_up (by simp)) (same_up (by simp))) (same_up (by simp)), ?_⟩
    unfold rDigit
    dsimp only [rsOf]
    rw [if_pos hq, ru, ru, ru]
    simp [up]
set_option maxRecDepth 100000 in
set_option maxHeartbeats 4000000 in
theorem m_X4_takeSign {D : va_G} {cA : Nat → ClassId} {S : List AbS} {M : AbM} {rr a u : Nat} {n p : Int} (B_t : shRe S rr a) (A_t_alphabet : Al M a n p) (hr : rr < a ∨ a + 3 < rr) (hu : u + 1 < a ∨ a + 3 < u) (hru : rr < u ∨ u + 1 < rr) {sg pl : Int} (B_f : shSu S u a) (hok : okR n (rsOf M rr)) : Meth yX4_takeSign cX4_takeSign 4 (some .int) rmX4_takeSign D cA S [vP rr, vI sg, vI pl, vP u] M (qI fun x M2 => same [rr, u + 1] M M2 ∧ (x, rsOf M2 rr, M2 (u + 1)) = rSign n p (rsOf M rr) (M (u + 1)) sg pl) := by
  refine ab_intro (lv := [vP rr, vI sg, vI pl, vP u]) (by decide +kernel) rfl (Nat.le_of_ble_eq_true rfl) ?_
  intro hO hargs K hKD hKA C r
  have C : Cx K cX4_takeSign RX4 rmX4_takeSign := C
  have i_sg : inI sg := hargs _ (List.mem_cons_of_mem _ (List.mem_cons_self))
  have i_pl : inI pl := hargs _ (List.mem_cons_of_mem _ (List.mem_cons_of_mem _ (List.mem_cons_self)))
  obtain ⟨s_t, B_t_alphabet⟩ := id B_t
  obtain ⟨s_t_alphabet, -⟩ := id B_t_alphabet
  obtain ⟨⟨n1, n2, hPr⟩, -⟩ := id A_t_alphabet
  obtain ⟨p1, p2, -⟩ := id hPr
  have hLB := Lg_B n
  have hk := hok
  obtain ⟨o1, o2, o3, o4, o5, o6⟩ := hk
  dsimp only [rsOf] at o1 o2 o3 o4 o5 o6
  have ru : ∀ (N : AbM) (i x : Int), up N rr i x (u + 1) = N (u + 1) := fun N i x => up_row (by omega)
  have rl : ∀ (f : Int → Int) (i : Int), upA M (u + 1) f rr i = M rr i := fun f i => upA_k (by omega)
  refine ab_aload_n C dX4_takeSign_0 rfl rfl ?_
  refine gf_RX4_46 C s_t rfl dX4_takeSign_1 ?_
  refine ab_iconst C dX4_takeSign_4 (by decide) ?_
  refine ab_icmp_eq (tgt := 19) C dX4_takeSign_5 rfl (fun h_5 => ?_) (fun h_5 => ?_)
  · skip
    refine ab_iload_n C dX4_takeSign_19 rfl rfl ?_
    refine ab_iret (st := []) C r dX4_takeSign_20 ?_
    refine ⟨_, rfl, same_rf _ _, ?_⟩
    unfold rSign
    dsimp only [rsOf]
    rw [if_pos (by omega)]
  · skip
    refine ab_aload_n C dX4_takeSign_8 rfl rfl ?_
    refine gf_RX4_46 C s_t rfl dX4_takeSign_9 ?_
    refine ab_if_ne (tgt := 21) C dX4_takeSign_12 rfl (fun h_12 => ?_) (fun h_12 => ?_)
    · skip
      refine ab_aload_n C dX4_takeSign_21 rfl rfl ?_
      refine gf_RX4_46 C s_t rfl dX4_takeSign_22 ?_
      refine ab_if_eq (tgt := 33) C dX4_takeSign_25 rfl (fun h_25 => ?_) (fun h_25 => ?_)
      · skip
        refine ab_aload_n C dX4_takeSign_33 rfl rfl ?_
        refine ab_iconst C dX4_takeSign_34 (by decide) ?_
        refine ab_iload_n C dX4_takeSign_35 rfl rfl ?_
        refine ab_callV C cl_RX4_20 (m_X4_openTerm B_t) (by decide) rfl s_t rfl rfl (Nat.le_of_ble_eq_true rfl) dX4_takeSign_36 (ab_kV (fun M_36 h_36 => ?_))
        subst h_36
        refine ab_iconst C dX4_takeSign_39 (by decide) ?_
        refine ab_iret (st := []) C r dX4_takeSign_40 ?_
        first
        | (refine ⟨_, rfl, same_tr (same_tr (same_tr (same_tr (same_up (by simp)) (same_up (by simp))) (same_up (by simp))) (same_up (by simp))) (same_up (by simp)), ?_⟩
           unfold rSign
           dsimp only [rsOf]
           rw [if_neg (by omega), if_pos h_25, ru, ru, ru, ru, ru]
           simp [up]; done)
        | (refine ⟨_, rfl, same_tr (same_upA (by simp)) (same_tr (same_tr (same_tr (same_tr (same_up (by simp)) (same_up (by simp))) (same_up (by simp))) (same_up (by simp))) (same_up (by simp))), ?_⟩
           unfold rSign
           dsimp only [rsOf]
           rw [if_neg (by omega), if_neg h_25, ru, ru, ru, ru, ru]
           have e : ∀ f : Int → Int, upA M (u + 1) f (u + 1) = f := fun f => by funext z; exact upA_s
           rw [e]
           simp [up, rl])
      · skip
        refine ab_aload_n C dX4_takeSign_28 rfl rfl ?_
        refine ab_aload_n C dX4_takeSign_29 rfl rfl ?_
        refine ab_callV C cl_RX4_42 (m_X4_closeTerm B_t (by assumption) (by omega) (by omega) (by omega) B_f hok) (by decide) rfl s_t rfl rfl (Nat.le_of_ble_eq_true rfl) dX4_takeSign_30 (ab_kV (fun M_30 h_30 => ?_))
        subst h_30
        refine ab_aload_n C dX4_takeSign_33 rfl rfl ?_
        refine ab_iconst C dX4_takeSign_34 (by decide) ?_
        refine ab_iload_n C dX4_takeSign_35 rfl rfl ?_
        refine ab_callV C cl_RX4_20 (m_X4_openTerm B_t) (by decide) rfl s_t rfl rfl (Nat.le_of_ble_eq_true rfl) dX4_takeSign_36 (ab_kV (fun M_36 h_36 => ?_))
        subst h_36
        refine ab_iconst C dX4_takeSign_39 (by decide) ?_
        refine ab_iret (st := []) C r dX4_takeSign_40 ?_
        first
        | (refine ⟨_, rfl, same_tr (same_tr (same_tr (same_tr (same_up (by simp)) (same_up (by simp))) (same_up (by simp))) (same_up (by simp))) (same_up (by simp)), ?_⟩
           unfold rSign
           dsimp only [rsOf]
           rw [if_neg (by omega), if_pos h_25, ru, ru, ru, ru, ru]
           simp [up]; done)
        | (refine ⟨_, rfl, same_tr (same_upA (by simp)) (same_tr (same_tr (same_tr (same_tr (same_up (by simp)) (same_up (by simp))) (same_up (by simp))) (same_up (by simp))) (same_up (by simp))), ?_⟩
           unfold rSign
           dsimp only [rsOf]
           rw [if_neg (by omega), if_neg h_25, ru, ru, ru, ru, ru]
           have e : ∀ f : Int → Int, upA M (u + 1) f (u + 1) = f := fun f => by funext z; exact upA_s
           rw [e]
           simp [up, rl])
    · skip
      refine ab_iload_n C dX4_takeSign_15 rfl rfl ?_
      refine ab_if_le (tgt := 21) C dX4_takeSign_16 rfl (fun h_16 => ?_) (fun h_16 => ?_)
      · skip
        refine ab_aload_n C dX4_takeSign_21 rfl rfl ?_
        refine gf_RX4_46 C s_t rfl dX4_takeSign_22 ?_
        refine ab_if_eq (tgt := 33) C dX4_takeSign_25 rfl (fun h_25 => ?_) (fun h_25 => ?_)
        · skip
          refine ab_aload_n C dX4_takeSign_33 rfl rfl ?_
          refine ab_iconst C dX4_takeSign_34 (by decide) ?_
          refine ab_iload_n C dX4_takeSign_35 rfl rfl ?_
          refine ab_callV C cl_RX4_20 (m_X4_openTerm B_t) (by decide) rfl s_t rfl rfl (Nat.le_of_ble_eq_true rfl) dX4_takeSign_36 (ab_kV (fun M_36 h_36 => ?_))
          subst h_36
          refine ab_iconst C dX4_takeSign_39 (by decide) ?_
          refine ab_iret (st := []) C r dX4_takeSign_40 ?_
          first
          | (refine ⟨_, rfl, same_tr (same_tr (same_tr (same_tr (same_up (by simp)) (same_up (by simp))) (same_up (by simp))) (same_up (by simp))) (same_up (by simp)), ?_⟩
             unfold rSign
             dsimp only [rsOf]
             rw [if_neg (by omega), if_pos h_25, ru, ru, ru, ru, ru]
             simp [up]; done)
          | (refine ⟨_, rfl, same_tr (same_upA (by simp)) (same_tr (same_tr (same_tr (same_tr (same_up (by simp)) (same_up (by simp))) (same_up (by simp))) (same_up (by simp))) (same_up (by simp))), ?_⟩
             unfold rSign
             dsimp only [rsOf]
             rw [if_neg (by omega), if_neg h_25, ru, ru, ru, ru, ru]
             have e : ∀ f : Int → Int, upA M (u + 1) f (u + 1) = f := fun f => by funext z; exact upA_s
             rw [e]
             simp [up, rl])
        · skip
          refine ab_aload_n C dX4_takeSign_28 rfl rfl ?_
          refine ab_aload_n C dX4_takeSign_29 rfl rfl ?_
          refine ab_callV C cl_RX4_42 (m_X4_closeTerm B_t (by assumption) (by omega) (by omega) (by omega) B_f hok) (by decide) rfl s_t rfl rfl (Nat.le_of_ble_eq_true rfl) dX4_takeSign_30 (ab_kV (fun M_30 h_30 => ?_))
          subst h_30
          refine ab_aload_n C dX4_takeSign_33 rfl rfl ?_
          refine ab_iconst C dX4_takeSign_34 (by decide) ?_
          refine ab_iload_n C dX4_takeSign_35 rfl rfl ?_
          refine ab_callV C cl_RX4_20 (m_X4_openTerm B_t) (by decide) rfl s_t rfl rfl (Nat.le_of_ble_eq_true rfl) dX4_takeSign_36 (ab_kV (fun M_36 h_36 => ?_))
          subst h_36
          refine ab_iconst C dX4_takeSign_39 (by decide) ?_
          refine ab_iret (st := []) C r dX4_takeSign_40 ?_
          first
          | (refine ⟨_, rfl, same_tr (same_tr (same_tr (same_tr (same_up (by simp)) (same_up (by simp))) (same_up (by simp))) (same_up (by simp))) (same_up (by simp)), ?_⟩
             unfold rSign
             dsimp only [rsOf]
             rw [if_neg (by omega), if_pos h_25, ru, ru, ru, ru, ru]
             simp [up]; done)
          | (refine ⟨_, rfl, same_tr (same_upA (by simp)) (same_tr (same_tr (same_tr (same_tr (same_up (by simp)) (same_up (by simp))) (same_up (by simp))) (same_up (by simp))) (same_up (by simp))), ?_⟩
             unfold rSign
             dsimp only [rsOf]
             rw [if_neg (by omega), if_neg h_25, ru, ru, ru, ru, ru]
             have e : ∀ f : Int → Int, upA M (u + 1) f (u + 1) = f := fun f => by funext z; exact upA_s
             rw [e]
             simp [up, rl])
      · skip
        refine ab_iload_n C dX4_takeSign_19 rfl rfl ?_
        refine ab_iret (st := []) C r dX4_takeSign_20 ?_
        refine ⟨_, rfl, same_rf _ _, ?_⟩
        unfold rSign
        dsimp only [rsOf]
        rw [if_pos (by omega)]
set_option maxRecDepth 100000 in
set_option maxHeartbeats 4000000 in
theorem m_X4_takeLetter {D : va_G} {cA : Nat → ClassId} {S : List AbS} {M : AbM} {rr a u : Nat} {n p : Int} (B_t : shRe S rr a) (A_t_alphabet : Al M a n p) (hr : rr < a ∨ a + 3 < rr) (hu : u + 1 < a ∨ a + 3 < u) (hru : rr < u ∨ u + 1 < rr) {l pl : Int} (hok : okR n (rsOf M rr)) : Meth yX4_takeLetter cX4_takeLetter 3 (some .int) rmX4_takeLetter D cA S [vP rr, vI l, vI pl] M (qI fun x M2 => same [rr, u + 1] M M2 ∧ (x, rsOf M2 rr, M2 (u + 1)) = rLetter n (rsOf M rr) (M (u + 1)) l pl) := by
  refine ab_intro (lv := [vP rr, vI l, vI pl]) (by decide +kernel) rfl (Nat.le_of_ble_eq_true rfl) ?_
  intro hO hargs K hKD hKA C r
  have C : Cx K cX4_takeLetter RX4 rmX4_takeLetter := C
  have i_l : inI l := hargs _ (List.mem_cons_of_mem _ (List.mem_cons_self))
  have i_pl : inI pl := hargs _ (List.mem_cons_of_mem _ (List.mem_cons_of_mem _ (List.mem_cons_self)))
  obtain ⟨s_t, B_t_alphabet⟩ := id B_t
  obtain ⟨s_t_alphabet, -⟩ := id B_t_alphabet
  obtain ⟨⟨n1, n2, hPr⟩, -⟩ := id A_t_alphabet
  obtain ⟨p1, p2, -⟩ := id hPr
  have hLB := Lg_B n
  have hk := hok
  obtain ⟨o1, o2, o3, o4, o5, o6⟩ := hk
  dsimp only [rsOf] at o1 o2 o3 o4 o5 o6
  have ru : ∀ (N : AbM) (i x : Int), up N rr i x (u + 1) = N (u + 1) := fun N i x => up_row (by omega)
  have hB := sz_B n1 n2 o4.1 o4.2
  refine ab_iload_n C dX4_takeLetter_0 rfl rfl ?_
  refine ab_if_lt (tgt := 29) C dX4_takeLetter_1 rfl (fun h_1 => ?_) (fun h_1 => ?_)
  · skip
    refine ab_iload_n C dX4_takeLetter_29 rfl rfl ?_
    refine ab_iret (st := []) C r dX4_takeLetter_30 ?_
    refine ⟨_, rfl, same_rf _ _, ?_⟩
    unfold rLetter
    dsimp only [rsOf]
    rw [if_neg (fun z => by have := z.1; have := z.2.1; have := z.2.2; omega)]
  · skip
    refine ab_iload_n C dX4_takeLetter_4 rfl rfl ?_
    refine ab_aload_n C dX4_takeLetter_5 rfl rfl ?_
    refine gf_RX4_9 C s_t rfl dX4_takeLetter_6 ?_
    refine ab_callV C cl_RX4_79 (m_X1_letters B_t_alphabet (by assumption)) (by decide) rfl s_t_alphabet rfl rfl (Nat.le_of_ble_eq_true rfl) dX4_takeLetter_9 (ab_kI (fun r_9 M_9 h_9 => ?_))
    obtain ⟨rfl, rfl⟩ := h_9
    refine ab_icmp_ge (tgt := 29) C dX4_takeLetter_12 rfl (fun h_12 => ?_) (fun h_12 => ?_)
    · skip
      refine ab_iload_n C dX4_takeLetter_29 rfl rfl ?_
      refine ab_iret (st := []) C r dX4_takeLetter_30 ?_
      refine ⟨_, rfl, same_rf _ _, ?_⟩
      unfold rLetter
      dsimp only [rsOf]
      rw [if_neg (fun z => by have := z.1; have := z.2.1; have := z.2.2; omega)]
    · skip
      refine ab_aload_n C dX4_takeLetter_15 rfl rfl ?_
      refine gf_RX4_56 C s_t rfl dX4_takeLetter_16 ?_
      refine ab_aload_n C dX4_takeLetter_19 rfl rfl ?_
      refine gf_RX4_9 C s_t rfl dX4_takeLetter_20 ?_
      refine ab_callV C cl_RX4_83 (m_X1_longest B_t_alphabet (by assumption)) (by decide) rfl s_t_alphabet rfl rfl (Nat.le_of_ble_eq_true rfl) dX4_takeLetter_23 (ab_kI (fun r_23 M_23 h_23 => ?_))
      obtain ⟨rfl, rfl⟩ := h_23
      refine ab_icmp_lt (tgt := 31) C dX4_takeLetter_26 rfl (fun h_26 => ?_) (fun h_26 => ?_)
      · skip
        refine ab_aload_n C dX4_takeLetter_31 rfl rfl ?_
        refine ab_aload_n C dX4_takeLetter_32 rfl rfl ?_
        refine gf_RX4_9 C s_t rfl dX4_takeLetter_33 ?_
        refine ab_aload_n C dX4_takeLetter_36 rfl rfl ?_
        refine gf_RX4_59 C s_t rfl dX4_takeLetter_37 ?_
        refine ab_iload_n C dX4_takeLetter_40 rfl rfl ?_
        refine ab_callV C cl_RX4_86 (m_X1_behind B_t_alphabet (by assumption) (by omega) (by omega) (by omega) (by omega)) (by decide) rfl s_t_alphabet rfl rfl (Nat.le_of_ble_eq_true rfl) dX4_takeLetter_41 (ab_kI (fun r_41 M_41 h_41 => ?_))
        obtain ⟨rfl, rfl⟩ := h_41
        refine pf_RX4_59 C s_t rfl dX4_takeLetter_44 ?_
        refine ab_aload_n C dX4_takeLetter_47 rfl rfl ?_
        refine ab_dup C dX4_takeLetter_48 rfl ?_
        refine gf_RX4_56 C s_t rfl dX4_takeLetter_49 ?_
        rw [up_i (by decide)]
        refine ab_iconst C dX4_takeLetter_52 (by decide) ?_
        refine ab_iadd C dX4_takeLetter_53 (by omega) ?_
        refine pf_RX4_56 C s_t rfl dX4_takeLetter_54 ?_
        refine ab_aload_n C dX4_takeLetter_57 rfl rfl ?_
        refine ab_iconst C dX4_takeLetter_58 (by decide) ?_
        refine pf_RX4_46 C s_t rfl dX4_takeLetter_59 ?_
        refine ab_iconst C dX4_takeLetter_62 (by decide) ?_
        refine ab_iret (st := []) C r dX4_takeLetter_63 ?_
        refine ⟨_, rfl, same_tr (same_tr (same_up (by simp)) (same_up (by simp))) (same_up (by simp)), ?_⟩
        unfold rLetter
        dsimp only [rsOf]
        rw [if_pos ⟨by omega, by omega, h_26⟩, ru, ru, ru]
        simp [up]
      · skip
        refine ab_iload_n C dX4_takeLetter_29 rfl rfl ?_
        refine ab_iret (st := []) C r dX4_takeLetter_30 ?_
        refine ⟨_, rfl, same_rf _ _, ?_⟩
        unfold rLetter
        dsimp only [rsOf]
        rw [if_neg (fun z => by have := z.1; have := z.2.1; have := z.2.2; omega)]
set_option maxRecDepth 100000 in
set_option maxHeartbeats 4000000 in
theorem m_X4_takeByte {D : va_G} {cA : Nat → ClassId} {S : List AbS} {M : AbM} {rr a u : Nat} {n p : Int} (B_t : shRe S rr a) (A_t_alphabet : Al M a n p) (hr : rr < a ∨ a + 3 < rr) (hu : u + 1 < a ∨ a + 3 < u) (hru : rr < u ∨ u + 1 < rr) {c pl : Int} (B_f : shSu S u a) (hok : okR n (rsOf M rr)) (c0 : 0 ≤ c) (c1 : c ≤ 255) : Meth yX4_takeByte cX4_takeByte 4 (some .int) rmX4_takeByte D cA S [vP rr, vI c, vI pl, vP u] M (qI fun x M2 => same [rr, u + 1] M M2 ∧ (x, rsOf M2 rr, M2 (u + 1)) = rByte n p (rsOf M rr) (M (u + 1)) c pl) := by
  refine ab_intro (lv := [vP rr, vI c, vI pl, vP u]) (by decide +kernel) rfl (Nat.le_of_ble_eq_true rfl) ?_
  intro hO hargs K hKD hKA C r
  have C : Cx K cX4_takeByte RX4 rmX4_takeByte := C
  have i_c : inI c := hargs _ (List.mem_cons_of_mem _ (List.mem_cons_self))
  have i_pl : inI pl := hargs _ (List.mem_cons_of_mem _ (List.mem_cons_of_mem _ (List.mem_cons_self)))
  obtain ⟨s_t, B_t_alphabet⟩ := id B_t
  obtain ⟨s_t_alphabet, -⟩ := id B_t_alphabet
  obtain ⟨⟨n1, n2, hPr⟩, -⟩ := id A_t_alphabet
  obtain ⟨p1, p2, -⟩ := id hPr
  have hLB := Lg_B n
  have ru : ∀ (N : AbM) (i x : Int), up N rr i x (u + 1) = N (u + 1) := fun N i x => up_row (by omega)
  refine ab_iload_n C dX4_takeByte_0 rfl rfl ?_
  refine ab_bipush C dX4_takeByte_1 (by decide) (by decide +kernel) ?_
  refine ab_icmp_ne (tgt := 21) C dX4_takeByte_3 rfl (fun h_3 => ?_) (fun h_3 => ?_)
  · skip
    refine ab_iload_n C dX4_takeByte_21 rfl rfl ?_
    refine ab_bipush C dX4_takeByte_22 (by decide) (by decide +kernel) ?_
    refine ab_icmp_lt (tgt := 43) C dX4_takeByte_24 rfl (fun h_24 => ?_) (fun h_24 => ?_)
    · skip
      refine ab_iload_n C dX4_takeByte_43 rfl rfl ?_
      refine ab_bipush C dX4_takeByte_44 (by decide) (by decide +kernel) ?_
      refine ab_icmp_eq (tgt := 55) C dX4_takeByte_46 rfl (fun h_46 => ?_) (fun h_46 => ?_)
      · skip
        refine ab_aload_n C dX4_takeByte_55 rfl rfl ?_
        refine ab_iload_n C dX4_takeByte_56 rfl rfl ?_
        refine ab_bipush C dX4_takeByte_57 (by decide) (by decide +kernel) ?_
        refine ab_icmp_ne (tgt := 66) C dX4_takeByte_59 rfl (fun h_59 => ?_) (fun h_59 => ?_)
        · skip
          refine ab_iconst C dX4_takeByte_66 (by decide) ?_
          refine ab_iload_n C dX4_takeByte_67 rfl rfl ?_
          refine ab_aload_n C dX4_takeByte_68 rfl rfl ?_
          refine ab_callV C cl_RX4_70 (m_X4_takeSign B_t (by assumption) (by omega) (by omega) (by omega) B_f hok) (by decide) rfl s_t rfl rfl (Nat.le_of_ble_eq_true rfl) dX4_takeByte_69 (ab_kI (fun r_69 M_69 h_69 => ?_))
          skip
          refine ab_iret (st := []) C r dX4_takeByte_72 ?_
          refine ⟨_, rfl, h_69.1, ?_⟩
          unfold rByte
          rw [if_neg h_3, if_neg (by omega), if_pos (by omega)]
          first
          | (rw [if_pos h_59]; exact h_69.2)
          | (rw [if_neg h_59]; exact h_69.2)
        · skip
          refine ab_iconst C dX4_takeByte_62 (by decide) ?_
          refine ab_goto (tgt := 67) C dX4_takeByte_63 rfl ?_
          refine ab_iload_n C dX4_takeByte_67 rfl rfl ?_
          refine ab_aload_n C dX4_takeByte_68 rfl rfl ?_
          refine ab_callV C cl_RX4_70 (m_X4_takeSign B_t (by assumption) (by omega) (by omega) (by omega) B_f hok) (by decide) rfl s_t rfl rfl (Nat.le_of_ble_eq_true rfl) dX4_takeByte_69 (ab_kI (fun r_69 M_69 h_69 => ?_))
          skip
          refine ab_iret (st := []) C r dX4_takeByte_72 ?_
          refine ⟨_, rfl, h_69.1, ?_⟩
          unfold rByte
          rw [if_neg h_3, if_neg (by omega), if_pos (by omega)]
          first
          | (rw [if_pos h_59]; exact h_69.2)
          | (rw [if_neg h_59]; exact h_69.2)
      · skip
        refine ab_iload_n C dX4_takeByte_49 rfl rfl ?_
        refine ab_bipush C dX4_takeByte_50 (by decide) (by decide +kernel) ?_
        refine ab_icmp_ne (tgt := 73) C dX4_takeByte_52 rfl (fun h_52 => ?_) (fun h_52 => ?_)
        · skip
          refine ab_aload_n C dX4_takeByte_73 rfl rfl ?_
          refine ab_iload_n C dX4_takeByte_74 rfl rfl ?_
          refine ab_bipush C dX4_takeByte_75 (by decide) (by decide +kernel) ?_
          refine ab_isub C dX4_takeByte_77 (by omega) ?_
          refine ab_iload_n C dX4_takeByte_78 rfl rfl ?_
          refine ab_callV C cl_RX4_73 (m_X4_takeLetter (u := u) B_t (by assumption) (by omega) (by omega) (by omega) hok) (by decide) rfl s_t rfl rfl (Nat.le_of_ble_eq_true rfl) dX4_takeByte_79 (ab_kI (fun r_79 M_79 h_79 => ?_))
          skip
          refine ab_iret (st := []) C r dX4_takeByte_82 ?_
          refine ⟨_, rfl, h_79.1, ?_⟩
          unfold rByte
          rw [if_neg h_3, if_neg (by omega), if_neg (by omega)]
          exact h_79.2
        · skip
          refine ab_aload_n C dX4_takeByte_55 rfl rfl ?_
          refine ab_iload_n C dX4_takeByte_56 rfl rfl ?_
          refine ab_bipush C dX4_takeByte_57 (by decide) (by decide +kernel) ?_
          refine ab_icmp_ne (tgt := 66) C dX4_takeByte_59 rfl (fun h_59 => ?_) (fun h_59 => ?_)
          · skip
            refine ab_iconst C dX4_takeByte_66 (by decide) ?_
            refine ab_iload_n C dX4_takeByte_67 rfl rfl ?_
            refine ab_aload_n C dX4_takeByte_68 rfl rfl ?_
            refine ab_callV C cl_RX4_70 (m_X4_takeSign B_t (by assumption) (by omega) (by omega) (by omega) B_f hok) (by decide) rfl s_t rfl rfl (Nat.le_of_ble_eq_true rfl) dX4_takeByte_69 (ab_kI (fun r_69 M_69 h_69 => ?_))
            skip
            refine ab_iret (st := []) C r dX4_takeByte_72 ?_
            refine ⟨_, rfl, h_69.1, ?_⟩
            unfold rByte
            rw [if_neg h_3, if_neg (by omega), if_pos (by omega)]
            first
            | (rw [if_pos h_59]; exact h_69.2)
            | (rw [if_neg h_59]; exact h_69.2)
          · skip
            refine ab_iconst C dX4_takeByte_62 (by decide) ?_
            refine ab_goto (tgt := 67) C dX4_takeByte_63 rfl ?_
            refine ab_iload_n C dX4_takeByte_67 rfl rfl ?_
            refine ab_aload_n C dX4_takeByte_68 rfl rfl ?_
            refine ab_callV C cl_RX4_70 (m_X4_takeSign B_t (by assumption) (by omega) (by omega) (by omega) B_f hok) (by decide) rfl s_t rfl rfl (Nat.le_of_ble_eq_true rfl) dX4_takeByte_69 (ab_kI (fun r_69 M_69 h_69 => ?_))
            skip
            refine ab_iret (st := []) C r dX4_takeByte_72 ?_
            refine ⟨_, rfl, h_69.1, ?_⟩
            unfold rByte
            rw [if_neg h_3, if_neg (by omega), if_pos (by omega)]
            first
            | (rw [if_pos h_59]; exact h_69.2)
            | (rw [if_neg h_59]; exact h_69.2)
    · skip
      refine ab_iload_n C dX4_takeByte_27 rfl rfl ?_
      refine ab_bipush C dX4_takeByte_28 (by decide) (by decide +kernel) ?_
      refine ab_icmp_gt (tgt := 43) C dX4_takeByte_30 rfl (fun h_30 => ?_) (fun h_30 => ?_)
      · skip
        refine ab_iload_n C dX4_takeByte_43 rfl rfl ?_
        refine ab_bipush C dX4_takeByte_44 (by decide) (by decide +kernel) ?_
        refine ab_icmp_eq (tgt := 55) C dX4_takeByte_46 rfl (fun h_46 => ?_) (fun h_46 => ?_)
        · skip
          refine ab_aload_n C dX4_takeByte_55 rfl rfl ?_
          refine ab_iload_n C dX4_takeByte_56 rfl rfl ?_
          refine ab_bipush C dX4_takeByte_57 (by decide) (by decide +kernel) ?_
          refine ab_icmp_ne (tgt := 66) C dX4_takeByte_59 rfl (fun h_59 => ?_) (fun h_59 => ?_)
          · skip
            refine ab_iconst C dX4_takeByte_66 (by decide) ?_
            refine ab_iload_n C dX4_takeByte_67 rfl rfl ?_
            refine ab_aload_n C dX4_takeByte_68 rfl rfl ?_
            refine ab_callV C cl_RX4_70 (m_X4_takeSign B_t (by assumption) (by omega) (by omega) (by omega) B_f hok) (by decide) rfl s_t rfl rfl (Nat.le_of_ble_eq_true rfl) dX4_takeByte_69 (ab_kI (fun r_69 M_69 h_69 => ?_))
            skip
            refine ab_iret (st := []) C r dX4_takeByte_72 ?_
            refine ⟨_, rfl, h_69.1, ?_⟩
            unfold rByte
            rw [if_neg h_3, if_neg (by omega), if_pos (by omega)]
            first
            | (rw [if_pos h_59]; exact h_69.2)
            | (rw [if_neg h_59]; exact h_69.2)
          · skip
            refine ab_iconst C dX4_takeByte_62 (by decide) ?_
            refine ab_goto (tgt := 67) C dX4_takeByte_63 rfl ?_
            refine ab_iload_n C dX4_takeByte_67 rfl rfl ?_
            refine ab_aload_n C dX4_takeByte_68 rfl rfl ?_
            refine ab_callV C cl_RX4_70 (m_X4_takeSign B_t (by assumption) (by omega) (by omega) (by omega) B_f hok) (by decide) rfl s_t rfl rfl (Nat.le_of_ble_eq_true rfl) dX4_takeByte_69 (ab_kI (fun r_69 M_69 h_69 => ?_))
            skip
            refine ab_iret (st := []) C r dX4_takeByte_72 ?_
            refine ⟨_, rfl, h_69.1, ?_⟩
            unfold rByte
            rw [if_neg h_3, if_neg (by omega), if_pos (by omega)]
            first
            | (rw [if_pos h_59]; exact h_69.2)
            | (rw [if_neg h_59]; exact h_69.2)
        · skip
          refine ab_iload_n C dX4_takeByte_49 rfl rfl ?_
          refine ab_bipush C dX4_takeByte_50 (by decide) (by decide +kernel) ?_
          refine ab_icmp_ne (tgt := 73) C dX4_takeByte_52 rfl (fun h_52 => ?_) (fun h_52 => ?_)
          · skip
            refine ab_aload_n C dX4_takeByte_73 rfl rfl ?_
            refine ab_iload_n C dX4_takeByte_74 rfl rfl ?_
            refine ab_bipush C dX4_takeByte_75 (by decide) (by decide +kernel) ?_
            refine ab_isub C dX4_takeByte_77 (by omega) ?_
            refine ab_iload_n C dX4_takeByte_78 rfl rfl ?_
            refine ab_callV C cl_RX4_73 (m_X4_takeLetter (u := u) B_t (by assumption) (by omega) (by omega) (by omega) hok) (by decide) rfl s_t rfl rfl (Nat.le_of_ble_eq_true rfl) dX4_takeByte_79 (ab_kI (fun r_79 M_79 h_79 => ?_))
            skip
            refine ab_iret (st := []) C r dX4_takeByte_82 ?_
            refine ⟨_, rfl, h_79.1, ?_⟩
            unfold rByte
            rw [if_neg h_3, if_neg (by omega), if_neg (by omega)]
            exact h_79.2
          · skip
            refine ab_aload_n C dX4_takeByte_55 rfl rfl ?_
            refine ab_iload_n C dX4_takeByte_56 rfl rfl ?_
            refine ab_bipush C dX4_takeByte_57 (by decide) (by decide +kernel) ?_
            refine ab_icmp_ne (tgt := 66) C dX4_takeByte_59 rfl (fun h_59 => ?_) (fun h_59 => ?_)
            · skip
              refine ab_iconst C dX4_takeByte_66 (by decide) ?_
              refine ab_iload_n C dX4_takeByte_67 rfl rfl ?_
              refine ab_aload_n C dX4_takeByte_68 rfl rfl ?_
              refine ab_callV C cl_RX4_70 (m_X4_takeSign B_t (by assumption) (by omega) (by omega) (by omega) B_f hok) (by decide) rfl s_t rfl rfl (Nat.le_of_ble_eq_true rfl) dX4_takeByte_69 (ab_kI (fun r_69 M_69 h_69 => ?_))
              skip
              refine ab_iret (st := []) C r dX4_takeByte_72 ?_
              refine ⟨_, rfl, h_69.1, ?_⟩
              unfold rByte
              rw [if_neg h_3, if_neg (by omega), if_pos (by omega)]
              first
              | (rw [if_pos h_59]; exact h_69.2)
              | (rw [if_neg h_59]; exact h_69.2)
            · skip
              refine ab_iconst C dX4_takeByte_62 (by decide) ?_
              refine ab_goto (tgt := 67) C dX4_takeByte_63 rfl ?_
              refine ab_iload_n C dX4_takeByte_67 rfl rfl ?_
              refine ab_aload_n C dX4_takeByte_68 rfl rfl ?_
              refine ab_callV C cl_RX4_70 (m_X4_takeSign B_t (by assumption) (by omega) (by omega) (by omega) B_f hok) (by decide) rfl s_t rfl rfl (Nat.le_of_ble_eq_true rfl) dX4_takeByte_69 (ab_kI (fun r_69 M_69 h_69 => ?_))
              skip
              refine ab_iret (st := []) C r dX4_takeByte_72 ?_
              refine ⟨_, rfl, h_69.1, ?_⟩
              unfold rByte
              rw [if_neg h_3, if_neg (by omega), if_pos (by omega)]
              first
              | (rw [if_pos h_59]; exact h_69.2)
              | (rw [if_neg h_59]; exact h_69.2)
      · skip
        refine ab_aload_n C dX4_takeByte_33 rfl rfl ?_
        refine ab_iload_n C dX4_takeByte_34 rfl rfl ?_
        refine ab_bipush C dX4_takeByte_35 (by decide) (by decide +kernel) ?_
        refine ab_isub C dX4_takeByte_37 (by omega) ?_
        refine ab_iload_n C dX4_takeByte_38 rfl rfl ?_
        refine ab_callV C cl_RX4_66 (m_X4_takeDigit (u := u) B_t (by assumption) (by omega) (by omega) (by omega) hok (by omega) (by omega)) (by decide) rfl s_t rfl rfl (Nat.le_of_ble_eq_true rfl) dX4_takeByte_39 (ab_kI (fun r_39 M_39 h_39 => ?_))
        skip
        refine ab_iret (st := []) C r dX4_takeByte_42 ?_
        refine ⟨_, rfl, h_39.1, ?_⟩
        unfold rByte
        rw [if_neg h_3, if_pos ⟨by omega, by omega⟩]
        exact h_39.2
  · skip
    refine ab_aload_n C dX4_takeByte_6 rfl rfl ?_
    refine gf_RX4_46 C s_t rfl dX4_takeByte_7 ?_
    refine ab_iconst C dX4_takeByte_10 (by decide) ?_
    refine ab_icmp_ne (tgt := 19) C dX4_takeByte_11 rfl (fun h_11 => ?_) (fun h_11 => ?_)
    · skip
      refine ab_iconst C dX4_takeByte_19 (by decide) ?_
      refine ab_iret (st := []) C r dX4_takeByte_20 ?_
      first
      | (refine ⟨_, rfl, same_up (by simp), ?_⟩
         unfold rByte
         rw [if_pos h_3, ru]
         have e : (rsOf M rr).1 = 2 := h_11
         rw [if_pos e]
         simp [up]; done)
      | (refine ⟨_, rfl, same_rf _ _, ?_⟩
         unfold rByte
         have e : ¬ (rsOf M rr).1 = 2 := h_11
         rw [if_pos h_3, if_neg e])
    · skip
      refine ab_aload_n C dX4_takeByte_14 rfl rfl ?_
      refine ab_iconst C dX4_takeByte_15 (by decide) ?_
      refine pf_RX4_46 C s_t rfl dX4_takeByte_16 ?_
      refine ab_iconst C dX4_takeByte_19 (by decide) ?_
      refine ab_iret (st := []) C r dX4_takeByte_20 ?_
      first
      | (refine ⟨_, rfl, same_up (by simp), ?_⟩
         unfold rByte
         rw [if_pos h_3, ru]
         have e : (rsOf M rr).1 = 2 := h_11
         rw [if_pos e]
         simp [up]; done)
      | (refine ⟨_, rfl, same_rf _ _, ?_⟩
         unfold rByte
         have e : ¬ (rsOf M rr).1 = 2 := h_11
         rw [if_pos h_3, if_neg e])
