set_option maxRecDepth 100000 in
set_option maxHeartbeats 4000000 in
theorem m_X0_numberAt {D : va_G} {cA : Nat → ClassId} {S : List AbS} {M : AbM} {b a g : Nat} {n p : Int} (B_t : shAg S b a g) (A_t_alphabet : Al M a n p) (hba : a + 3 < b) (hbg : g + 2 < b) {d v w : Int} (h0 : 0 ≤ d) (h1 : d ≤ Lg n) (v0 : 0 ≤ v) (v1 : v < pw n d) (w0 : 0 ≤ w) (w1 : w < pw n d) (hW : WF n p d (pw n d) (M (b + 1)) (M (b + 2))) : Meth yX0_numberAt cX0_numberAt 4 (some .int) rmX0_numberAt D cA S [vP b, vI d, vI v, vI w] M (qI fun r M2 => M = M2 ∧ rho n d (M (b + 1)) (M (b + 2)) w v = r) := by
  refine ab_intro (lv := [vP b, vI d, vI v, vI w]) (by decide +kernel) rfl (Nat.le_of_ble_eq_true rfl) ?_
  intro hO hargs K hKD hKA C r
  have C : Cx K cX0_numberAt RX0 rmX0_numberAt := C
  have i_d : inI d := hargs _ (List.mem_cons_of_mem _ (List.mem_cons_self))
  have i_v : inI v := hargs _ (List.mem_cons_of_mem _ (List.mem_cons_of_mem _ (List.mem_cons_self)))
  have i_w : inI w := hargs _ (List.mem_cons_of_mem _ (List.mem_cons_of_mem _ (List.mem_cons_of_mem _ (List.mem_cons_self))))
  obtain ⟨s_t, s_t_forms, s_t_leading, s_t_normals, s_t_leasts, s_t_middles, s_t_form, B_t_alphabet, B_t_lawList⟩ := id B_t
  obtain ⟨s_t_alphabet, -⟩ := id B_t_alphabet
  obtain ⟨s_t_lawList, -⟩ := id B_t_lawList
  obtain ⟨⟨n1, n2, hPr⟩, -⟩ := id A_t_alphabet
  obtain ⟨p1, p2, -⟩ := id hPr
  have hLB := Lg_B n
  have hB := sz_B n1 n2 h0 h1
  have htri := tri_lt w0 w1
  have htn := tri_nn w0
  have hw := hW w w0 w1
  refine ab_aload_n C dX0_numberAt_0 rfl rfl ?_
  refine gf_RX0_16 C s_t rfl dX0_numberAt_1 ?_
  refine ab_aload_n C dX0_numberAt_4 rfl rfl ?_
  refine gf_RX0_36 C s_t rfl dX0_numberAt_5 ?_
  refine ab_iload_n C dX0_numberAt_8 rfl rfl ?_
  refine ab_iload_n C dX0_numberAt_9 rfl rfl ?_
  refine ab_callV C cl_RX0_54 (m_X1_placeOf B_t_alphabet A_t_alphabet (by omega) (by omega) (by omega) (by omega)) (by decide) rfl s_t_alphabet rfl rfl (Nat.le_of_ble_eq_true rfl) dX0_numberAt_10 (ab_kI (fun r_10 M_10 h_10 => ?_))
  obtain ⟨rfl, rfl⟩ := h_10
  refine ab_baload C s_t_leading (by omega) (by omega) dX0_numberAt_13 ?_
  refine ab_if_ne (tgt := 28) C dX0_numberAt_14 rfl (fun h_14 => ?_) (fun h_14 => ?_)
  · skip
    have hl : ldq n d (M (b + 2)) w ≠ 0 := h_14
    refine ab_iload_n C dX0_numberAt_28 rfl rfl ?_
    refine ab_iload_n C dX0_numberAt_29 rfl rfl ?_
    refine ab_icmp_gt (tgt := 52) C dX0_numberAt_30 rfl (fun h_30 => ?_) (fun h_30 => ?_)
    · skip
      refine ab_iconst C dX0_numberAt_52 (by decide) ?_
      refine ab_iret (st := []) C r dX0_numberAt_53 ?_
      refine ⟨_, rfl, rfl, ?_⟩
      unfold rho
      rw [if_neg hl]
      first
      | (rw [if_neg (by omega)]; done)
      | (rcases (show v < w ∨ v = w by omega) with q | q
         · rw [if_pos ⟨v0, q⟩]; rfl
         · rw [if_neg (by omega)]
           subst q
           have := (hw.2 hl v v0 (by omega)).2.2
           by_cases z : fmq n d (M (b + 1)) v v = 0
           · exact z.symm
           · have := this z
             omega)
    · skip
      refine ab_aload_n C dX0_numberAt_33 rfl rfl ?_
      refine gf_RX0_10 C s_t rfl dX0_numberAt_34 ?_
      refine ab_aload_n C dX0_numberAt_37 rfl rfl ?_
      refine gf_RX0_36 C s_t rfl dX0_numberAt_38 ?_
      refine ab_iload_n C dX0_numberAt_41 rfl rfl ?_
      refine ab_iload_n C dX0_numberAt_42 rfl rfl ?_
      refine ab_callV C cl_RX0_106 (m_X1_formAt B_t_alphabet A_t_alphabet (by omega) (by omega) (by omega) (by omega)) (by decide) rfl s_t_alphabet rfl rfl (Nat.le_of_ble_eq_true rfl) dX0_numberAt_43 (ab_kI (fun r_43 M_43 h_43 => ?_))
      obtain ⟨rfl, rfl⟩ := h_43
      refine ab_iload_n C dX0_numberAt_46 rfl rfl ?_
      refine ab_iadd C dX0_numberAt_47 (by omega) ?_
      refine ab_iaload C s_t_forms (by omega) (by omega) dX0_numberAt_48 ?_
      refine ab_goto (tgt := 53) C dX0_numberAt_49 rfl ?_
      refine ab_iret (st := []) C r dX0_numberAt_53 ?_
      refine ⟨_, rfl, rfl, ?_⟩
      unfold rho
      rw [if_neg hl]
      first
      | (rw [if_neg (by omega)]; done)
      | (rcases (show v < w ∨ v = w by omega) with q | q
         · rw [if_pos ⟨v0, q⟩]; rfl
         · rw [if_neg (by omega)]
           subst q
           have := (hw.2 hl v v0 (by omega)).2.2
           by_cases z : fmq n d (M (b + 1)) v v = 0
           · exact z.symm
           · have := this z
             omega)
  · skip
    have hl : ldq n d (M (b + 2)) w = 0 := h_14
    refine ab_iload_n C dX0_numberAt_17 rfl rfl ?_
    refine ab_iload_n C dX0_numberAt_18 rfl rfl ?_
    refine ab_icmp_ne (tgt := 26) C dX0_numberAt_19 rfl (fun h_19 => ?_) (fun h_19 => ?_)
    · skip
      refine ab_iconst C dX0_numberAt_26 (by decide) ?_
      refine ab_iret (st := []) C r dX0_numberAt_27 ?_
      refine ⟨_, rfl, rfl, ?_⟩
      unfold rho
      rw [if_pos hl]
      first | rw [if_pos h_19] | rw [if_neg h_19]
    · skip
      refine ab_iconst C dX0_numberAt_22 (by decide) ?_
      refine ab_goto (tgt := 27) C dX0_numberAt_23 rfl ?_
      refine ab_iret (st := []) C r dX0_numberAt_27 ?_
      refine ⟨_, rfl, rfl, ?_⟩
      unfold rho
      rw [if_pos hl]
      first | rw [if_pos h_19] | rw [if_neg h_19]
set_option maxRecDepth 100000 in
set_option maxHeartbeats 4000000 in
theorem m_X0_isLeast {D : va_G} {cA : Nat → ClassId} {S : List AbS} {M : AbM} {b a g : Nat} {n p : Int} (B_t : shAg S b a g) (A_t_alphabet : Al M a n p) (hba : a + 3 < b) (hbg : g + 2 < b) {d w : Int} (h0 : 0 ≤ d) (h1 : d ≤ Lg n) (w0 : 0 ≤ w) (w1 : w < pw n d) : Meth yX0_isLeast cX0_isLeast 3 (some .boolean) rmX0_isLeast D cA S [vP b, vI d, vI w] M (qI fun r M2 => M = M2 ∧ lsF n d (M (b + 2)) w = r) := by
  refine ab_intro (lv := [vP b, vI d, vI w]) (by decide +kernel) rfl (Nat.le_of_ble_eq_true rfl) ?_
  intro hO hargs K hKD hKA C r
  have C : Cx K cX0_isLeast RX0 rmX0_isLeast := C
  have i_d : inI d := hargs _ (List.mem_cons_of_mem _ (List.mem_cons_self))
  have i_w : inI w := hargs _ (List.mem_cons_of_mem _ (List.mem_cons_of_mem _ (List.mem_cons_self)))
  obtain ⟨s_t, s_t_forms, s_t_leading, s_t_normals, s_t_leasts, s_t_middles, s_t_form, B_t_alphabet, B_t_lawList⟩ := id B_t
  obtain ⟨s_t_alphabet, -⟩ := id B_t_alphabet
  obtain ⟨s_t_lawList, -⟩ := id B_t_lawList
  obtain ⟨⟨n1, n2, hPr⟩, -⟩ := id A_t_alphabet
  obtain ⟨p1, p2, -⟩ := id hPr
  have hLB := Lg_B n
  have hB := sz_B n1 n2 h0 h1
  refine ab_iload_n C dX0_isLeast_0 rfl rfl ?_
  refine ab_if_le (tgt := 78) C dX0_isLeast_1 rfl (fun h_1 => ?_) (fun h_1 => ?_)
  · skip
    refine ab_iconst C dX0_isLeast_78 (by decide) ?_
    refine ab_zret (st := []) C r (by omega) dX0_isLeast_79 ?_
    refine ⟨_, rfl, rfl, ?_⟩
    unfold lsF ldq
    first
    | (rw [if_neg (fun z => absurd z.1 (by omega))]; done)
    | (rw [if_neg (fun z => z.2.1 h_18)]; done)
    | (rw [if_neg (fun z => h_45 z.2.2.1)]; done)
    | (rw [if_neg (fun z => h_71 z.2.2.2)]; done)
    | rw [if_pos ⟨by omega, h_18, h_45, h_71⟩]
  · skip
    have hB2 := sz_B (d := d - 1) n1 n2 (by omega) (by omega)
    obtain ⟨t0, t1, l0, l1, tl⟩ := tail_B n1 (show 1 ≤ d by omega) w0 w1
    obtain ⟨u0, u1, e0, e1, ul⟩ := head_B n1 (show 1 ≤ d by omega) w0 w1
    refine ab_aload_n C dX0_isLeast_4 rfl rfl ?_
    refine gf_RX0_16 C s_t rfl dX0_isLeast_5 ?_
    refine ab_aload_n C dX0_isLeast_8 rfl rfl ?_
    refine gf_RX0_36 C s_t rfl dX0_isLeast_9 ?_
    refine ab_iload_n C dX0_isLeast_12 rfl rfl ?_
    refine ab_iload_n C dX0_isLeast_13 rfl rfl ?_
    refine ab_callV C cl_RX0_54 (m_X1_placeOf B_t_alphabet A_t_alphabet (by omega) (by omega) (by omega) (by omega)) (by decide) rfl s_t_alphabet rfl rfl (Nat.le_of_ble_eq_true rfl) dX0_isLeast_14 (ab_kI (fun r_14 M_14 h_14 => ?_))
    obtain ⟨rfl, rfl⟩ := h_14
    refine ab_baload C s_t_leading (by omega) (by omega) dX0_isLeast_17 ?_
    refine ab_if_eq (tgt := 78) C dX0_isLeast_18 rfl (fun h_18 => ?_) (fun h_18 => ?_)
    · skip
      refine ab_iconst C dX0_isLeast_78 (by decide) ?_
      refine ab_zret (st := []) C r (by omega) dX0_isLeast_79 ?_
      refine ⟨_, rfl, rfl, ?_⟩
      unfold lsF ldq
      first
      | (rw [if_neg (fun z => absurd z.1 (by omega))]; done)
      | (rw [if_neg (fun z => z.2.1 h_18)]; done)
      | (rw [if_neg (fun z => h_45 z.2.2.1)]; done)
      | (rw [if_neg (fun z => h_71 z.2.2.2)]; done)
      | rw [if_pos ⟨by omega, h_18, h_45, h_71⟩]
    · skip
      refine ab_aload_n C dX0_isLeast_21 rfl rfl ?_
      refine gf_RX0_16 C s_t rfl dX0_isLeast_22 ?_
      refine ab_aload_n C dX0_isLeast_25 rfl rfl ?_
      refine gf_RX0_36 C s_t rfl dX0_isLeast_26 ?_
      refine ab_iload_n C dX0_isLeast_29 rfl rfl ?_
      refine ab_iconst C dX0_isLeast_30 (by decide) ?_
      refine ab_isub C dX0_isLeast_31 (by omega) ?_
      refine ab_aload_n C dX0_isLeast_32 rfl rfl ?_
      refine gf_RX0_36 C s_t rfl dX0_isLeast_33 ?_
      refine ab_iload_n C dX0_isLeast_36 rfl rfl ?_
      refine ab_iload_n C dX0_isLeast_37 rfl rfl ?_
      refine ab_callV C cl_RX0_109 (m_X1_withoutFirst B_t_alphabet A_t_alphabet (by omega) (by omega) (by omega) (by omega)) (by decide) rfl s_t_alphabet rfl rfl (Nat.le_of_ble_eq_true rfl) dX0_isLeast_38 (ab_kI (fun r_38 M_38 h_38 => ?_))
      obtain ⟨rfl, rfl⟩ := h_38
      refine ab_callV C cl_RX0_54 (m_X1_placeOf B_t_alphabet A_t_alphabet (by omega) (by omega) (by omega) (by omega)) (by decide) rfl s_t_alphabet rfl rfl (Nat.le_of_ble_eq_true rfl) dX0_isLeast_41 (ab_kI (fun r_41 M_41 h_41 => ?_))
      obtain ⟨rfl, rfl⟩ := h_41
      refine ab_baload C s_t_leading (by omega) (by omega) dX0_isLeast_44 ?_
      refine ab_if_ne (tgt := 78) C dX0_isLeast_45 rfl (fun h_45 => ?_) (fun h_45 => ?_)
      · skip
        refine ab_iconst C dX0_isLeast_78 (by decide) ?_
        refine ab_zret (st := []) C r (by omega) dX0_isLeast_79 ?_
        refine ⟨_, rfl, rfl, ?_⟩
        unfold lsF ldq
        first
        | (rw [if_neg (fun z => absurd z.1 (by omega))]; done)
        | (rw [if_neg (fun z => z.2.1 h_18)]; done)
        | (rw [if_neg (fun z => h_45 z.2.2.1)]; done)
        | (rw [if_neg (fun z => h_71 z.2.2.2)]; done)
        | rw [if_pos ⟨by omega, h_18, h_45, h_71⟩]
      · skip
        refine ab_aload_n C dX0_isLeast_48 rfl rfl ?_
        refine gf_RX0_16 C s_t rfl dX0_isLeast_49 ?_
        refine ab_aload_n C dX0_isLeast_52 rfl rfl ?_
        refine gf_RX0_36 C s_t rfl dX0_isLeast_53 ?_
        refine ab_iload_n C dX0_isLeast_56 rfl rfl ?_
        refine ab_iconst C dX0_isLeast_57 (by decide) ?_
        refine ab_isub C dX0_isLeast_58 (by omega) ?_
        refine ab_aload_n C dX0_isLeast_59 rfl rfl ?_
        refine gf_RX0_36 C s_t rfl dX0_isLeast_60 ?_
        refine ab_iload_n C dX0_isLeast_63 rfl rfl ?_
        refine ab_callV C cl_RX0_112 (m_X1_withoutLast B_t_alphabet A_t_alphabet (by omega)) (by decide) rfl s_t_alphabet rfl rfl (Nat.le_of_ble_eq_true rfl) dX0_isLeast_64 (ab_kI (fun r_64 M_64 h_64 => ?_))
        obtain ⟨rfl, rfl⟩ := h_64
        refine ab_callV C cl_RX0_54 (m_X1_placeOf B_t_alphabet A_t_alphabet (by omega) (by omega) (by omega) (by omega)) (by decide) rfl s_t_alphabet rfl rfl (Nat.le_of_ble_eq_true rfl) dX0_isLeast_67 (ab_kI (fun r_67 M_67 h_67 => ?_))
        obtain ⟨rfl, rfl⟩ := h_67
        refine ab_baload C s_t_leading (by omega) (by omega) dX0_isLeast_70 ?_
        refine ab_if_ne (tgt := 78) C dX0_isLeast_71 rfl (fun h_71 => ?_) (fun h_71 => ?_)
        · skip
          refine ab_iconst C dX0_isLeast_78 (by decide) ?_
          refine ab_zret (st := []) C r (by omega) dX0_isLeast_79 ?_
          refine ⟨_, rfl, rfl, ?_⟩
          unfold lsF ldq
          first
          | (rw [if_neg (fun z => absurd z.1 (by omega))]; done)
          | (rw [if_neg (fun z => z.2.1 h_18)]; done)
          | (rw [if_neg (fun z => h_45 z.2.2.1)]; done)
          | (rw [if_neg (fun z => h_71 z.2.2.2)]; done)
          | rw [if_pos ⟨by omega, h_18, h_45, h_71⟩]
        · skip
          refine ab_iconst C dX0_isLeast_74 (by decide) ?_
          refine ab_goto (tgt := 79) C dX0_isLeast_75 rfl ?_
          refine ab_zret (st := []) C r (by omega) dX0_isLeast_79 ?_
          refine ⟨_, rfl, rfl, ?_⟩
          unfold lsF ldq
          first
          | (rw [if_neg (fun z => absurd z.1 (by omega))]; done)
          | (rw [if_neg (fun z => z.2.1 h_18)]; done)
          | (rw [if_neg (fun z => h_45 z.2.2.1)]; done)
          | (rw [if_neg (fun z => h_71 z.2.2.2)]; done)
          | rw [if_pos ⟨by omega, h_18, h_45, h_71⟩]
set_option maxRecDepth 100000 in
set_option maxHeartbeats 4000000 in
theorem m_X0_settle {D : va_G} {cA : Nat → ClassId} {S : List AbS} {M : AbM} {b a g : Nat} {n p : Int} (B_t : shAg S b a g) (A_t_alphabet : Al M a n p) (hba : a + 3 < b) (hbg : g + 2 < b) {d : Int} (h0 : 0 ≤ d) (h1 : d ≤ Lg n) : Meth yX0_settle cX0_settle 3 none rmX0_settle D cA S [vP b, vI d] M (qV fun M2 => (if 0 < d then up (up (up M (b + 3) d (cntF (nlF n d (M (b + 2))) (pw n d))) (b + 4) d (cntF (lsF n d (M (b + 2))) (pw n d))) (b + 5) (d - 1) (-1) else (up (up M (b + 3) d (cntF (nlF n d (M (b + 2))) (pw n d))) (b + 4) d (cntF (lsF n d (M (b + 2))) (pw n d)))) = M2) := by
  refine ab_intro (lv := [vP b, vI d, vU]) (by decide +kernel) rfl (Nat.le_of_ble_eq_true rfl) ?_
  intro hO hargs K hKD hKA C r
  have C : Cx K cX0_settle RX0 rmX0_settle := C
  have i_d : inI d := hargs _ (List.mem_cons_of_mem _ (List.mem_cons_self))
  obtain ⟨s_t, s_t_forms, s_t_leading, s_t_normals, s_t_leasts, s_t_middles, s_t_form, B_t_alphabet, B_t_lawList⟩ := id B_t
  obtain ⟨s_t_alphabet, -⟩ := id B_t_alphabet
  obtain ⟨s_t_lawList, -⟩ := id B_t_lawList
  obtain ⟨⟨n1, n2, hPr⟩, -⟩ := id A_t_alphabet
  obtain ⟨p1, p2, -⟩ := id hPr
  have hLB := Lg_B n
  have hB := sz_B n1 n2 h0 h1
  have A0 := A_t_alphabet
  refine ab_aload_n C dX0_settle_0 rfl rfl ?_
  refine gf_RX0_20 C s_t rfl dX0_settle_1 ?_
  refine ab_iload_n C dX0_settle_4 rfl rfl ?_
  refine ab_iconst C dX0_settle_5 (by decide) ?_
  refine ab_iastore C s_t_normals (by omega) (by omega) dX0_settle_6 ?_
  refine ab_aload_n C dX0_settle_7 rfl rfl ?_
  refine gf_RX0_23 C s_t rfl dX0_settle_8 ?_
  refine ab_iload_n C dX0_settle_11 rfl rfl ?_
  refine ab_iconst C dX0_settle_12 (by decide) ?_
  refine ab_iastore C s_t_leasts (by omega) (by omega) dX0_settle_13 ?_
  refine ab_iconst C dX0_settle_14 (by decide) ?_
  refine ab_istore2 (lv := []) C rfl dX0_settle_15 ?_
  refine ab_mem (M2 := (up (up M (b + 3) d (cntF (nlF n d (M (b + 2))) 0)) (b + 4) d (cntF (lsF n d (M (b + 2))) 0))) (by rw [cntF_0, cntF_0]) ?_
  refine ab_loop (fun i (_ : Unit) => AJ K S 16 [vP b, vI d, vI i] [] (up (up M (b + 3) d (cntF (nlF n d (M (b + 2))) i)) (b + 4) d (cntF (lsF n d (M (b + 2))) i))) (fun i _ => 0 ≤ i) (pw n d) ?_ 0 () (by omega) (by omega)
  · intro i _ hi i0 ih
    have A_t_alphabet : Al (up (up M (b + 3) d (cntF (nlF n d (M (b + 2))) i)) (b + 4) d (cntF (lsF n d (M (b + 2))) i)) a n p := (A0.up (by omega)).up (by omega)
    have e2 : (up (up M (b + 3) d (cntF (nlF n d (M (b + 2))) i)) (b + 4) d (cntF (lsF n d (M (b + 2))) i)) (b + 2) = M (b + 2) := by rw [up_row (by omega), up_row (by omega)]
    have e3 : (up (up M (b + 3) d (cntF (nlF n d (M (b + 2))) i)) (b + 4) d (cntF (lsF n d (M (b + 2))) i)) (b + 3) d = cntF (nlF n d (M (b + 2))) i := by rw [up_k (by omega), up_s]
    have e4 : (up (up M (b + 3) d (cntF (nlF n d (M (b + 2))) i)) (b + 4) d (cntF (lsF n d (M (b + 2))) i)) (b + 4) d = cntF (lsF n d (M (b + 2))) i := up_s
    have c1 := cntF_B (f := nlF n d (M (b + 2))) i0
    have c2 := cntF_B (f := lsF n d (M (b + 2))) i0
    refine ab_iload_n C dX0_settle_16 rfl rfl ?_
    refine ab_aload_n C dX0_settle_17 rfl rfl ?_
    refine gf_RX0_36 C s_t rfl dX0_settle_18 ?_
    refine ab_iload_n C dX0_settle_21 rfl rfl ?_
    refine ab_callV C cl_RX0_59 (m_X1_words B_t_alphabet A_t_alphabet (by omega) (by omega)) (by decide) rfl s_t_alphabet rfl rfl (Nat.le_of_ble_eq_true rfl) dX0_settle_22 (ab_kI (fun r_22 M_22 h_22 => ?_))
    obtain ⟨rfl, rfl⟩ := h_22
    refine ab_icmp_ge (tgt := 83) C dX0_settle_25 rfl (fun h_25 => ?_) (fun h_25 => ?_)
    · skip
      have e9 : i = pw n d := by omega
      rw [e9]
      refine ab_iload_n C dX0_settle_83 rfl rfl ?_
      refine ab_if_le (tgt := 96) C dX0_settle_84 rfl (fun h_84 => ?_) (fun h_84 => ?_)
      · skip
        refine ab_vret (st := []) C r dX0_settle_96 ?_
        first
        | exact ⟨rfl, if_neg (by omega)⟩
        | exact ⟨rfl, if_pos (by omega)⟩
      · skip
        refine ab_aload_n C dX0_settle_87 rfl rfl ?_
        refine gf_RX0_26 C s_t rfl dX0_settle_88 ?_
        refine ab_iload_n C dX0_settle_91 rfl rfl ?_
        refine ab_iconst C dX0_settle_92 (by decide) ?_
        refine ab_isub C dX0_settle_93 (by omega) ?_
        refine ab_iconst C dX0_settle_94 (by decide) ?_
        refine ab_iastore C s_t_middles (by omega) (by omega) dX0_settle_95 ?_
        refine ab_vret (st := []) C r dX0_settle_96 ?_
        first
        | exact ⟨rfl, if_neg (by omega)⟩
        | exact ⟨rfl, if_pos (by omega)⟩
    · skip
      refine ab_aload_n C dX0_settle_28 rfl rfl ?_
      refine gf_RX0_16 C s_t rfl dX0_settle_29 ?_
      refine ab_aload_n C dX0_settle_32 rfl rfl ?_
      refine gf_RX0_36 C s_t rfl dX0_settle_33 ?_
      refine ab_iload_n C dX0_settle_36 rfl rfl ?_
      refine ab_iload_n C dX0_settle_37 rfl rfl ?_
      refine ab_callV C cl_RX0_54 (m_X1_placeOf B_t_alphabet A_t_alphabet (by omega) (by omega) (by omega) (by omega)) (by decide) rfl s_t_alphabet rfl rfl (Nat.le_of_ble_eq_true rfl) dX0_settle_38 (ab_kI (fun r_38 M_38 h_38 => ?_))
      obtain ⟨rfl, rfl⟩ := h_38
      refine ab_baload C s_t_leading (by omega) (by omega) dX0_settle_41 ?_
      refine ab_if_ne (tgt := 58) C dX0_settle_42 rfl (fun h_42 => ?_) (fun h_42 => ?_)
      · skip
        have hl : ldq n d (M (b + 2)) i ≠ 0 := by rw [e2] at h_42; exact h_42
        refine ab_aload_n C dX0_settle_58 rfl rfl ?_
        refine ab_iload_n C dX0_settle_59 rfl rfl ?_
        refine ab_iload_n C dX0_settle_60 rfl rfl ?_
        refine ab_callV C cl_RX0_63 (m_X0_isLeast B_t (by assumption) (by omega) (by omega) (by omega) (by omega) (by omega) (by omega)) (by decide) rfl s_t rfl rfl (Nat.le_of_ble_eq_true rfl) dX0_settle_61 (ab_kI (fun r_61 M_61 h_61 => ?_))
        obtain ⟨rfl, rfl⟩ := h_61
        refine ab_if_eq (tgt := 77) C dX0_settle_64 rfl (fun h_64 => ?_) (fun h_64 => ?_)
        · skip
          refine ab_iinc2 (lv := []) C rfl dX0_settle_77 (by omega) ?_
          refine ab_goto (tgt := 16) C dX0_settle_80 rfl ?_
          refine ab_mem (M2 := (up (up M (b + 3) d (cntF (nlF n d (M (b + 2))) (i + 1))) (b + 4) d (cntF (lsF n d (M (b + 2))) (i + 1)))) ?_ (ih () (by omega) (by omega))
          rw [cntF_s i0, cntF_s i0]
          first
          | (have z1 : nlF n d (M (b + 2)) i = 1 := if_pos hl
             have z2 : lsF n d (M (b + 2)) i = 0 := if_neg (fun z => z.2.1 hl)
             rw [z1, z2, if_neg (by decide), if_pos rfl, Int.add_zero, up_comm (show b + 4 ≠ b + 3 by omega), up_up])
          | (have z1 : nlF n d (M (b + 2)) i = 0 := if_neg hl
             rw [e2] at h_64
             rw [z1, if_pos rfl, h_64, if_pos rfl, Int.add_zero, Int.add_zero])
          | (have z1 : nlF n d (M (b + 2)) i = 0 := if_neg hl
             rw [e2] at h_64
             rw [z1, if_pos rfl, if_neg h_64, Int.add_zero, up_up])
        · skip
          refine ab_aload_n C dX0_settle_67 rfl rfl ?_
          refine gf_RX0_23 C s_t rfl dX0_settle_68 ?_
          refine ab_iload_n C dX0_settle_71 rfl rfl ?_
          refine ab_dup2 C dX0_settle_72 rfl rfl ?_
          refine ab_iaload C s_t_leasts (by omega) (by omega) dX0_settle_73 ?_
          refine ab_iconst C dX0_settle_74 (by decide) ?_
          rw [e4]
          refine ab_iadd C dX0_settle_75 (by omega) ?_
          refine ab_iastore C s_t_leasts (by omega) (by omega) dX0_settle_76 ?_
          refine ab_iinc2 (lv := []) C rfl dX0_settle_77 (by omega) ?_
          refine ab_goto (tgt := 16) C dX0_settle_80 rfl ?_
          refine ab_mem (M2 := (up (up M (b + 3) d (cntF (nlF n d (M (b + 2))) (i + 1))) (b + 4) d (cntF (lsF n d (M (b + 2))) (i + 1)))) ?_ (ih () (by omega) (by omega))
          rw [cntF_s i0, cntF_s i0]
          first
          | (have z1 : nlF n d (M (b + 2)) i = 1 := if_pos hl
             have z2 : lsF n d (M (b + 2)) i = 0 := if_neg (fun z => z.2.1 hl)
             rw [z1, z2, if_neg (by decide), if_pos rfl, Int.add_zero, up_comm (show b + 4 ≠ b + 3 by omega), up_up])
          | (have z1 : nlF n d (M (b + 2)) i = 0 := if_neg hl
             rw [e2] at h_64
             rw [z1, if_pos rfl, h_64, if_pos rfl, Int.add_zero, Int.add_zero])
          | (have z1 : nlF n d (M (b + 2)) i = 0 := if_neg hl
             rw [e2] at h_64
             rw [z1, if_pos rfl, if_neg h_64, Int.add_zero, up_up])
      · skip
        have hl : ldq n d (M (b + 2)) i = 0 := by rw [e2] at h_42; exact h_42
        refine ab_aload_n C dX0_settle_45 rfl rfl ?_
        refine gf_RX0_20 C s_t rfl dX0_settle_46 ?_
        refine ab_iload_n C dX0_settle_49 rfl rfl ?_
        refine ab_dup2 C dX0_settle_50 rfl rfl ?_
        refine ab_iaload C s_t_normals (by omega) (by omega) dX0_settle_51 ?_
        refine ab_iconst C dX0_settle_52 (by decide) ?_
        rw [e3]
        refine ab_iadd C dX0_settle_53 (by omega) ?_
        refine ab_iastore C s_t_normals (by omega) (by omega) dX0_settle_54 ?_
        refine ab_goto (tgt := 77) C dX0_settle_55 rfl ?_
        refine ab_iinc2 (lv := []) C rfl dX0_settle_77 (by omega) ?_
        refine ab_goto (tgt := 16) C dX0_settle_80 rfl ?_
        refine ab_mem (M2 := (up (up M (b + 3) d (cntF (nlF n d (M (b + 2))) (i + 1))) (b + 4) d (cntF (lsF n d (M (b + 2))) (i + 1)))) ?_ (ih () (by omega) (by omega))
        rw [cntF_s i0, cntF_s i0]
        first
        | (have z1 : nlF n d (M (b + 2)) i = 1 := if_pos hl
           have z2 : lsF n d (M (b + 2)) i = 0 := if_neg (fun z => z.2.1 hl)
           rw [z1, z2, if_neg (by decide), if_pos rfl, Int.add_zero, up_comm (show b + 4 ≠ b + 3 by omega), up_up])
        | (have z1 : nlF n d (M (b + 2)) i = 0 := if_neg hl
           rw [e2] at h_64
           rw [z1, if_pos rfl, h_64, if_pos rfl, Int.add_zero, Int.add_zero])
        | (have z1 : nlF n d (M (b + 2)) i = 0 := if_neg hl
           rw [e2] at h_64
           rw [z1, if_pos rfl, if_neg h_64, Int.add_zero, up_up])
