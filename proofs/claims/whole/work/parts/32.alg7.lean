set_option maxRecDepth 100000 in
set_option maxHeartbeats 4000000 in
theorem m_X0_normalsOf {D : va_G} {cA : Nat → ClassId} {S : List AbS} {M : AbM} {b a g : Nat} {n p : Int} (B_t : shAg S b a g) (A_t_alphabet : Al M a n p) (hba : a + 3 < b) (hbg : g + 2 < b) (hL : LawsOK n p M g) (hO2 : AlgOK n p M b g) {d : Int} (h0 : 0 ≤ d) (h1 : d ≤ Lg n) : Meth yX0_normalsOf cX0_normalsOf 2 (some .int) rmX0_normalsOf D cA S [vP b, vI d] M (qI fun r M2 => same [b, b + 1, b + 2, b + 3, b + 4, b + 5, b + 6] M M2 ∧ AlgOK n p M2 b g ∧ d ≤ M2 b 8 ∧ sNm n p (M g 2) (M (g + 1)) (M (g + 2)) d = r) := by
  refine ab_intro (lv := [vP b, vI d]) (by decide +kernel) rfl (Nat.le_of_ble_eq_true rfl) ?_
  intro hO hargs K hKD hKA C r
  have C : Cx K cX0_normalsOf RX0 rmX0_normalsOf := C
  have i_d : inI d := hargs _ (List.mem_cons_of_mem _ (List.mem_cons_self))
  obtain ⟨s_t, s_t_forms, s_t_leading, s_t_normals, s_t_leasts, s_t_middles, s_t_form, B_t_alphabet, B_t_lawList⟩ := id B_t
  obtain ⟨s_t_alphabet, -⟩ := id B_t_alphabet
  obtain ⟨s_t_lawList, -⟩ := id B_t_lawList
  obtain ⟨⟨n1, n2, hPr⟩, -⟩ := id A_t_alphabet
  obtain ⟨p1, p2, -⟩ := id hPr
  have hLB := Lg_B n
  refine ab_aload_n C dX0_normalsOf_0 rfl rfl ?_
  refine ab_iload_n C dX0_normalsOf_1 rfl rfl ?_
  refine ab_callV C cl_RX0_50 (m_X0_prepare B_t (by assumption) (by omega) (by omega) hL hO2 (by omega)) (by decide) rfl s_t rfl rfl (Nat.le_of_ble_eq_true rfl) dX0_normalsOf_2 (ab_kV (fun M_2 h_2 => ?_))
  obtain ⟨hs, hA2, hr2⟩ := h_2
  have A_t_alphabet := hs.al A_t_alphabet (by intro k hk; simp only [List.mem_cons, List.not_mem_nil, or_false] at hk; omega)
  have g0 : M_2 g = M g := hs g (by simp; omega)
  have g1 : M_2 (g + 1) = M (g + 1) := hs (g + 1) (by simp; omega)
  have g2 : M_2 (g + 2) = M (g + 2) := hs (g + 2) (by simp; omega)
  have hdn := hA2.2.2.1 d (by omega) (by omega)
  have hsm := alg_same p1 n1 hA2 (show 0 ≤ d by omega) (show d ≤ M_2 b 8 by omega)
  rw [g0, g1, g2] at hsm
  refine ab_aload_n C dX0_normalsOf_5 rfl rfl ?_
  refine gf_RX0_20 C s_t rfl dX0_normalsOf_6 ?_
  refine ab_iload_n C dX0_normalsOf_9 rfl rfl ?_
  refine ab_iaload C s_t_normals (by omega) (by omega) dX0_normalsOf_10 ?_
  refine ab_iret (st := []) C r dX0_normalsOf_11 ?_
  refine ⟨_, rfl, hs, hA2, by omega, ?_⟩
  rw [hdn.2.1, alg_nm p1 n1 hA2 h0 (by omega), g0, g1, g2]
set_option maxRecDepth 100000 in
set_option maxHeartbeats 4000000 in
theorem m_X0_leastLawsOf {D : va_G} {cA : Nat → ClassId} {S : List AbS} {M : AbM} {b a g : Nat} {n p : Int} (B_t : shAg S b a g) (A_t_alphabet : Al M a n p) (hba : a + 3 < b) (hbg : g + 2 < b) (hL : LawsOK n p M g) (hO2 : AlgOK n p M b g) {d : Int} (h0 : 0 ≤ d) (h1 : d ≤ Lg n) : Meth yX0_leastLawsOf cX0_leastLawsOf 2 (some .int) rmX0_leastLawsOf D cA S [vP b, vI d] M (qI fun r M2 => same [b, b + 1, b + 2, b + 3, b + 4, b + 5, b + 6] M M2 ∧ AlgOK n p M2 b g ∧ d ≤ M2 b 8 ∧ sLs n p (M g 2) (M (g + 1)) (M (g + 2)) d = r) := by
  refine ab_intro (lv := [vP b, vI d]) (by decide +kernel) rfl (Nat.le_of_ble_eq_true rfl) ?_
  intro hO hargs K hKD hKA C r
  have C : Cx K cX0_leastLawsOf RX0 rmX0_leastLawsOf := C
  have i_d : inI d := hargs _ (List.mem_cons_of_mem _ (List.mem_cons_self))
  obtain ⟨s_t, s_t_forms, s_t_leading, s_t_normals, s_t_leasts, s_t_middles, s_t_form, B_t_alphabet, B_t_lawList⟩ := id B_t
  obtain ⟨s_t_alphabet, -⟩ := id B_t_alphabet
  obtain ⟨s_t_lawList, -⟩ := id B_t_lawList
  obtain ⟨⟨n1, n2, hPr⟩, -⟩ := id A_t_alphabet
  obtain ⟨p1, p2, -⟩ := id hPr
  have hLB := Lg_B n
  refine ab_aload_n C dX0_leastLawsOf_0 rfl rfl ?_
  refine ab_iload_n C dX0_leastLawsOf_1 rfl rfl ?_
  refine ab_callV C cl_RX0_50 (m_X0_prepare B_t (by assumption) (by omega) (by omega) hL hO2 (by omega)) (by decide) rfl s_t rfl rfl (Nat.le_of_ble_eq_true rfl) dX0_leastLawsOf_2 (ab_kV (fun M_2 h_2 => ?_))
  obtain ⟨hs, hA2, hr2⟩ := h_2
  have A_t_alphabet := hs.al A_t_alphabet (by intro k hk; simp only [List.mem_cons, List.not_mem_nil, or_false] at hk; omega)
  have g0 : M_2 g = M g := hs g (by simp; omega)
  have g1 : M_2 (g + 1) = M (g + 1) := hs (g + 1) (by simp; omega)
  have g2 : M_2 (g + 2) = M (g + 2) := hs (g + 2) (by simp; omega)
  have hdn := hA2.2.2.1 d (by omega) (by omega)
  have hsm := alg_same p1 n1 hA2 (show 0 ≤ d by omega) (show d ≤ M_2 b 8 by omega)
  rw [g0, g1, g2] at hsm
  refine ab_aload_n C dX0_leastLawsOf_5 rfl rfl ?_
  refine gf_RX0_23 C s_t rfl dX0_leastLawsOf_6 ?_
  refine ab_iload_n C dX0_leastLawsOf_9 rfl rfl ?_
  refine ab_iaload C s_t_leasts (by omega) (by omega) dX0_leastLawsOf_10 ?_
  refine ab_iret (st := []) C r dX0_leastLawsOf_11 ?_
  refine ⟨_, rfl, hs, hA2, by omega, ?_⟩
  rw [hdn.2.2]
  unfold sLs lsC
  refine (cntF_congr (fun w a c => ?_)).symm
  rw [alg_ls p1 n1 hA2 h0 (by omega) a c, g0, g1, g2]
set_option maxRecDepth 100000 in
set_option maxHeartbeats 4000000 in
theorem m_X0_isLeading {D : va_G} {cA : Nat → ClassId} {S : List AbS} {M : AbM} {b a g : Nat} {n p : Int} (B_t : shAg S b a g) (A_t_alphabet : Al M a n p) (hba : a + 3 < b) (hbg : g + 2 < b) (hL : LawsOK n p M g) (hO2 : AlgOK n p M b g) {d : Int} (h0 : 0 ≤ d) (h1 : d ≤ Lg n) {w : Int} (w0 : 0 ≤ w) (w1 : w < pw n d) : Meth yX0_isLeading cX0_isLeading 3 (some .boolean) rmX0_isLeading D cA S [vP b, vI d, vI w] M (qI fun r M2 => same [b, b + 1, b + 2, b + 3, b + 4, b + 5, b + 6] M M2 ∧ AlgOK n p M2 b g ∧ d ≤ M2 b 8 ∧ sld n p (M g 2) (M (g + 1)) (M (g + 2)) d w = r) := by
  refine ab_intro (lv := [vP b, vI d, vI w]) (by decide +kernel) rfl (Nat.le_of_ble_eq_true rfl) ?_
  intro hO hargs K hKD hKA C r
  have C : Cx K cX0_isLeading RX0 rmX0_isLeading := C
  have i_d : inI d := hargs _ (List.mem_cons_of_mem _ (List.mem_cons_self))
  have i_w : inI w := hargs _ (List.mem_cons_of_mem _ (List.mem_cons_of_mem _ (List.mem_cons_self)))
  obtain ⟨s_t, s_t_forms, s_t_leading, s_t_normals, s_t_leasts, s_t_middles, s_t_form, B_t_alphabet, B_t_lawList⟩ := id B_t
  obtain ⟨s_t_alphabet, -⟩ := id B_t_alphabet
  obtain ⟨s_t_lawList, -⟩ := id B_t_lawList
  obtain ⟨⟨n1, n2, hPr⟩, -⟩ := id A_t_alphabet
  obtain ⟨p1, p2, -⟩ := id hPr
  have hLB := Lg_B n
  have hB := sz_B n1 n2 h0 h1
  refine ab_aload_n C dX0_isLeading_0 rfl rfl ?_
  refine ab_iload_n C dX0_isLeading_1 rfl rfl ?_
  refine ab_callV C cl_RX0_50 (m_X0_prepare B_t (by assumption) (by omega) (by omega) hL hO2 (by omega)) (by decide) rfl s_t rfl rfl (Nat.le_of_ble_eq_true rfl) dX0_isLeading_2 (ab_kV (fun M_2 h_2 => ?_))
  obtain ⟨hs, hA2, hr2⟩ := h_2
  have A_t_alphabet := hs.al A_t_alphabet (by intro k hk; simp only [List.mem_cons, List.not_mem_nil, or_false] at hk; omega)
  have g0 : M_2 g = M g := hs g (by simp; omega)
  have g1 : M_2 (g + 1) = M (g + 1) := hs (g + 1) (by simp; omega)
  have g2 : M_2 (g + 2) = M (g + 2) := hs (g + 2) (by simp; omega)
  have hdn := hA2.2.2.1 d (by omega) (by omega)
  have hsm := alg_same p1 n1 hA2 (show 0 ≤ d by omega) (show d ≤ M_2 b 8 by omega)
  rw [g0, g1, g2] at hsm
  refine ab_aload_n C dX0_isLeading_5 rfl rfl ?_
  refine gf_RX0_16 C s_t rfl dX0_isLeading_6 ?_
  refine ab_aload_n C dX0_isLeading_9 rfl rfl ?_
  refine gf_RX0_36 C s_t rfl dX0_isLeading_10 ?_
  refine ab_iload_n C dX0_isLeading_13 rfl rfl ?_
  refine ab_iload_n C dX0_isLeading_14 rfl rfl ?_
  refine ab_callV C cl_RX0_54 (m_X1_placeOf B_t_alphabet A_t_alphabet (by omega) (by omega) (by omega) (by omega)) (by decide) rfl s_t_alphabet rfl rfl (Nat.le_of_ble_eq_true rfl) dX0_isLeading_15 (ab_kI (fun r_15 M_15 h_15 => ?_))
  obtain ⟨rfl, rfl⟩ := h_15
  refine ab_baload C s_t_leading (by omega) (by omega) dX0_isLeading_18 ?_
  refine ab_zret (st := []) C r ((hdn.1.1 w w0 w1).1) dX0_isLeading_19 ?_
  exact ⟨_, rfl, hs, hA2, by omega, ((hsm w w0 w1).1).symm⟩
set_option maxRecDepth 100000 in
set_option maxHeartbeats 4000000 in
theorem m_X0_normalWord {D : va_G} {cA : Nat → ClassId} {S : List AbS} {M : AbM} {b a g : Nat} {n p : Int} (B_t : shAg S b a g) (A_t_alphabet : Al M a n p) (hba : a + 3 < b) (hbg : g + 2 < b) (hL : LawsOK n p M g) (hO2 : AlgOK n p M b g) {d : Int} (h0 : 0 ≤ d) (h1 : d ≤ Lg n) {i : Int} (i0 : 0 ≤ i) : Meth yX0_normalWord cX0_normalWord 5 (some .int) rmX0_normalWord D cA S [vP b, vI d, vI i] M (qI fun r M2 => same [b, b + 1, b + 2, b + 3, b + 4, b + 5, b + 6] M M2 ∧ AlgOK n p M2 b g ∧ d ≤ M2 b 8 ∧ nthF (nlA (sld n p (M g 2) (M (g + 1)) (M (g + 2)) d)) (pw n d) i = r) := by
  refine ab_intro (lv := [vP b, vI d, vI i, vU, vU]) (by decide +kernel) rfl (Nat.le_of_ble_eq_true rfl) ?_
  intro hO hargs K hKD hKA C r
  have C : Cx K cX0_normalWord RX0 rmX0_normalWord := C
  have i_d : inI d := hargs _ (List.mem_cons_of_mem _ (List.mem_cons_self))
  have i_i : inI i := hargs _ (List.mem_cons_of_mem _ (List.mem_cons_of_mem _ (List.mem_cons_self)))
  obtain ⟨s_t, s_t_forms, s_t_leading, s_t_normals, s_t_leasts, s_t_middles, s_t_form, B_t_alphabet, B_t_lawList⟩ := id B_t
  obtain ⟨s_t_alphabet, -⟩ := id B_t_alphabet
  obtain ⟨s_t_lawList, -⟩ := id B_t_lawList
  obtain ⟨⟨n1, n2, hPr⟩, -⟩ := id A_t_alphabet
  obtain ⟨p1, p2, -⟩ := id hPr
  have hLB := Lg_B n
  have hB := sz_B n1 n2 h0 h1
  refine ab_aload_n C dX0_normalWord_0 rfl rfl ?_
  refine ab_iload_n C dX0_normalWord_1 rfl rfl ?_
  refine ab_callV C cl_RX0_50 (m_X0_prepare B_t (by assumption) (by omega) (by omega) hL hO2 (by omega)) (by decide) rfl s_t rfl rfl (Nat.le_of_ble_eq_true rfl) dX0_normalWord_2 (ab_kV (fun M_2 h_2 => ?_))
  obtain ⟨hs, hA2, hr2⟩ := h_2
  have A_t_alphabet := hs.al A_t_alphabet (by intro k hk; simp only [List.mem_cons, List.not_mem_nil, or_false] at hk; omega)
  have g0 : M_2 g = M g := hs g (by simp; omega)
  have g1 : M_2 (g + 1) = M (g + 1) := hs (g + 1) (by simp; omega)
  have g2 : M_2 (g + 2) = M (g + 2) := hs (g + 2) (by simp; omega)
  have hdn := hA2.2.2.1 d (by omega) (by omega)
  have hsm := alg_same p1 n1 hA2 (show 0 ≤ d by omega) (show d ≤ M_2 b 8 by omega)
  rw [g0, g1, g2] at hsm
  refine ab_iload_n C dX0_normalWord_5 rfl rfl ?_
  refine ab_istore3 (lv := []) C rfl dX0_normalWord_6 ?_
  refine ab_iconst C dX0_normalWord_7 (by decide) ?_
  refine ab_istore4 (lv := []) C rfl dX0_normalWord_8 ?_
  refine ab_loop (fun w (x : Int) => AJ K S 10 [vP b, vI d, vI i, vI x, vI w] [] M_2) (fun w x => 0 ≤ w ∧ x = i - cntF (nlA (sld n p (M g 2) (M (g + 1)) (M (g + 2)) d)) w ∧ 0 ≤ x) (pw n d) ?_ 0 i (by omega) ⟨by omega, by rw [cntF_0]; omega, by omega⟩
  · intro w x hw hI ih
    obtain ⟨w0, hx, hx0⟩ := hI
    have cB := cntF_B (f := (nlA (sld n p (M g 2) (M (g + 1)) (M (g + 2)) d))) w0
    refine ab_iload C dX0_normalWord_10 rfl ?_
    refine ab_aload_n C dX0_normalWord_12 rfl rfl ?_
    refine gf_RX0_36 C s_t rfl dX0_normalWord_13 ?_
    refine ab_iload_n C dX0_normalWord_16 rfl rfl ?_
    refine ab_callV C cl_RX0_59 (m_X1_words B_t_alphabet A_t_alphabet (by omega) (by omega)) (by decide) rfl s_t_alphabet rfl rfl (Nat.le_of_ble_eq_true rfl) dX0_normalWord_17 (ab_kI (fun r_17 M_17 h_17 => ?_))
    obtain ⟨rfl, rfl⟩ := h_17
    refine ab_icmp_ge (tgt := 57) C dX0_normalWord_20 rfl (fun h_20 => ?_) (fun h_20 => ?_)
    · skip
      refine ab_iconst C dX0_normalWord_57 (by decide) ?_
      refine ab_iret (st := []) C r dX0_normalWord_58 ?_
      refine ⟨_, rfl, hs, hA2, by omega, ?_⟩
      have e9 : w = pw n d := by omega
      rw [e9] at hx
      exact nthF_out (by omega) (Or.inr (by omega))
    · skip
      refine ab_aload_n C dX0_normalWord_23 rfl rfl ?_
      refine gf_RX0_16 C s_t rfl dX0_normalWord_24 ?_
      refine ab_aload_n C dX0_normalWord_27 rfl rfl ?_
      refine gf_RX0_36 C s_t rfl dX0_normalWord_28 ?_
      refine ab_iload_n C dX0_normalWord_31 rfl rfl ?_
      refine ab_iload C dX0_normalWord_32 rfl ?_
      refine ab_callV C cl_RX0_54 (m_X1_placeOf B_t_alphabet A_t_alphabet (by omega) (by omega) (by omega) (by omega)) (by decide) rfl s_t_alphabet rfl rfl (Nat.le_of_ble_eq_true rfl) dX0_normalWord_34 (ab_kI (fun r_34 M_34 h_34 => ?_))
      obtain ⟨rfl, rfl⟩ := h_34
      refine ab_baload C s_t_leading (by omega) (by omega) dX0_normalWord_37 ?_
      refine ab_if_ne (tgt := 51) C dX0_normalWord_38 rfl (fun h_38 => ?_) (fun h_38 => ?_)
      · skip
        refine ab_iinc4 (lv := []) C rfl dX0_normalWord_51 (by omega) ?_
        refine ab_goto (tgt := 10) C dX0_normalWord_54 rfl ?_
        refine ih _ (by omega) ⟨by omega, ?_, by omega⟩
        rw [cntF_s w0]
        first
        | (have z : (nlA (sld n p (M g 2) (M (g + 1)) (M (g + 2)) d)) w = 0 := by unfold nlA; rw [← (hsm w w0 (by omega)).1]; exact if_neg h_38
           rw [if_pos z]; omega)
        | (have z : (nlA (sld n p (M g 2) (M (g + 1)) (M (g + 2)) d)) w = 1 := by unfold nlA; rw [← (hsm w w0 (by omega)).1]; exact if_pos h_38
           rw [z, if_neg (by decide)]; omega)
      · skip
        refine ab_iload_n C dX0_normalWord_41 rfl rfl ?_
        refine ab_if_ne (tgt := 48) C dX0_normalWord_42 rfl (fun h_42 => ?_) (fun h_42 => ?_)
        · skip
          refine ab_iinc3 (lv := []) C rfl dX0_normalWord_48 (by omega) ?_
          refine ab_iinc4 (lv := []) C rfl dX0_normalWord_51 (by omega) ?_
          refine ab_goto (tgt := 10) C dX0_normalWord_54 rfl ?_
          refine ih _ (by omega) ⟨by omega, ?_, by omega⟩
          rw [cntF_s w0]
          first
          | (have z : (nlA (sld n p (M g 2) (M (g + 1)) (M (g + 2)) d)) w = 0 := by unfold nlA; rw [← (hsm w w0 (by omega)).1]; exact if_neg h_38
             rw [if_pos z]; omega)
          | (have z : (nlA (sld n p (M g 2) (M (g + 1)) (M (g + 2)) d)) w = 1 := by unfold nlA; rw [← (hsm w w0 (by omega)).1]; exact if_pos h_38
             rw [z, if_neg (by decide)]; omega)
        · skip
          refine ab_iload C dX0_normalWord_45 rfl ?_
          refine ab_iret (st := []) C r dX0_normalWord_47 ?_
          refine ⟨_, rfl, hs, hA2, by omega, ?_⟩
          have z : (nlA (sld n p (M g 2) (M (g + 1)) (M (g + 2)) d)) w ≠ 0 := by
            have z : (nlA (sld n p (M g 2) (M (g + 1)) (M (g + 2)) d)) w = 1 := by unfold nlA; rw [← (hsm w w0 (by omega)).1]; exact if_pos h_38
            rw [z]; decide
          rw [show i = cntF (nlA (sld n p (M g 2) (M (g + 1)) (M (g + 2)) d)) w by omega]
          exact nthF_at w0 (by omega) z
set_option maxRecDepth 100000 in
set_option maxHeartbeats 4000000 in
theorem m_X0_leastWord {D : va_G} {cA : Nat → ClassId} {S : List AbS} {M : AbM} {b a g : Nat} {n p : Int} (B_t : shAg S b a g) (A_t_alphabet : Al M a n p) (hba : a + 3 < b) (hbg : g + 2 < b) (hL : LawsOK n p M g) (hO2 : AlgOK n p M b g) {d : Int} (h0 : 0 ≤ d) (h1 : d ≤ Lg n) {i : Int} (i0 : 0 ≤ i) : Meth yX0_leastWord cX0_leastWord 5 (some .int) rmX0_leastWord D cA S [vP b, vI d, vI i] M (qI fun r M2 => same [b, b + 1, b + 2, b + 3, b + 4, b + 5, b + 6] M M2 ∧ AlgOK n p M2 b g ∧ d ≤ M2 b 8 ∧ nthF (lsA n d (sld n p (M g 2) (M (g + 1)) (M (g + 2)) (d - 1)) (sld n p (M g 2) (M (g + 1)) (M (g + 2)) d)) (pw n d) i = r) := by
  refine ab_intro (lv := [vP b, vI d, vI i, vU, vU]) (by decide +kernel) rfl (Nat.le_of_ble_eq_true rfl) ?_
  intro hO hargs K hKD hKA C r
  have C : Cx K cX0_leastWord RX0 rmX0_leastWord := C
  have i_d : inI d := hargs _ (List.mem_cons_of_mem _ (List.mem_cons_self))
  have i_i : inI i := hargs _ (List.mem_cons_of_mem _ (List.mem_cons_of_mem _ (List.mem_cons_self)))
  obtain ⟨s_t, s_t_forms, s_t_leading, s_t_normals, s_t_leasts, s_t_middles, s_t_form, B_t_alphabet, B_t_lawList⟩ := id B_t
  obtain ⟨s_t_alphabet, -⟩ := id B_t_alphabet
  obtain ⟨s_t_lawList, -⟩ := id B_t_lawList
  obtain ⟨⟨n1, n2, hPr⟩, -⟩ := id A_t_alphabet
  obtain ⟨p1, p2, -⟩ := id hPr
  have hLB := Lg_B n
  have hB := sz_B n1 n2 h0 h1
  refine ab_aload_n C dX0_leastWord_0 rfl rfl ?_
  refine ab_iload_n C dX0_leastWord_1 rfl rfl ?_
  refine ab_callV C cl_RX0_50 (m_X0_prepare B_t (by assumption) (by omega) (by omega) hL hO2 (by omega)) (by decide) rfl s_t rfl rfl (Nat.le_of_ble_eq_true rfl) dX0_leastWord_2 (ab_kV (fun M_2 h_2 => ?_))
  obtain ⟨hs, hA2, hr2⟩ := h_2
  have A_t_alphabet := hs.al A_t_alphabet (by intro k hk; simp only [List.mem_cons, List.not_mem_nil, or_false] at hk; omega)
  have g0 : M_2 g = M g := hs g (by simp; omega)
  have g1 : M_2 (g + 1) = M (g + 1) := hs (g + 1) (by simp; omega)
  have g2 : M_2 (g + 2) = M (g + 2) := hs (g + 2) (by simp; omega)
  have hdn := hA2.2.2.1 d (by omega) (by omega)
  have hsm := alg_same p1 n1 hA2 (show 0 ≤ d by omega) (show d ≤ M_2 b 8 by omega)
  rw [g0, g1, g2] at hsm
  refine ab_iload_n C dX0_leastWord_5 rfl rfl ?_
  refine ab_istore3 (lv := []) C rfl dX0_leastWord_6 ?_
  refine ab_iconst C dX0_leastWord_7 (by decide) ?_
  refine ab_istore4 (lv := []) C rfl dX0_leastWord_8 ?_
  refine ab_loop (fun w (x : Int) => AJ K S 10 [vP b, vI d, vI i, vI x, vI w] [] M_2) (fun w x => 0 ≤ w ∧ x = i - cntF (lsA n d (sld n p (M g 2) (M (g + 1)) (M (g + 2)) (d - 1)) (sld n p (M g 2) (M (g + 1)) (M (g + 2)) d)) w ∧ 0 ≤ x) (pw n d) ?_ 0 i (by omega) ⟨by omega, by rw [cntF_0]; omega, by omega⟩
  · intro w x hw hI ih
    obtain ⟨w0, hx, hx0⟩ := hI
    have cB := cntF_B (f := (lsA n d (sld n p (M g 2) (M (g + 1)) (M (g + 2)) (d - 1)) (sld n p (M g 2) (M (g + 1)) (M (g + 2)) d))) w0
    refine ab_iload C dX0_leastWord_10 rfl ?_
    refine ab_aload_n C dX0_leastWord_12 rfl rfl ?_
    refine gf_RX0_36 C s_t rfl dX0_leastWord_13 ?_
    refine ab_iload_n C dX0_leastWord_16 rfl rfl ?_
    refine ab_callV C cl_RX0_59 (m_X1_words B_t_alphabet A_t_alphabet (by omega) (by omega)) (by decide) rfl s_t_alphabet rfl rfl (Nat.le_of_ble_eq_true rfl) dX0_leastWord_17 (ab_kI (fun r_17 M_17 h_17 => ?_))
    obtain ⟨rfl, rfl⟩ := h_17
    refine ab_icmp_ge (tgt := 49) C dX0_leastWord_20 rfl (fun h_20 => ?_) (fun h_20 => ?_)
    · skip
      refine ab_iconst C dX0_leastWord_49 (by decide) ?_
      refine ab_iret (st := []) C r dX0_leastWord_50 ?_
      refine ⟨_, rfl, hs, hA2, by omega, ?_⟩
      have e9 : w = pw n d := by omega
      rw [e9] at hx
      exact nthF_out (by omega) (Or.inr (by omega))
    · skip
      refine ab_aload_n C dX0_leastWord_23 rfl rfl ?_
      refine ab_iload_n C dX0_leastWord_24 rfl rfl ?_
      refine ab_iload C dX0_leastWord_25 rfl ?_
      refine ab_callV C cl_RX0_63 (m_X0_isLeast B_t (by assumption) (by omega) (by omega) (by omega) (by omega) (by omega) (by omega)) (by decide) rfl s_t rfl rfl (Nat.le_of_ble_eq_true rfl) dX0_leastWord_27 (ab_kI (fun r_27 M_27 h_27 => ?_))
      obtain ⟨rfl, rfl⟩ := h_27
      have els := alg_ls p1 n1 hA2 h0 (show d ≤ M_2 b 8 by omega) w0 (show w < pw n d by omega)
      rw [g0, g1, g2] at els
      rw [els]
      refine ab_if_eq (tgt := 43) C dX0_leastWord_30 rfl (fun h_30 => ?_) (fun h_30 => ?_)
      · skip
        refine ab_iinc4 (lv := []) C rfl dX0_leastWord_43 (by omega) ?_
        refine ab_goto (tgt := 10) C dX0_leastWord_46 rfl ?_
        refine ih _ (by omega) ⟨by omega, ?_, by omega⟩
        rw [cntF_s w0]
        first
        | (rw [if_pos h_30]; omega)
        | (rw [if_neg h_30]; omega)
      · skip
        refine ab_iload_n C dX0_leastWord_33 rfl rfl ?_
        refine ab_if_ne (tgt := 40) C dX0_leastWord_34 rfl (fun h_34 => ?_) (fun h_34 => ?_)
        · skip
          refine ab_iinc3 (lv := []) C rfl dX0_leastWord_40 (by omega) ?_
          refine ab_iinc4 (lv := []) C rfl dX0_leastWord_43 (by omega) ?_
          refine ab_goto (tgt := 10) C dX0_leastWord_46 rfl ?_
          refine ih _ (by omega) ⟨by omega, ?_, by omega⟩
          rw [cntF_s w0]
          first
          | (rw [if_pos h_30]; omega)
          | (rw [if_neg h_30]; omega)
        · skip
          refine ab_iload C dX0_leastWord_37 rfl ?_
          refine ab_iret (st := []) C r dX0_leastWord_39 ?_
          refine ⟨_, rfl, hs, hA2, by omega, ?_⟩
          rw [show i = cntF (lsA n d (sld n p (M g 2) (M (g + 1)) (M (g + 2)) (d - 1)) (sld n p (M g 2) (M (g + 1)) (M (g + 2)) d)) w by omega]
          exact nthF_at w0 (by omega) h_30
set_option maxRecDepth 100000 in
set_option maxHeartbeats 4000000 in
theorem m_X0_numberInForm {D : va_G} {cA : Nat → ClassId} {S : List AbS} {M : AbM} {b a g : Nat} {n p : Int} (B_t : shAg S b a g) (A_t_alphabet : Al M a n p) (hba : a + 3 < b) (hbg : g + 2 < b) (hL : LawsOK n p M g) (hO2 : AlgOK n p M b g) {d : Int} (h0 : 0 ≤ d) (h1 : d ≤ Lg n) {v w : Int} (v0 : 0 ≤ v) (v1 : v < pw n d) (w0 : 0 ≤ w) (w1 : w < pw n d) : Meth yX0_numberInForm cX0_numberInForm 4 (some .int) rmX0_numberInForm D cA S [vP b, vI d, vI v, vI w] M (qI fun r M2 => same [b, b + 1, b + 2, b + 3, b + 4, b + 5, b + 6] M M2 ∧ AlgOK n p M2 b g ∧ d ≤ M2 b 8 ∧ srh n p (M g 2) (M (g + 1)) (M (g + 2)) d w v = r) := by
  refine ab_intro (lv := [vP b, vI d, vI v, vI w]) (by decide +kernel) rfl (Nat.le_of_ble_eq_true rfl) ?_
  intro hO hargs K hKD hKA C r
  have C : Cx K cX0_numberInForm RX0 rmX0_numberInForm := C
  have i_d : inI d := hargs _ (List.mem_cons_of_mem _ (List.mem_cons_self))
  have i_v : inI v := hargs _ (List.mem_cons_of_mem _ (List.mem_cons_of_mem _ (List.mem_cons_self)))
  have i_w : inI w := hargs _ (List.mem_cons_of_mem _ (List.mem_cons_of_mem _ (List.mem_cons_of_mem _ (List.mem_cons_self))))
  obtain ⟨s_t, s_t_forms, s_t_leading, s_t_normals, s_t_leasts, s_t_middles, s_t_form, B_t_alphabet, B_t_lawList⟩ := id B_t
  obtain ⟨s_t_alphabet, -⟩ := id B_t_alphabet
  obtain ⟨s_t_lawList, -⟩ := id B_t_lawList
  obtain ⟨⟨n1, n2, hPr⟩, -⟩ := id A_t_alphabet
  obtain ⟨p1, p2, -⟩ := id hPr
  have hLB := Lg_B n
  refine ab_aload_n C dX0_numberInForm_0 rfl rfl ?_
  refine ab_iload_n C dX0_numberInForm_1 rfl rfl ?_
  refine ab_callV C cl_RX0_50 (m_X0_prepare B_t (by assumption) (by omega) (by omega) hL hO2 (by omega)) (by decide) rfl s_t rfl rfl (Nat.le_of_ble_eq_true rfl) dX0_numberInForm_2 (ab_kV (fun M_2 h_2 => ?_))
  obtain ⟨hs, hA2, hr2⟩ := h_2
  have A_t_alphabet := hs.al A_t_alphabet (by intro k hk; simp only [List.mem_cons, List.not_mem_nil, or_false] at hk; omega)
  have g0 : M_2 g = M g := hs g (by simp; omega)
  have g1 : M_2 (g + 1) = M (g + 1) := hs (g + 1) (by simp; omega)
  have g2 : M_2 (g + 2) = M (g + 2) := hs (g + 2) (by simp; omega)
  have hdn := hA2.2.2.1 d (by omega) (by omega)
  have hsm := alg_same p1 n1 hA2 (show 0 ≤ d by omega) (show d ≤ M_2 b 8 by omega)
  rw [g0, g1, g2] at hsm
  refine ab_aload_n C dX0_numberInForm_5 rfl rfl ?_
  refine ab_iload_n C dX0_numberInForm_6 rfl rfl ?_
  refine ab_iload_n C dX0_numberInForm_7 rfl rfl ?_
  refine ab_iload_n C dX0_numberInForm_8 rfl rfl ?_
  refine ab_callV C cl_RX0_67 (m_X0_numberAt B_t (by assumption) (by omega) (by omega) (by omega) (by omega) (by omega) (by omega) (by omega) (by omega) hdn.1.1) (by decide) rfl s_t rfl rfl (Nat.le_of_ble_eq_true rfl) dX0_numberInForm_9 (ab_kI (fun r_9 M_9 h_9 => ?_))
  obtain ⟨rfl, rfl⟩ := h_9
  refine ab_iret (st := []) C r dX0_numberInForm_12 ?_
  exact ⟨_, rfl, hs, hA2, by omega, ((hsm w w0 w1).2 v).symm⟩
set_option maxRecDepth 100000 in
set_option maxHeartbeats 4000000 in
theorem m_X0_termsInForm {D : va_G} {cA : Nat → ClassId} {S : List AbS} {M : AbM} {b a g : Nat} {n p : Int} (B_t : shAg S b a g) (A_t_alphabet : Al M a n p) (hba : a + 3 < b) (hbg : g + 2 < b) (hL : LawsOK n p M g) (hO2 : AlgOK n p M b g) {d : Int} (h0 : 0 ≤ d) (h1 : d ≤ Lg n) {w : Int} (w0 : 0 ≤ w) (w1 : w < pw n d) : Meth yX0_termsInForm cX0_termsInForm 5 (some .int) rmX0_termsInForm D cA S [vP b, vI d, vI w] M (qI fun r M2 => same [b, b + 1, b + 2, b + 3, b + 4, b + 5, b + 6] M M2 ∧ AlgOK n p M2 b g ∧ d ≤ M2 b 8 ∧ cntF (srh n p (M g 2) (M (g + 1)) (M (g + 2)) d w) (w + 1) = r) := by
  refine ab_intro (lv := [vP b, vI d, vI w, vU, vU]) (by decide +kernel) rfl (Nat.le_of_ble_eq_true rfl) ?_
  intro hO hargs K hKD hKA C r
  have C : Cx K cX0_termsInForm RX0 rmX0_termsInForm := C
  have i_d : inI d := hargs _ (List.mem_cons_of_mem _ (List.mem_cons_self))
  have i_w : inI w := hargs _ (List.mem_cons_of_mem _ (List.mem_cons_of_mem _ (List.mem_cons_self)))
  obtain ⟨s_t, s_t_forms, s_t_leading, s_t_normals, s_t_leasts, s_t_middles, s_t_form, B_t_alphabet, B_t_lawList⟩ := id B_t
  obtain ⟨s_t_alphabet, -⟩ := id B_t_alphabet
  obtain ⟨s_t_lawList, -⟩ := id B_t_lawList
  obtain ⟨⟨n1, n2, hPr⟩, -⟩ := id A_t_alphabet
  obtain ⟨p1, p2, -⟩ := id hPr
  have hLB := Lg_B n
  have hB := sz_B n1 n2 h0 h1
  refine ab_aload_n C dX0_termsInForm_0 rfl rfl ?_
  refine ab_iload_n C dX0_termsInForm_1 rfl rfl ?_
  refine ab_callV C cl_RX0_50 (m_X0_prepare B_t (by assumption) (by omega) (by omega) hL hO2 (by omega)) (by decide) rfl s_t rfl rfl (Nat.le_of_ble_eq_true rfl) dX0_termsInForm_2 (ab_kV (fun M_2 h_2 => ?_))
  obtain ⟨hs, hA2, hr2⟩ := h_2
  have A_t_alphabet := hs.al A_t_alphabet (by intro k hk; simp only [List.mem_cons, List.not_mem_nil, or_false] at hk; omega)
  have g0 : M_2 g = M g := hs g (by simp; omega)
  have g1 : M_2 (g + 1) = M (g + 1) := hs (g + 1) (by simp; omega)
  have g2 : M_2 (g + 2) = M (g + 2) := hs (g + 2) (by simp; omega)
  have hdn := hA2.2.2.1 d (by omega) (by omega)
  have hsm := alg_same p1 n1 hA2 (show 0 ≤ d by omega) (show d ≤ M_2 b 8 by omega)
  rw [g0, g1, g2] at hsm
  refine ab_iconst C dX0_termsInForm_5 (by decide) ?_
  refine ab_istore3 (lv := []) C rfl dX0_termsInForm_6 ?_
  refine ab_iconst C dX0_termsInForm_7 (by decide) ?_
  refine ab_istore4 (lv := []) C rfl dX0_termsInForm_8 ?_
  refine ab_loop (fun v (_ : Unit) => AJ K S 10 [vP b, vI d, vI w, vI (cntF (srh n p (M g 2) (M (g + 1)) (M (g + 2)) d w) v), vI v] [] M_2) (fun v _ => 0 ≤ v) (w + 1) ?_ 0 () (by omega) (by omega)
  · intro v _ hv v0 ih
    have cB := cntF_B (f := srh n p (M g 2) (M (g + 1)) (M (g + 2)) d w) v0
    rw [cntF_s v0] at ih
    refine ab_iload C dX0_termsInForm_10 rfl ?_
    refine ab_iload_n C dX0_termsInForm_12 rfl rfl ?_
    refine ab_icmp_gt (tgt := 36) C dX0_termsInForm_13 rfl (fun h_13 => ?_) (fun h_13 => ?_)
    · skip
      refine ab_iload_n C dX0_termsInForm_36 rfl rfl ?_
      refine ab_iret (st := []) C r dX0_termsInForm_37 ?_
      refine ⟨_, rfl, hs, hA2, by omega, ?_⟩
      rw [show v = w + 1 by omega]
    · skip
      refine ab_aload_n C dX0_termsInForm_16 rfl rfl ?_
      refine ab_iload_n C dX0_termsInForm_17 rfl rfl ?_
      refine ab_iload C dX0_termsInForm_18 rfl ?_
      refine ab_iload_n C dX0_termsInForm_20 rfl rfl ?_
      refine ab_callV C cl_RX0_67 (m_X0_numberAt B_t (by assumption) (by omega) (by omega) (by omega) (by omega) (by omega) (by omega) (by omega) (by omega) hdn.1.1) (by decide) rfl s_t rfl rfl (Nat.le_of_ble_eq_true rfl) dX0_termsInForm_21 (ab_kI (fun r_21 M_21 h_21 => ?_))
      obtain ⟨rfl, rfl⟩ := h_21
      rw [(hsm w w0 w1).2 v]
      refine ab_if_eq (tgt := 30) C dX0_termsInForm_24 rfl (fun h_24 => ?_) (fun h_24 => ?_)
      · skip
        refine ab_iinc4 (lv := []) C rfl dX0_termsInForm_30 (by omega) ?_
        refine ab_goto (tgt := 10) C dX0_termsInForm_33 rfl ?_
        first
        | (rw [if_pos h_24, Int.add_zero] at ih; exact ih () (by omega) (by omega))
        | (rw [if_neg h_24] at ih; exact ih () (by omega) (by omega))
      · skip
        refine ab_iinc3 (lv := []) C rfl dX0_termsInForm_27 (by omega) ?_
        refine ab_iinc4 (lv := []) C rfl dX0_termsInForm_30 (by omega) ?_
        refine ab_goto (tgt := 10) C dX0_termsInForm_33 rfl ?_
        first
        | (rw [if_pos h_24, Int.add_zero] at ih; exact ih () (by omega) (by omega))
        | (rw [if_neg h_24] at ih; exact ih () (by omega) (by omega))
set_option maxRecDepth 100000 in
set_option maxHeartbeats 4000000 in
theorem m_X0_forgetFrom {D : va_G} {cA : Nat → ClassId} {S : List AbS} {M : AbM} {b a g : Nat} {n p : Int} (B_t : shAg S b a g) (A_t_alphabet : Al M a n p) (hba : a + 3 < b) (hbg : g + 2 < b) {d : Int} (h0 : 0 ≤ d) (h1 : d ≤ 100) : Meth yX0_forgetFrom cX0_forgetFrom 2 none rmX0_forgetFrom D cA S [vP b, vI d] M (qV fun M2 => up M b 8 (min (M b 8) (d - 1)) = M2) := by
  refine ab_intro (lv := [vP b, vI d]) (by decide +kernel) rfl (Nat.le_of_ble_eq_true rfl) ?_
  intro hO hargs K hKD hKA C r
  have C : Cx K cX0_forgetFrom RX0 rmX0_forgetFrom := C
  have i_d : inI d := hargs _ (List.mem_cons_of_mem _ (List.mem_cons_self))
  obtain ⟨s_t, s_t_forms, s_t_leading, s_t_normals, s_t_leasts, s_t_middles, s_t_form, B_t_alphabet, B_t_lawList⟩ := id B_t
  obtain ⟨s_t_alphabet, -⟩ := id B_t_alphabet
  obtain ⟨s_t_lawList, -⟩ := id B_t_lawList
  obtain ⟨⟨n1, n2, hPr⟩, -⟩ := id A_t_alphabet
  obtain ⟨p1, p2, -⟩ := id hPr
  have hLB := Lg_B n
  refine ab_aload_n C dX0_forgetFrom_0 rfl rfl ?_
  refine ab_aload_n C dX0_forgetFrom_1 rfl rfl ?_
  refine gf_RX0_32 C s_t rfl dX0_forgetFrom_2 ?_
  refine ab_iload_n C dX0_forgetFrom_5 rfl rfl ?_
  refine ab_iconst C dX0_forgetFrom_6 (by decide) ?_
  refine ab_isub C dX0_forgetFrom_7 (by omega) ?_
  refine ab_mmin C gw246 gw714 gw715 gw716 (by decide) (Nat.le_of_ble_eq_true rfl) dX0_forgetFrom_8 ?_
  refine pf_RX0_32 C s_t rfl dX0_forgetFrom_11 ?_
  refine ab_vret (st := []) C r dX0_forgetFrom_14 ?_
  exact ⟨rfl, rfl⟩
set_option maxRecDepth 100000 in
set_option maxHeartbeats 4000000 in
theorem m_X0_addForm {D : va_G} {cA : Nat → ClassId} {S : List AbS} {M : AbM} {b a g : Nat} {n p : Int} (B_t : shAg S b a g) (A_t_alphabet : Al M a n p) (hba : a + 3 < b) (hbg : g + 2 < b) (hL : LawsOK n p M g) (hO2 : AlgOK n p M b g) {d : Int} (h0 : 0 ≤ d) (h1 : d ≤ Lg n) {w c : Int} {u : Nat} (w0 : 0 ≤ w) (w1 : w < pw n d) (c0 : 0 ≤ c) (c1 : c ≤ 1000) (B_f : shSu S u a) (hu : u + 1 < b ∧ (u + 1 < a ∨ a + 3 < u) ∧ (u + 1 < g ∨ g + 2 < u)) : Meth yX0_addForm cX0_addForm 6 none rmX0_addForm D cA S [vP b, vI d, vI w, vI c, vP u] M (qV fun M2 => ∃ M3, same [b, b + 1, b + 2, b + 3, b + 4, b + 5, b + 6] M M3 ∧ AlgOK n p M3 b g ∧ d ≤ M3 b 8 ∧ upA M3 (u + 1) (fun x => if wsm n d ≤ x ∧ x ≤ wsm n d + w then (M (u + 1) x + c * srh n p (M g 2) (M (g + 1)) (M (g + 2)) d w (x - wsm n d)) % p else M (u + 1) x) = M2) := by
  refine ab_intro (lv := [vP b, vI d, vI w, vI c, vP u, vU]) (by decide +kernel) rfl (Nat.le_of_ble_eq_true rfl) ?_
  intro hO hargs K hKD hKA C r
  have C : Cx K cX0_addForm RX0 rmX0_addForm := C
  have i_d : inI d := hargs _ (List.mem_cons_of_mem _ (List.mem_cons_self))
  have i_w : inI w := hargs _ (List.mem_cons_of_mem _ (List.mem_cons_of_mem _ (List.mem_cons_self)))
  have i_c : inI c := hargs _ (List.mem_cons_of_mem _ (List.mem_cons_of_mem _ (List.mem_cons_of_mem _ (List.mem_cons_self))))
  obtain ⟨s_t, s_t_forms, s_t_leading, s_t_normals, s_t_leasts, s_t_middles, s_t_form, B_t_alphabet, B_t_lawList⟩ := id B_t
  obtain ⟨s_t_alphabet, -⟩ := id B_t_alphabet
  obtain ⟨s_t_lawList, -⟩ := id B_t_lawList
  obtain ⟨⟨n1, n2, hPr⟩, -⟩ := id A_t_alphabet
  obtain ⟨p1, p2, -⟩ := id hPr
  have hLB := Lg_B n
  have hB := sz_B n1 n2 h0 h1
  obtain ⟨s_f, s_f_numbers, -⟩ := id B_f
  refine ab_aload_n C dX0_addForm_0 rfl rfl ?_
  refine ab_iload_n C dX0_addForm_1 rfl rfl ?_
  refine ab_callV C cl_RX0_50 (m_X0_prepare B_t (by assumption) (by omega) (by omega) hL hO2 (by omega)) (by decide) rfl s_t rfl rfl (Nat.le_of_ble_eq_true rfl) dX0_addForm_2 (ab_kV (fun M_2 h_2 => ?_))
  obtain ⟨hs, hA2, hr2⟩ := h_2
  have A_t_alphabet := hs.al A_t_alphabet (by intro k hk; simp only [List.mem_cons, List.not_mem_nil, or_false] at hk; omega)
  have g0 : M_2 g = M g := hs g (by simp; omega)
  have g1 : M_2 (g + 1) = M (g + 1) := hs (g + 1) (by simp; omega)
  have g2 : M_2 (g + 2) = M (g + 2) := hs (g + 2) (by simp; omega)
  have hdn := hA2.2.2.1 d (by omega) (by omega)
  have hsm := alg_same p1 n1 hA2 (show 0 ≤ d by omega) (show d ≤ M_2 b 8 by omega)
  rw [g0, g1, g2] at hsm
  have gu : M_2 (u + 1) = M (u + 1) := hs (u + 1) (by simp; omega)
  have A1 := A_t_alphabet
  refine ab_iconst C dX0_addForm_5 (by decide) ?_
  refine ab_istore5 (lv := []) C rfl dX0_addForm_6 ?_
  refine ab_mem (M2 := upA M_2 (u + 1) (fun x => if wsm n d ≤ x ∧ x < wsm n d + (0 : Int) then (M_2 (u + 1) x + c * srh n p (M g 2) (M (g + 1)) (M (g + 2)) d w (x - wsm n d)) % p else M_2 (u + 1) x)) (upA_id (fun j => if_neg (by omega))) ?_
  refine ab_loop (fun v (_ : Unit) => AJ K S 8 [vP b, vI d, vI w, vI c, vP u, vI v] [] (upA M_2 (u + 1) (fun x => if wsm n d ≤ x ∧ x < wsm n d + v then (M_2 (u + 1) x + c * srh n p (M g 2) (M (g + 1)) (M (g + 2)) d w (x - wsm n d)) % p else M_2 (u + 1) x))) (fun v _ => 0 ≤ v) (w + 1) ?_ 0 () (by omega) (by omega)
  · intro v _ hv v0 ih
    have A_t_alphabet := A1.upA (k := u + 1) (f := (fun x => if wsm n d ≤ x ∧ x < wsm n d + v then (M_2 (u + 1) x + c * srh n p (M g 2) (M (g + 1)) (M (g + 2)) d w (x - wsm n d)) % p else M_2 (u + 1) x)) (by omega)
    have r1 : upA M_2 (u + 1) (fun x => if wsm n d ≤ x ∧ x < wsm n d + v then (M_2 (u + 1) x + c * srh n p (M g 2) (M (g + 1)) (M (g + 2)) d w (x - wsm n d)) % p else M_2 (u + 1) x) (b + 1) = M_2 (b + 1) := upA_row (by omega)
    have r2 : upA M_2 (u + 1) (fun x => if wsm n d ≤ x ∧ x < wsm n d + v then (M_2 (u + 1) x + c * srh n p (M g 2) (M (g + 1)) (M (g + 2)) d w (x - wsm n d)) % p else M_2 (u + 1) x) (b + 2) = M_2 (b + 2) := upA_row (by omega)
    have ru : upA M_2 (u + 1) (fun x => if wsm n d ≤ x ∧ x < wsm n d + v then (M_2 (u + 1) x + c * srh n p (M g 2) (M (g + 1)) (M (g + 2)) d w (x - wsm n d)) % p else M_2 (u + 1) x) (u + 1) (wsm n d + v) = M_2 (u + 1) (wsm n d + v) := by rw [upA_s, if_neg (by omega)]
    refine ab_iload C dX0_addForm_8 rfl ?_
    refine ab_iload_n C dX0_addForm_10 rfl rfl ?_
    refine ab_icmp_gt (tgt := 40) C dX0_addForm_11 rfl (fun h_11 => ?_) (fun h_11 => ?_)
    · skip
      refine ab_vret (st := []) C r dX0_addForm_40 ?_
      refine ⟨rfl, M_2, hs, hA2, by omega, upA_ext (fun x => ?_)⟩
      rw [← gu, show v = w + 1 by omega]
      by_cases q : wsm n d ≤ x ∧ x ≤ wsm n d + w
      · rw [if_pos q, if_pos (by omega)]
      · rw [if_neg q, if_neg (by omega)]
    · skip
      refine ab_aload C dX0_addForm_14 rfl ?_
      refine ab_iload_n C dX0_addForm_16 rfl rfl ?_
      refine ab_iload C dX0_addForm_17 rfl ?_
      refine ab_iload_n C dX0_addForm_19 rfl rfl ?_
      refine ab_i2l C dX0_addForm_20 ?_
      refine ab_aload_n C dX0_addForm_21 rfl rfl ?_
      refine ab_iload_n C dX0_addForm_22 rfl rfl ?_
      refine ab_iload C dX0_addForm_23 rfl ?_
      refine ab_iload_n C dX0_addForm_25 rfl rfl ?_
      refine ab_callV C cl_RX0_67 (m_X0_numberAt B_t (by assumption) (by omega) (by omega) (by omega) (by omega) (by omega) (by omega) (by omega) (by omega) (by rw [r1, r2]; exact hdn.1.1)) (by decide) rfl s_t rfl rfl (Nat.le_of_ble_eq_true rfl) dX0_addForm_26 (ab_kI (fun r_26 M_26 h_26 => ?_))
      obtain ⟨rfl, rfl⟩ := h_26
      rw [r1, r2, (hsm w w0 w1).2 v]
      have hsr := (hdn.1.1.sys p1) w w0 w1
      have hrg : 0 ≤ srh n p (M g 2) (M (g + 1)) (M (g + 2)) d w v ∧ srh n p (M g 2) (M (g + 1)) (M (g + 2)) d w v < p := by
        rw [← (hsm w w0 w1).2 v]
        rcases hsr.1 with q | q
        · rw [hsr.2.1 q]; unfold dl; split <;> omega
        · exact ⟨(hsr.2.2 (by omega) v).1, (hsr.2.2 (by omega) v).2.1⟩
      have hm : 0 ≤ c * srh n p (M g 2) (M (g + 1)) (M (g + 2)) d w v ∧ c * srh n p (M g 2) (M (g + 1)) (M (g + 2)) d w v ≤ 1000 * 97 := ⟨Int.mul_nonneg (by omega) (by omega), Int.mul_le_mul (by omega) (by omega) (by omega) (by omega)⟩
      refine ab_i2l C dX0_addForm_29 ?_
      refine ab_lmul C dX0_addForm_30 (by omega) ?_
      refine ab_callV C cl_RX0_71 (m_X6_add B_f (by assumption) (by omega) (by omega) (by omega) (by omega) (by omega) (by omega) (by omega)) (by decide) rfl s_f rfl rfl (Nat.le_of_ble_eq_true rfl) dX0_addForm_31 (ab_kV (fun M_31 h_31 => ?_))
      subst h_31
      refine ab_iinc5 (lv := []) C rfl dX0_addForm_34 (by omega) ?_
      refine ab_goto (tgt := 8) C dX0_addForm_37 rfl ?_
      refine ab_mem (M2 := upA M_2 (u + 1) (fun x => if wsm n d ≤ x ∧ x < wsm n d + (v + 1) then (M_2 (u + 1) x + c * srh n p (M g 2) (M (g + 1)) (M (g + 2)) d w (x - wsm n d)) % p else M_2 (u + 1) x)) ?_ (ih () (by omega) (by omega))
      rw [ru, up_upA]
      exact upA_ext (fun x => by
        by_cases q1 : x = wsm n d + v
        · rw [if_pos q1, if_pos (by omega), q1, show wsm n d + v - wsm n d = v by omega]
        · rw [if_neg q1]
          by_cases q2 : wsm n d ≤ x ∧ x < wsm n d + v
          · rw [if_pos q2, if_pos (by omega)]
          · rw [if_neg q2, if_neg (by omega)])
