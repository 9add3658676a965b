set_option maxRecDepth 100000 in
set_option maxHeartbeats 4000000 in
theorem m_X0_middleOf {D : va_G} {cA : Nat → ClassId} {S : List AbS} {M : AbM} {b a g : Nat} {n p : Int} (B_t : shAg S b a g) (A_t_alphabet : Al M a n p) (hba : a + 3 < b) (hbg : g + 2 < b) (hL : LawsOK n p M g) (hO2 : AlgOK n p M b g) {c : Nat} (B_e : shEc S c a) (hc : b + 6 < c) {d : Int} (h0 : 0 ≤ d) (h1 : d + 1 ≤ Lg n) : Meth yX0_middleOf cX0_middleOf 5 (some .int) rmX0_middleOf D cA S [vP b, vI d, vP c] M (qI fun r M2 => same [b, b + 1, b + 2, b + 3, b + 4, b + 5, b + 6, c, c + 1, c + 2, c + 3] M M2 ∧ AlgOK n p M2 b g ∧ sMid n p (M g 2) (M (g + 1)) (M (g + 2)) d = r) := by
  refine ab_intro (lv := [vP b, vI d, vP c, vU, vU]) (by decide +kernel) rfl (Nat.le_of_ble_eq_true rfl) ?_
  intro hO hargs K hKD hKA C r
  have C : Cx K cX0_middleOf RX0 rmX0_middleOf := C
  have i_d : inI d := hargs _ (List.mem_cons_of_mem _ (List.mem_cons_self))
  obtain ⟨s_t, s_t_forms, s_t_leading, s_t_normals, s_t_leasts, s_t_middles, s_t_form, B_t_alphabet, B_t_lawList⟩ := id B_t
  obtain ⟨s_t_alphabet, -⟩ := id B_t_alphabet
  obtain ⟨s_t_lawList, -⟩ := id B_t_lawList
  obtain ⟨⟨n1, n2, hPr⟩, -⟩ := id A_t_alphabet
  obtain ⟨p1, p2, -⟩ := id hPr
  have hLB := Lg_B n
  obtain ⟨s_e, s_e_rows, s_e_taken, s_e_equation, -⟩ := id B_e
  have hB := sz_B n1 n2 (show 0 ≤ d + 1 by omega) h1
  refine ab_aload_n C dX0_middleOf_0 rfl rfl ?_
  refine ab_iload_n C dX0_middleOf_1 rfl rfl ?_
  refine ab_iconst C dX0_middleOf_2 (by decide) ?_
  refine ab_iadd C dX0_middleOf_3 (by omega) ?_
  refine ab_callV C cl_RX0_50 (m_X0_prepare B_t (by assumption) (by omega) (by omega) hL hO2 (by omega)) (by decide) rfl s_t rfl rfl (Nat.le_of_ble_eq_true rfl) dX0_middleOf_4 (ab_kV (fun M_4 h_4 => ?_))
  obtain ⟨hs, hA2, hr2⟩ := h_4
  have A_t_alphabet := hs.al A_t_alphabet (by intro k hk; simp only [List.mem_cons, List.not_mem_nil, or_false] at hk; omega)
  have g0 : M_4 g = M g := hs g (by simp; omega)
  have g1 : M_4 (g + 1) = M (g + 1) := hs (g + 1) (by simp; omega)
  have g2 : M_4 (g + 2) = M (g + 2) := hs (g + 2) (by simp; omega)
  have hdn := hA2.2.2.1 d (by omega) (by omega)
  have hsm := alg_same p1 n1 hA2 (show 0 ≤ d by omega) (show d ≤ M_4 b 8 by omega)
  rw [g0, g1, g2] at hsm
  have hd1 := (hA2.2.2.1 (d + 1) (by omega) (by omega)).1.1
  have A1 := A_t_alphabet
  have mB := nm_B (Z := M_4 (b + 2)) n1 n2 h0 h1
  have hmid := alg_mid p1 n1 hA2 h0 (show d + 1 ≤ M_4 b 8 by omega)
  rw [g0, g1, g2] at hmid
  have hnm : M_4 (b + 3) d = (nmC n d (M_4 (b + 2))) := hdn.2.1
  have s11 : same [b, b + 1, b + 2, b + 3, b + 4, b + 5, b + 6, c, c + 1, c + 2, c + 3] M M_4 := fun k hk => hs k (fun z => hk (by simp only [List.mem_cons, List.not_mem_nil, or_false] at z ⊢; omega))
  refine ab_aload_n C dX0_middleOf_7 rfl rfl ?_
  refine gf_RX0_26 C s_t rfl dX0_middleOf_8 ?_
  refine ab_iload_n C dX0_middleOf_11 rfl rfl ?_
  refine ab_iaload C s_t_middles (by omega) (by omega) dX0_middleOf_12 ?_
  refine ab_iconst C dX0_middleOf_13 (by decide) ?_
  refine ab_icmp_ne (tgt := 109) C dX0_middleOf_14 rfl (fun h_14 => ?_) (fun h_14 => ?_)
  · skip
    refine ab_aload_n C dX0_middleOf_109 rfl rfl ?_
    refine gf_RX0_26 C s_t rfl dX0_middleOf_110 ?_
    refine ab_iload_n C dX0_middleOf_113 rfl rfl ?_
    refine ab_iaload C s_t_middles (by omega) (by omega) dX0_middleOf_114 ?_
    refine ab_iret (st := []) C r dX0_middleOf_115 ?_
    first
    | (refine ⟨_, rfl, s11, hA2, ?_⟩
       rw [← hmid]
       rcases hA2.2.2.2 d h0 (by omega) with z | z
       · exact absurd z h_14
       · exact z.symm)
    | (have ex : x = n := by omega
       rw [ex] at kS
       have erk : M5 c 5 = (rowsX n p d (M_4 (b + 1)) (M_4 (b + 2)) n.toNat es0).2.2 := kS.2.1
       have ev : M5 (b + 3) d - M5 c 5 = midV n p d (M_4 (b + 1)) (M_4 (b + 2)) := by rw [q3, hnm, erk]; rfl
       refine ⟨_, rfl, ?_, ?_, ?_⟩
       · exact same_tr s11 (same_tr (fun k hk => hse k (fun z => hk (by simp only [List.mem_cons, List.not_mem_nil, or_false] at z ⊢; omega))) (same_up (by simp)))
       · refine hA2.of ?_ ?_ ?_ ?_ ?_ ?_ ?_ ?_ ?_
         · rw [up_k (by omega), q0]
         · rw [up_row (by omega), q1]
         · rw [up_row (by omega), q2]
         · rw [up_row (by omega)]; exact hse _ (by simp; omega)
         · rw [up_row (by omega)]; exact hse _ (by simp; omega)
         · intro e e0 e1
           by_cases z : e = d
           · subst z
             rw [up_s, ev]
             exact Or.inr rfl
           · rw [up_i z, hse (b + 5) (by simp; omega)]
             exact Or.inl rfl
         · rw [up_row (by omega)]; exact hse _ (by simp; omega)
         · rw [up_row (by omega)]; exact hse _ (by simp; omega)
         · rw [up_row (by omega)]; exact hse _ (by simp; omega)
       · rw [up_s, ev, hmid])
  · skip
    refine ab_aload_n C dX0_middleOf_17 rfl rfl ?_
    refine ab_aload_n C dX0_middleOf_18 rfl rfl ?_
    refine gf_RX0_20 C s_t rfl dX0_middleOf_19 ?_
    refine ab_iload_n C dX0_middleOf_22 rfl rfl ?_
    refine ab_iaload C s_t_normals (by omega) (by omega) dX0_middleOf_23 ?_
    refine ab_callV C cl_RX0_77 (m_X2_open B_e (by omega) (by omega)) (by decide) rfl s_e rfl rfl (Nat.le_of_ble_eq_true rfl) dX0_middleOf_24 (ab_kV (fun M_24 h_24 => ?_))
    subst h_24
    refine ab_iconst C dX0_middleOf_27 (by decide) ?_
    refine ab_istore3 (lv := []) C rfl dX0_middleOf_28 ?_
    refine ab_loop (fun x (y : AbV × AbM) => AJ K S 29 [vP b, vI d, vP c, vI x, y.1] [] y.2) (fun x y => 0 ≤ x ∧ ab_cat y.1 = 1 ∧ same [c, c + 1, c + 2, c + 3] M_4 y.2 ∧ y.2 c 4 = (nmC n d (M_4 (b + 2))) ∧ rngE p (nmC n d (M_4 (b + 2))) (y.2 (c + 1)) (y.2 (c + 2)) ∧ eqES (nmC n d (M_4 (b + 2))) (esOf y.2 c) (rowsX n p d (M_4 (b + 1)) (M_4 (b + 2)) (x).toNat es0)) n ?_ 0 (vU, (upA (up (up M_4 c 4 (M_4 (b + 3) d)) c 5 0) (c + 2) (fun j => if 0 ≤ j ∧ j < M_4 (b + 3) d then 0 else M_4 (c + 2) j))) (by omega) ⟨by omega, rfl, same_tr (same_tr (same_up (by simp)) (same_up (by simp))) (same_upA (by simp)), ?_, ?_, ?_, ?_, ?_⟩
    · intro x y hx hI ih
      obtain ⟨y1, M5⟩ := y
      obtain ⟨x0, hy1, hse, k4, kE, kS⟩ := hI
      dsimp only at hy1 hse k4 kE kS ih ⊢
      have q0 : M5 b = M_4 b := hse b (by simp; omega)
      have q1 : M5 (b + 1) = M_4 (b + 1) := hse _ (by simp; omega)
      have q2 : M5 (b + 2) = M_4 (b + 2) := hse _ (by simp; omega)
      have q3 : M5 (b + 3) d = M_4 (b + 3) d := by rw [hse (b + 3) (by simp; omega)]
      have A_t_alphabet := hse.al A1 (by intro k hk; simp only [List.mem_cons, List.not_mem_nil, or_false] at hk; omega)
      have krk5 : 0 ≤ M5 c 5 ∧ M5 c 5 ≤ (nmC n d (M_4 (b + 2))) := by
        have e2 : M5 c 5 = _ := kS.2.1
        have e3 := rowsX_rk (p := p) (F := M_4 (b + 1)) mB.1 x.toNat es0 (rk_0 mB.1)
        unfold rkOK at e3
        rw [e2, ← e3]
        exact cntF_B mB.1
      refine ab_iload_n C dX0_middleOf_29 rfl rfl ?_
      refine ab_aload_n C dX0_middleOf_30 rfl rfl ?_
      refine gf_RX0_36 C s_t rfl dX0_middleOf_31 ?_
      refine ab_callV C cl_RX0_82 (m_X1_letters B_t_alphabet (by assumption)) (by decide) rfl s_t_alphabet rfl rfl (Nat.le_of_ble_eq_true rfl) dX0_middleOf_34 (ab_kI (fun r_34 M_34 h_34 => ?_))
      obtain ⟨rfl, rfl⟩ := h_34
      refine ab_icmp_ge (tgt := 92) C dX0_middleOf_37 rfl (fun h_37 => ?_) (fun h_37 => ?_)
      · skip
        refine ab_aload_n C dX0_middleOf_92 rfl rfl ?_
        refine gf_RX0_26 C s_t rfl dX0_middleOf_93 ?_
        refine ab_iload_n C dX0_middleOf_96 rfl rfl ?_
        refine ab_aload_n C dX0_middleOf_97 rfl rfl ?_
        refine gf_RX0_20 C s_t rfl dX0_middleOf_98 ?_
        refine ab_iload_n C dX0_middleOf_101 rfl rfl ?_
        skip
        refine ab_iaload C s_t_normals (by omega) (by omega) dX0_middleOf_102 ?_
        refine ab_aload_n C dX0_middleOf_103 rfl rfl ?_
        refine ab_callV C cl_RX0_86 (m_X2_rank B_e) (by decide) rfl s_e rfl rfl (Nat.le_of_ble_eq_true rfl) dX0_middleOf_104 (ab_kI (fun r_104 M_104 h_104 => ?_))
        obtain ⟨rfl, rfl⟩ := h_104
        refine ab_isub C dX0_middleOf_107 (by omega) ?_
        refine ab_iastore C s_t_middles (by omega) (by omega) dX0_middleOf_108 ?_
        refine ab_aload_n C dX0_middleOf_109 rfl rfl ?_
        refine gf_RX0_26 C s_t rfl dX0_middleOf_110 ?_
        refine ab_iload_n C dX0_middleOf_113 rfl rfl ?_
        refine ab_iaload C s_t_middles (by omega) (by omega) dX0_middleOf_114 ?_
        refine ab_iret (st := []) C r dX0_middleOf_115 ?_
        first
        | (refine ⟨_, rfl, s11, hA2, ?_⟩
           rw [← hmid]
           rcases hA2.2.2.2 d h0 (by omega) with z | z
           · exact absurd z h_14
           · exact z.symm)
        | (have ex : x = n := by omega
           rw [ex] at kS
           have erk : M5 c 5 = (rowsX n p d (M_4 (b + 1)) (M_4 (b + 2)) n.toNat es0).2.2 := kS.2.1
           have ev : M5 (b + 3) d - M5 c 5 = midV n p d (M_4 (b + 1)) (M_4 (b + 2)) := by rw [q3, hnm, erk]; rfl
           refine ⟨_, rfl, ?_, ?_, ?_⟩
           · exact same_tr s11 (same_tr (fun k hk => hse k (fun z => hk (by simp only [List.mem_cons, List.not_mem_nil, or_false] at z ⊢; omega))) (same_up (by simp)))
           · refine hA2.of ?_ ?_ ?_ ?_ ?_ ?_ ?_ ?_ ?_
             · rw [up_k (by omega), q0]
             · rw [up_row (by omega), q1]
             · rw [up_row (by omega), q2]
             · rw [up_row (by omega)]; exact hse _ (by simp; omega)
             · rw [up_row (by omega)]; exact hse _ (by simp; omega)
             · intro e e0 e1
               by_cases z : e = d
               · subst z
                 rw [up_s, ev]
                 exact Or.inr rfl
               · rw [up_i z, hse (b + 5) (by simp; omega)]
                 exact Or.inl rfl
             · rw [up_row (by omega)]; exact hse _ (by simp; omega)
             · rw [up_row (by omega)]; exact hse _ (by simp; omega)
             · rw [up_row (by omega)]; exact hse _ (by simp; omega)
           · rw [up_s, ev, hmid])
      · skip
        refine ab_iconst C dX0_middleOf_40 (by decide) ?_
        refine ab_istore4 (lv := []) C rfl dX0_middleOf_41 ?_
        refine ab_loop (fun t (M6 : AbM) => AJ K S 43 [vP b, vI d, vP c, vI x, vI t] [] M6) (fun t M6 => 0 ≤ t ∧ same [c, c + 1, c + 2, c + 3] M_4 M6 ∧ M6 c 4 = (nmC n d (M_4 (b + 2))) ∧ rngE p (nmC n d (M_4 (b + 2))) (M6 (c + 1)) (M6 (c + 2)) ∧ eqES (nmC n d (M_4 (b + 2))) (esOf M6 c) (rowsT n p d (M_4 (b + 1)) (M_4 (b + 2)) x (t).toNat (rowsX n p d (M_4 (b + 1)) (M_4 (b + 2)) (x).toNat es0))) (pw n (d + 1)) ?_ 0 M5 (by omega) ⟨by omega, hse, k4, kE, kS⟩
        · intro t M6 ht hI6 ih6
          obtain ⟨t0, hse, k4, kE, kS⟩ := hI6
          have q0 : M6 b = M_4 b := hse b (by simp; omega)
          have q1 : M6 (b + 1) = M_4 (b + 1) := hse _ (by simp; omega)
          have q2 : M6 (b + 2) = M_4 (b + 2) := hse _ (by simp; omega)
          have q3 : M6 (b + 3) d = M_4 (b + 3) d := by rw [hse (b + 3) (by simp; omega)]
          have A_t_alphabet := hse.al A1 (by intro k hk; simp only [List.mem_cons, List.not_mem_nil, or_false] at hk; omega)
          have krk : M6 c 5 ≤ (nmC n d (M_4 (b + 2))) := by
            have e1 := kS.2.1
            have e2 : M6 c 5 = _ := e1
            rw [e2]
            exact rk_le mB.1
          refine ab_iload C dX0_middleOf_43 rfl ?_
          refine ab_aload_n C dX0_middleOf_45 rfl rfl ?_
          refine gf_RX0_36 C s_t rfl dX0_middleOf_46 ?_
          refine ab_iload_n C dX0_middleOf_49 rfl rfl ?_
          refine ab_iconst C dX0_middleOf_50 (by decide) ?_
          refine ab_iadd C dX0_middleOf_51 (by omega) ?_
          refine ab_callV C cl_RX0_59 (m_X1_words B_t_alphabet (by assumption) (by omega) (by omega)) (by decide) rfl s_t_alphabet rfl rfl (Nat.le_of_ble_eq_true rfl) dX0_middleOf_52 (ab_kI (fun r_52 M_52 h_52 => ?_))
          obtain ⟨rfl, rfl⟩ := h_52
          refine ab_icmp_ge (tgt := 86) C dX0_middleOf_55 rfl (fun h_55 => ?_) (fun h_55 => ?_)
          · skip
            refine ab_iinc3 (lv := []) C rfl dX0_middleOf_86 (by omega) ?_
            refine ab_goto (tgt := 29) C dX0_middleOf_89 rfl ?_
            have ex : (x + 1).toNat = x.toNat + 1 := by omega
            have exi : ((x.toNat : Nat) : Int) = x := by omega
            refine ih (_, _) (by omega) ⟨by omega, rfl, hse, k4, kE, ?_⟩
            rw [ex]
            show eqES _ _ (rowsT n p d (M_4 (b + 1)) (M_4 (b + 2)) ((x.toNat : Nat) : Int) (pw n (d + 1)).toNat (rowsX n p d (M_4 (b + 1)) (M_4 (b + 2)) (x).toNat es0))
            rw [exi]
            first
            | (have et : t = pw n (d + 1) := by omega
               rw [← et]
               exact kS)
            | (have efull := rowsT_full (p := p) (F := M_4 (b + 1)) (Z := M_4 (b + 2)) (x := x) mB.1 (s := rowsX n p d (M_4 (b + 1)) (M_4 (b + 2)) (x).toNat es0) (rowsX_rk mB.1 _ es0 (rk_0 mB.1)) (k := t.toNat) (by
                 have e1 : M6 c 5 = _ := kS.2.1
                 rw [← e1]; omega) ((pw n (d + 1)).toNat - t.toNat)
               rw [show t.toNat + ((pw n (d + 1)).toNat - t.toNat) = (pw n (d + 1)).toNat by omega] at efull
               rw [efull]
               exact kS)
          · skip
            refine ab_aload_n C dX0_middleOf_58 rfl rfl ?_
            refine ab_callV C cl_RX0_86 (m_X2_rank B_e) (by decide) rfl s_e rfl rfl (Nat.le_of_ble_eq_true rfl) dX0_middleOf_59 (ab_kI (fun r_59 M_59 h_59 => ?_))
            obtain ⟨rfl, rfl⟩ := h_59
            refine ab_aload_n C dX0_middleOf_62 rfl rfl ?_
            refine gf_RX0_20 C s_t rfl dX0_middleOf_63 ?_
            refine ab_iload_n C dX0_middleOf_66 rfl rfl ?_
            refine ab_iaload C s_t_normals (by omega) (by omega) dX0_middleOf_67 ?_
            rw [q3, hnm]
            refine ab_icmp_ge (tgt := 86) C dX0_middleOf_68 rfl (fun h_68 => ?_) (fun h_68 => ?_)
            · skip
              refine ab_iinc3 (lv := []) C rfl dX0_middleOf_86 (by omega) ?_
              refine ab_goto (tgt := 29) C dX0_middleOf_89 rfl ?_
              have ex : (x + 1).toNat = x.toNat + 1 := by omega
              have exi : ((x.toNat : Nat) : Int) = x := by omega
              refine ih (_, _) (by omega) ⟨by omega, rfl, hse, k4, kE, ?_⟩
              rw [ex]
              show eqES _ _ (rowsT n p d (M_4 (b + 1)) (M_4 (b + 2)) ((x.toNat : Nat) : Int) (pw n (d + 1)).toNat (rowsX n p d (M_4 (b + 1)) (M_4 (b + 2)) (x).toNat es0))
              rw [exi]
              first
              | (have et : t = pw n (d + 1) := by omega
                 rw [← et]
                 exact kS)
              | (have efull := rowsT_full (p := p) (F := M_4 (b + 1)) (Z := M_4 (b + 2)) (x := x) mB.1 (s := rowsX n p d (M_4 (b + 1)) (M_4 (b + 2)) (x).toNat es0) (rowsX_rk mB.1 _ es0 (rk_0 mB.1)) (k := t.toNat) (by
                   have e1 : M6 c 5 = _ := kS.2.1
                   rw [← e1]; omega) ((pw n (d + 1)).toNat - t.toNat)
                 rw [show t.toNat + ((pw n (d + 1)).toNat - t.toNat) = (pw n (d + 1)).toNat by omega] at efull
                 rw [efull]
                 exact kS)
            · skip
              refine ab_aload_n C dX0_middleOf_71 rfl rfl ?_
              refine ab_iload_n C dX0_middleOf_72 rfl rfl ?_
              refine ab_iload_n C dX0_middleOf_73 rfl rfl ?_
              refine ab_iload C dX0_middleOf_74 rfl ?_
              refine ab_aload_n C dX0_middleOf_76 rfl rfl ?_
              refine ab_callV C cl_RX0_89 (m_X0_addEquation B_t (by assumption) (by omega) (by omega) B_e (by omega) (by omega) (by omega) (by omega) (by omega) (by omega) (by omega) (by rw [q1, q2]; exact hdn.1.1) (by rw [q1, q2]; exact hd1) (by rw [q2]; exact k4) (by rw [k4]; exact kE) (by omega)) (by decide) rfl s_t rfl rfl (Nat.le_of_ble_eq_true rfl) dX0_middleOf_77 (ab_kV (fun M_77 h_77 => ?_))
              rw [q1, q2, k4] at h_77
              refine ab_iinc4 (lv := []) C rfl dX0_middleOf_80 (by omega) ?_
              refine ab_goto (tgt := 43) C dX0_middleOf_83 rfl ?_
              obtain ⟨hs7, c7, e7, st7⟩ := h_77
              refine ih6 _ (by omega) ⟨by omega, same_tr hse hs7, c7, e7, ?_⟩
              have et : (t + 1).toNat = t.toNat + 1 := by omega
              rw [et]
              have st8 : esOf M_77 c = _ := st7
              rw [st8]
              show eqES _ _ (if ldq n (d + 1) (M_4 (b + 2)) ((t.toNat : Nat) : Int) = 0 then stepE p (nmC n d (M_4 (b + 2))) (rowsT n p d (M_4 (b + 1)) (M_4 (b + 2)) x (t).toNat (rowsX n p d (M_4 (b + 1)) (M_4 (b + 2)) (x).toNat es0)) (eqV n p d (M_4 (b + 1)) (M_4 (b + 2)) x ((t.toNat : Nat) : Int)) else rowsT n p d (M_4 (b + 1)) (M_4 (b + 2)) x (t).toNat (rowsX n p d (M_4 (b + 1)) (M_4 (b + 2)) (x).toNat es0))
              rw [show ((t.toNat : Nat) : Int) = t by omega]
              by_cases z : ldq n (d + 1) (M_4 (b + 2)) t = 0
              · rw [if_pos z, if_pos z]
                exact stepE_eq mB.1 mB.2 kS (fun _ _ _ => rfl)
              · rw [if_neg z, if_neg z]
                exact kS
    · show (upA (up (up M_4 c 4 (M_4 (b + 3) d)) c 5 0) (c + 2) (fun j => if 0 ≤ j ∧ j < M_4 (b + 3) d then 0 else M_4 (c + 2) j)) c 4 = (nmC n d (M_4 (b + 2)))
      rw [upA_k (by omega), up_i (by decide), up_s, hnm]
    · show rngE p (nmC n d (M_4 (b + 2))) ((upA (up (up M_4 c 4 (M_4 (b + 3) d)) c 5 0) (c + 2) (fun j => if 0 ≤ j ∧ j < M_4 (b + 3) d then 0 else M_4 (c + 2) j)) (c + 1)) ((upA (up (up M_4 c 4 (M_4 (b + 3) d)) c 5 0) (c + 2) (fun j => if 0 ≤ j ∧ j < M_4 (b + 3) d then 0 else M_4 (c + 2) j)) (c + 2))
      intro i j a e f z
      exfalso
      rw [upA_s, if_pos (by omega)] at z
      exact z rfl
    · intro i a e
      show (upA (up (up M_4 c 4 (M_4 (b + 3) d)) c 5 0) (c + 2) (fun j => if 0 ≤ j ∧ j < M_4 (b + 3) d then 0 else M_4 (c + 2) j)) (c + 2) i = 0
      rw [upA_s, if_pos (by omega)]
    · show (upA (up (up M_4 c 4 (M_4 (b + 3) d)) c 5 0) (c + 2) (fun j => if 0 ≤ j ∧ j < M_4 (b + 3) d then 0 else M_4 (c + 2) j)) c 5 = 0
      rw [upA_k (by omega), up_s]
    · intro i j a e f z
      exfalso
      apply z
      show (upA (up (up M_4 c 4 (M_4 (b + 3) d)) c 5 0) (c + 2) (fun j => if 0 ≤ j ∧ j < M_4 (b + 3) d then 0 else M_4 (c + 2) j)) (c + 2) i = 0
      rw [upA_s, if_pos (by omega)]
