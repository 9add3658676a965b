set_option maxRecDepth 100000 in
set_option maxHeartbeats 4000000 in
theorem m_X9_grow {D : va_G} {cA : Nat → ClassId} {S : List AbS} {M : AbM} {m : Nat} {n p : Int} (B_t : shMo S m) (A_t : MoA M m n p) {al le : Nat} (s_al : S[al]? = some (sA 0 70000)) (s_le : S[le]? = some (sA 1 400)) (hal : m + 3 < al ∧ m + 3 < le ∧ al ≠ le ∧ al ≠ m + 12 ∧ le ≠ m + 12) {d : Int} (h0 : 1 ≤ d) (h1 : d ≤ Lg n) (hE1 : EchOK n p (d - 1) (M al) (M le)) (hE : EchOK n p d (M al) (M le)) : Meth yX9_grow cX9_grow 8 none rmX9_grow D cA S [vP m, vP al, vP le, vI d] M (qV fun M2 => GrI n p d m al le M M2 (GrV n d (M al) (M le) (pw n (d - 1)))) := by
  refine ab_intro (lv := [vP m, vP al, vP le, vI d, vU, vU, vU, vU]) (by decide +kernel) rfl (Nat.le_of_ble_eq_true rfl) ?_
  intro hO hargs K hKD hKA C r
  have C : Cx K cX9_grow RX9 rmX9_grow := C
  have i_d : inI d := hargs _ (List.mem_cons_of_mem _ (List.mem_cons_of_mem _ (List.mem_cons_of_mem _ (List.mem_cons_self))))
  obtain ⟨s_t, s_t_words, s_t_begins, s_t_squares, s_t_lengths, s_t_numbers, s_t_made, s_t_tape, s_t_rows, s_t_leads, s_t_otherRows, s_t_otherLeads, s_t_row, s_t_equations, s_t_firsts, s_t_sum, s_t_lanes, s_t_sizes, s_t_items⟩ := id B_t
  obtain ⟨⟨n1, n2, hPr⟩, m_n, m_p, m_L, m_w⟩ := id A_t
  obtain ⟨p1, p2, -⟩ := id hPr
  have hLB := Lg_B n
  have hB := sz_B n1 n2 (show 0 ≤ d by omega) h1
  have hB1 := sz_B n1 n2 (show 0 ≤ d - 1 by omega) (show d - 1 ≤ Lg n by omega)
  have hQ1 := sq_B n1 n2 (show 0 ≤ d - 1 by omega) (show d - 1 ≤ Lg n by omega)
  obtain ⟨e_w1, e_b1, e_s1⟩ := m_w (d - 1) (by omega) (by omega)
  have hpd : pw n d = pw n (d - 1) * n := by rw [← pw_s (by omega), show d - 1 + 1 = d by omega]
  have hwd : wsm n d = wsm n (d - 1) + pw n (d - 1) := by rw [← wsm_s (by omega), show d - 1 + 1 = d by omega]
  have hsd : sqm n d = sqm n (d - 1) + pw n (d - 1) * pw n (d - 1) := by rw [← sqm_s (by omega), show d - 1 + 1 = d by omega]
  refine ab_iconst C dX9_grow_0 (by decide) ?_
  refine ab_istore4 (lv := []) C rfl dX9_grow_1 ?_
  refine ab_loop (fun w (s : AbM × AbV × AbV × AbV) => AJ K S 3 [vP m, vP al, vP le, vI d, vI w, s.2.1, s.2.2.1, s.2.2.2] [] s.1) (fun w s => 0 ≤ w ∧ GrI n p d m al le M s.1 (GrV n d (M al) (M le) w)) (pw n (d - 1)) ?_ 0 (M, vU, vU, vU) (by omega) ⟨by omega, (GrI.zero hE).iff (fun V _ => ⟨fun _ c t _ _ t0 t1 => by omega, fun _ => trivial⟩)⟩
  · intro w s hw hI ih
    obtain ⟨M3, y5, y6, y7⟩ := s
    obtain ⟨w0, hG⟩ := hI
    dsimp only at hG ih ⊢
    have hs := hG.1
    have t1 : M3 (m + 1) (d - 1) = pw n (d - 1) := by rw [hs (m + 1) (by simp; omega), e_w1]
    have t2 : M3 (m + 2) (d - 1) = wsm n (d - 1) := by rw [hs (m + 2) (by simp; omega), e_b1]
    have t3 : M3 (m + 3) (d - 1) = sqm n (d - 1) := by rw [hs (m + 3) (by simp; omega), e_s1]
    have tl : ∀ y, y < wsm n d → M3 le y = M le y := fun y hy => hG.2.2.1.2 y (Or.inl hy)
    refine ab_iload C dX9_grow_3 rfl ?_
    refine ab_aload_n C dX9_grow_5 rfl rfl ?_
    refine gf_RX9_19 C s_t rfl dX9_grow_6 ?_
    refine ab_iload_n C dX9_grow_9 rfl rfl ?_
    refine ab_iconst C dX9_grow_10 (by decide) ?_
    refine ab_isub C dX9_grow_11 (by omega) ?_
    refine ab_iaload C s_t_words (by omega) (by omega) dX9_grow_12 ?_
    rw [t1]
    refine ab_icmp_ge (tgt := 192) C dX9_grow_13 rfl (fun h_13 => ?_) (fun h_13 => ?_)
    · skip
      refine ab_vret (st := []) C r dX9_grow_192 ?_
      have ew : w = pw n (d - 1) := by omega
      rw [ew] at hG
      exact ⟨rfl, hG⟩
    · skip
      have w1 : w < pw n (d - 1) := by omega
      have hwB := rwq_B n1 n2 (show 0 ≤ d - 1 by omega) (show d - 1 ≤ Lg n by omega) w0 w1 (Int.le_refl 0) (show 0 < pw n (d - 1) by omega)
      have hwB2 := rwq_B n1 n2 (show 0 ≤ d - 1 by omega) (show d - 1 ≤ Lg n by omega) w0 w1 (show 0 ≤ pw n (d - 1) - 1 by omega) (show pw n (d - 1) - 1 < pw n (d - 1) by omega)
      refine ab_aload_n C dX9_grow_16 rfl rfl ?_
      refine ab_aload_n C dX9_grow_17 rfl rfl ?_
      refine gf_RX9_23 C s_t rfl dX9_grow_18 ?_
      refine ab_iload_n C dX9_grow_21 rfl rfl ?_
      refine ab_iconst C dX9_grow_22 (by decide) ?_
      refine ab_isub C dX9_grow_23 (by omega) ?_
      refine ab_iaload C s_t_begins (by omega) (by omega) dX9_grow_24 ?_
      rw [t2]
      refine ab_iload C dX9_grow_25 rfl ?_
      refine ab_iadd C dX9_grow_27 (by omega) ?_
      refine ab_baload C s_le (by omega) (by omega) dX9_grow_28 ?_
      have ef : M3 le (wsm n (d - 1) + w) = ldq n (d - 1) (M le) w := tl _ (by omega)
      rw [ef]
      refine ab_if_eq (tgt := 186) C dX9_grow_29 rfl (fun h_29 => ?_) (fun h_29 => ?_)
      · skip
        refine ab_iinc4 (lv := []) C rfl dX9_grow_186 (by omega) ?_
        refine ab_goto (tgt := 3) C dX9_grow_189 rfl ?_
        first
        | exact ih (M3, y5, y6, y7) (by omega) ⟨by omega, hG.iff (fun V _ => ⟨fun a => GrV_step a (fun z => absurd h_29 z), fun a => (GrV_s a w0).1⟩)⟩
        | exact ih (M4, _, _, _) (by omega) ⟨by omega, hG4.iff (fun V _ => ⟨fun a => GrV_step a.1 (fun _ c9 q0 q1 => a.2 c9 q0 (by omega)), fun a => ⟨(GrV_s a w0).1, fun c9 q0 q1 => (GrV_s a w0).2 h_29 c9 q0 (by omega)⟩⟩)⟩
      · skip
        refine ab_aload_n C dX9_grow_32 rfl rfl ?_
        refine gf_RX9_26 C s_t rfl dX9_grow_33 ?_
        refine ab_iload_n C dX9_grow_36 rfl rfl ?_
        refine ab_iconst C dX9_grow_37 (by decide) ?_
        refine ab_isub C dX9_grow_38 (by omega) ?_
        refine ab_iaload C s_t_squares (by omega) (by omega) dX9_grow_39 ?_
        rw [t3]
        refine ab_iload C dX9_grow_40 rfl ?_
        refine ab_aload_n C dX9_grow_42 rfl rfl ?_
        refine gf_RX9_19 C s_t rfl dX9_grow_43 ?_
        refine ab_iload_n C dX9_grow_46 rfl rfl ?_
        refine ab_iconst C dX9_grow_47 (by decide) ?_
        refine ab_isub C dX9_grow_48 (by omega) ?_
        refine ab_iaload C s_t_words (by omega) (by omega) dX9_grow_49 ?_
        rw [t1]
        refine ab_imul C dX9_grow_50 (by omega) ?_
        refine ab_iadd C dX9_grow_51 (by omega) ?_
        refine ab_istore5 (lv := []) C rfl dX9_grow_52 ?_
        refine ab_iconst C dX9_grow_54 (by decide) ?_
        refine ab_istore6 (lv := []) C rfl dX9_grow_55 ?_
        refine ab_loop (fun c (s : AbM × AbV) => AJ K S 57 [vP m, vP al, vP le, vI d, vI w, vI (sqm n (d - 1) + w * pw n (d - 1)), vI c, s.2] [] s.1) (fun c s => 0 ≤ c ∧ GrI n p d m al le M s.1 (fun V => GrV n d (M al) (M le) w V ∧ ∀ c9, 0 ≤ c9 → c9 < c → gnV n d (M al) c9 w V)) n ?_ 0 (M3, y7) (by omega) ⟨by omega, hG.iff (fun V _ => ⟨fun a => ⟨a, fun c9 c0 c1 => by omega⟩, fun a => a.1⟩)⟩
        · clear hs t1 t2 t3 tl hG
          intro c s hc hI2 ih2
          obtain ⟨M4, z7⟩ := s
          obtain ⟨c0, hG4⟩ := hI2
          dsimp only at hG4 ih2 ⊢
          have hs4 := hG4.1
          have tn : M4 m 0 = n := by rw [hs4 m (by simp; omega), m_n]
          refine ab_iload C dX9_grow_57 rfl ?_
          refine ab_aload_n C dX9_grow_59 rfl rfl ?_
          refine gf_RX9_7 C s_t rfl dX9_grow_60 ?_
          rw [tn]
          refine ab_icmp_ge (tgt := 186) C dX9_grow_63 rfl (fun h_63 => ?_) (fun h_63 => ?_)
          · skip
            refine ab_iinc4 (lv := []) C rfl dX9_grow_186 (by omega) ?_
            refine ab_goto (tgt := 3) C dX9_grow_189 rfl ?_
            first
            | exact ih (M3, y5, y6, y7) (by omega) ⟨by omega, hG.iff (fun V _ => ⟨fun a => GrV_step a (fun z => absurd h_29 z), fun a => (GrV_s a w0).1⟩)⟩
            | exact ih (M4, _, _, _) (by omega) ⟨by omega, hG4.iff (fun V _ => ⟨fun a => GrV_step a.1 (fun _ c9 q0 q1 => a.2 c9 q0 (by omega)), fun a => ⟨(GrV_s a w0).1, fun c9 q0 q1 => (GrV_s a w0).2 h_29 c9 q0 (by omega)⟩⟩)⟩
          · skip
            have c1 : c < n := by omega
            have hc0 : 0 ≤ c * pw n (d - 1) := Int.mul_nonneg c0 (by omega)
            have hc9 : (c + 1) * pw n (d - 1) ≤ n * pw n (d - 1) := Int.mul_le_mul_of_nonneg_right (by omega) (by omega)
            rw [Int.add_mul, Int.one_mul, Int.mul_comm n, ← hpd] at hc9
            refine ab_aload_n C dX9_grow_66 rfl rfl ?_
            refine ab_callV C cl_RX9_137 (m_X9_clearRow B_t) (by decide) rfl s_t rfl rfl (Nat.le_of_ble_eq_true rfl) dX9_grow_67 (ab_kV (fun M_67 h_67 => ?_))
            subst h_67
            refine ab_iconst C dX9_grow_70 (by decide) ?_
            refine ab_istore7 (lv := []) C rfl dX9_grow_71 ?_
            refine ab_mem (M2 := upA M4 (m + 12) (rwA n d w c (M al) (M4 (m + 12)) 0)) (upA_ext (fun j => (rwA_0 j).symm)) ?_
            refine ab_loop (fun x (_ : Unit) => AJ K S 73 [vP m, vP al, vP le, vI d, vI w, vI (sqm n (d - 1) + w * pw n (d - 1)), vI c, vI x] [] (upA M4 (m + 12) (rwA n d w c (M al) (M4 (m + 12)) x))) (fun x _ => 0 ≤ x) (pw n (d - 1)) ?_ 0 () (by omega) (by omega)
            · intro x _ hx x0 ih3
              have u1 : upA M4 (m + 12) (rwA n d w c (M al) (M4 (m + 12)) x) (m + 1) (d - 1) = pw n (d - 1) := by rw [upA_k (by omega), hs4 (m + 1) (by simp; omega), e_w1]
              refine ab_iload C dX9_grow_73 rfl ?_
              refine ab_aload_n C dX9_grow_75 rfl rfl ?_
              refine gf_RX9_19 C s_t rfl dX9_grow_76 ?_
              refine ab_iload_n C dX9_grow_79 rfl rfl ?_
              refine ab_iconst C dX9_grow_80 (by decide) ?_
              refine ab_isub C dX9_grow_81 (by omega) ?_
              refine ab_iaload C s_t_words (by omega) (by omega) dX9_grow_82 ?_
              rw [u1]
              refine ab_icmp_ge (tgt := 118) C dX9_grow_83 rfl (fun h_83 => ?_) (fun h_83 => ?_)
              · skip
                obtain rfl : x = pw n (d - 1) := by omega
                have hG5 := hG4.row (f := (rwA n d w c (M al) (M4 (m + 12)) (pw n (d - 1)))) hal.2.2.2.1 hal.2.2.2.2
                obtain ⟨M5, hM5⟩ : ∃ M5, upA M4 (m + 12) (rwA n d w c (M al) (M4 (m + 12)) (pw n (d - 1))) = M5 := ⟨_, rfl⟩
                rw [hM5] at hG5 ⊢
                have r5 : M5 (m + 12) = (rwA n d w c (M al) (M4 (m + 12)) (pw n (d - 1))) := by rw [← hM5]; funext j; exact upA_s
                have A5 : MoA M5 m n p := hG5.1.moA A_t (by simp; omega)
                refine ab_aload_n C dX9_grow_118 rfl rfl ?_
                refine ab_aload_n C dX9_grow_119 rfl rfl ?_
                refine ab_aload_n C dX9_grow_120 rfl rfl ?_
                refine ab_iload_n C dX9_grow_121 rfl rfl ?_
                refine ab_callV C cl_RX9_140 (m_X9_insert B_t A5 s_al s_le (by omega) (by omega) (by omega) (by rw [r5]; exact rwA_in p1 (by omega) hE1 w0 w1 h_29) hG5.2.1) (by decide) rfl s_t rfl rfl (Nat.le_of_ble_eq_true rfl) dX9_grow_122 (ab_kV (fun M_122 h_122 => ?_))
                have g6 := hG5.tr (M3 := M_122) (G2 := fun V => V (qvV (pw n d) (M5 (m + 12)))) ⟨h_122.1, h_122.2.1, ⟨h_122.2.2.1, h_122.2.2.2.1⟩, fun V hV => ⟨h_122.2.2.2.2.1 V hV, fun a => h_122.2.2.2.2.2 V hV a.1 a.2⟩⟩
                have hs6 := g6.1
                refine ab_aload_n C dX9_grow_125 rfl rfl ?_
                refine ab_callV C cl_RX9_137 (m_X9_clearRow B_t) (by decide) rfl s_t rfl rfl (Nat.le_of_ble_eq_true rfl) dX9_grow_126 (ab_kV (fun M_126 h_126 => ?_))
                subst h_126
                refine ab_iconst C dX9_grow_129 (by decide) ?_
                refine ab_istore7 (lv := []) C rfl dX9_grow_130 ?_
                refine ab_mem (M2 := upA M_122 (m + 12) (rwB n d w c (M al) (M_122 (m + 12)) 0)) (upA_ext (fun j => (rwB_0 n1 j).symm)) ?_
                refine ab_loop (fun x (_ : Unit) => AJ K S 132 [vP m, vP al, vP le, vI d, vI w, vI (sqm n (d - 1) + w * pw n (d - 1)), vI c, vI x] [] (upA M_122 (m + 12) (rwB n d w c (M al) (M_122 (m + 12)) x))) (fun x _ => 0 ≤ x) (pw n (d - 1)) ?_ 0 () (by omega) (by omega)
                · intro x _ hx x0 ih3
                  have u1 : upA M_122 (m + 12) (rwB n d w c (M al) (M_122 (m + 12)) x) (m + 1) (d - 1) = pw n (d - 1) := by rw [upA_k (by omega), hs6 (m + 1) (by simp; omega), e_w1]
                  have un : upA M_122 (m + 12) (rwB n d w c (M al) (M_122 (m + 12)) x) m 0 = n := by rw [upA_k (by omega), hs6 m (by simp; omega), m_n]
                  refine ab_iload C dX9_grow_132 rfl ?_
                  refine ab_aload_n C dX9_grow_134 rfl rfl ?_
                  refine gf_RX9_19 C s_t rfl dX9_grow_135 ?_
                  refine ab_iload_n C dX9_grow_138 rfl rfl ?_
                  refine ab_iconst C dX9_grow_139 (by decide) ?_
                  refine ab_isub C dX9_grow_140 (by omega) ?_
                  refine ab_iaload C s_t_words (by omega) (by omega) dX9_grow_141 ?_
                  rw [u1]
                  refine ab_icmp_ge (tgt := 173) C dX9_grow_142 rfl (fun h_142 => ?_) (fun h_142 => ?_)
                  · skip
                    obtain rfl : x = pw n (d - 1) := by omega
                    have hG7 := g6.row (f := (rwB n d w c (M al) (M_122 (m + 12)) (pw n (d - 1)))) hal.2.2.2.1 hal.2.2.2.2
                    obtain ⟨M7, hM7⟩ : ∃ M7, upA M_122 (m + 12) (rwB n d w c (M al) (M_122 (m + 12)) (pw n (d - 1))) = M7 := ⟨_, rfl⟩
                    rw [hM7] at hG7 ⊢
                    have r7 : M7 (m + 12) = (rwB n d w c (M al) (M_122 (m + 12)) (pw n (d - 1))) := by rw [← hM7]; funext j; exact upA_s
                    have A7 : MoA M7 m n p := hG7.1.moA A_t (by simp; omega)
                    refine ab_aload_n C dX9_grow_173 rfl rfl ?_
                    refine ab_aload_n C dX9_grow_174 rfl rfl ?_
                    refine ab_aload_n C dX9_grow_175 rfl rfl ?_
                    refine ab_iload_n C dX9_grow_176 rfl rfl ?_
                    refine ab_callV C cl_RX9_140 (m_X9_insert B_t A7 s_al s_le (by omega) (by omega) (by omega) (by rw [r7]; exact rwB_in p1 n1 h0 (by omega) hE1 w0 w1 h_29) hG7.2.1) (by decide) rfl s_t rfl rfl (Nat.le_of_ble_eq_true rfl) dX9_grow_177 (ab_kV (fun M_177 h_177 => ?_))
                    have g8 := hG7.tr (M3 := M_177) (G2 := fun V => V (qvV (pw n d) (M7 (m + 12)))) ⟨h_177.1, h_177.2.1, ⟨h_177.2.2.1, h_177.2.2.2.1⟩, fun V hV => ⟨h_177.2.2.2.2.1 V hV, fun a => h_177.2.2.2.2.2 V hV a.1 a.2⟩⟩
                    refine ab_iinc6 (lv := []) C rfl dX9_grow_180 (by omega) ?_
                    refine ab_goto (tgt := 57) C dX9_grow_183 rfl ?_
                    refine ih2 (M_177, _) (by omega) ⟨by omega, g8.iff (fun V hV => ?_)⟩
                    (try dsimp only)
                    rw [r5, r7]
                    constructor
                    · intro a
                      refine ⟨a.1.1.1, fun c9 q0 q1 => ?_⟩
                      rcases (show c9 < c ∨ c9 = c by omega) with q | q
                      · exact a.1.1.2 c9 q0 q
                      · subst q; exact ⟨(rwA_V hV (by omega)).mp a.1.2, (rwB_V n1 h0 hV (by omega)).mp a.2⟩
                    · intro a
                      have b := a.2 c c0 (by omega)
                      exact ⟨⟨⟨a.1, fun c9 q0 q1 => a.2 c9 q0 (by omega)⟩, (rwA_V hV (by omega)).mpr b.1⟩, (rwB_V n1 h0 hV (by omega)).mpr b.2⟩
                  · skip
                    have ua : upA M_122 (m + 12) (rwB n d w c (M al) (M_122 (m + 12)) x) al ((sqm n (d - 1) + w * pw n (d - 1)) + x) = M al ((sqm n (d - 1) + w * pw n (d - 1)) + x) := by rw [upA_k (by omega)]; exact g6.2.2.1.1 _ (Or.inl (by omega))
                    have hnx : n * x + n ≤ pw n d := by
                      have : n * (x + 1) ≤ n * pw n (d - 1) := Int.mul_le_mul_of_nonneg_left (by omega) (by omega)
                      rw [Int.mul_add, Int.mul_one, Int.mul_comm n (pw n (d - 1)), ← hpd] at this
                      exact this
                    have hnx0 : 0 ≤ n * x := Int.mul_nonneg (by omega) x0
                    refine ab_aload_n C dX9_grow_145 rfl rfl ?_
                    refine gf_RX9_55 C s_t rfl dX9_grow_146 ?_
                    refine ab_aload_n C dX9_grow_149 rfl rfl ?_
                    refine gf_RX9_7 C s_t rfl dX9_grow_150 ?_
                    rw [un]
                    refine ab_iload C dX9_grow_153 rfl ?_
                    refine ab_imul C dX9_grow_155 (by omega) ?_
                    refine ab_iload C dX9_grow_156 rfl ?_
                    refine ab_iadd C dX9_grow_158 (by omega) ?_
                    refine ab_aload_n C dX9_grow_159 rfl rfl ?_
                    refine ab_iload C dX9_grow_160 rfl ?_
                    refine ab_iload C dX9_grow_162 rfl ?_
                    refine ab_iadd C dX9_grow_164 (by omega) ?_
                    refine ab_iaload C s_al (by omega) (by omega) dX9_grow_165 ?_
                    rw [ua]
                    refine ab_iastore C s_t_row (by omega) (by omega) dX9_grow_166 ?_
                    refine ab_iinc7 (lv := []) C rfl dX9_grow_167 (by omega) ?_
                    refine ab_goto (tgt := 132) C dX9_grow_170 rfl ?_
                    refine ab_mem (M2 := upA M_122 (m + 12) (rwB n d w c (M al) (M_122 (m + 12)) (x + 1))) ?_ (ih3 () (by omega) (by omega))
                    rw [up_upA]
                    exact upA_ext (rwB_s n1 c0 c1 x0)
              · skip
                have ua : upA M4 (m + 12) (rwA n d w c (M al) (M4 (m + 12)) x) al ((sqm n (d - 1) + w * pw n (d - 1)) + x) = M al ((sqm n (d - 1) + w * pw n (d - 1)) + x) := by rw [upA_k (by omega)]; exact hG4.2.2.1.1 _ (Or.inl (by omega))
                refine ab_aload_n C dX9_grow_86 rfl rfl ?_
                refine gf_RX9_55 C s_t rfl dX9_grow_87 ?_
                refine ab_iload C dX9_grow_90 rfl ?_
                refine ab_aload_n C dX9_grow_92 rfl rfl ?_
                refine gf_RX9_19 C s_t rfl dX9_grow_93 ?_
                refine ab_iload_n C dX9_grow_96 rfl rfl ?_
                refine ab_iconst C dX9_grow_97 (by decide) ?_
                refine ab_isub C dX9_grow_98 (by omega) ?_
                refine ab_iaload C s_t_words (by omega) (by omega) dX9_grow_99 ?_
                rw [u1]
                refine ab_imul C dX9_grow_100 (by omega) ?_
                refine ab_iload C dX9_grow_101 rfl ?_
                refine ab_iadd C dX9_grow_103 (by omega) ?_
                refine ab_aload_n C dX9_grow_104 rfl rfl ?_
                refine ab_iload C dX9_grow_105 rfl ?_
                refine ab_iload C dX9_grow_107 rfl ?_
                refine ab_iadd C dX9_grow_109 (by omega) ?_
                refine ab_iaload C s_al (by omega) (by omega) dX9_grow_110 ?_
                rw [ua]
                refine ab_iastore C s_t_row (by omega) (by omega) dX9_grow_111 ?_
                refine ab_iinc7 (lv := []) C rfl dX9_grow_112 (by omega) ?_
                refine ab_goto (tgt := 73) C dX9_grow_115 rfl ?_
                refine ab_mem (M2 := upA M4 (m + 12) (rwA n d w c (M al) (M4 (m + 12)) (x + 1))) ?_ (ih3 () (by omega) (by omega))
                rw [up_upA]
                exact upA_ext (rwA_s x0)
