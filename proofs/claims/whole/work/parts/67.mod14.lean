set_option maxRecDepth 100000 in
set_option maxHeartbeats 4000000 in
theorem m_X9_reduce {D : va_G} {cA : Nat → ClassId} {S : List AbS} {M : AbM} {m : Nat} {a : St} (B_t : shMo S m) (H : MRel a M m) : Meth yX9_reduce cX9_reduce 7 (some .int) rmX9_reduce D cA S [vP m] M (qI fun q M2 => same (MP m) M M2 ∧ ∃ b, oReduce a q b ∧ MRel b M2 m) := by
  refine ab_intro (lv := [vP m, vU, vU, vU, vU, vU, vU]) (by decide +kernel) rfl (Nat.le_of_ble_eq_true rfl) ?_
  intro hO hargs K hKD hKA C r
  have C : Cx K cX9_reduce RX9 rmX9_reduce := C
  obtain ⟨s_t, s_t_words, s_t_begins, s_t_squares, s_t_lengths, s_t_numbers, s_t_made, s_t_tape, s_t_rows, s_t_leads, s_t_otherRows, s_t_otherLeads, s_t_row, s_t_equations, s_t_firsts, s_t_sum, s_t_lanes, s_t_sizes, s_t_items⟩ := id B_t
  obtain ⟨A_t, hLw, hR, ⟨hSm, hSm0⟩, hTp, hSh⟩ := id H
  obtain ⟨⟨n1, n2, hPr⟩, m_n, m_p, m_L, m_w⟩ := id A_t
  obtain ⟨p1, p2, -⟩ := id hPr
  have hLB := Lg_B a.n
  refine ab_aload_n C dX9_reduce_0 rfl rfl ?_
  refine ab_callV C cl_RX9_153 (m_X9_find B_t A_t hLw.m hR) (by decide) rfl s_t rfl rfl (Nat.le_of_ble_eq_true rfl) dX9_reduce_1 (ab_kV (fun M_1 h_1 => ?_))
  obtain ⟨hs1, hm1, h13, hR1⟩ := h_1
  have hMd := (hR1 h13).1
  rw [hm1 6 (by decide) (by decide), hs1 (m + 4) (by simp), hs1 (m + 5) (by simp)] at hMd
  have hK : KeepM a.n a.p M M_1 m := KeepM.find hs1 hm1 hR1
  have A_t : MoA M_1 m a.n a.p := A_t.of (hm1 0 (by decide) (by decide)) (hm1 1 (by decide) (by decide)) (hm1 2 (by decide) (by decide)) (hs1 _ (by simp)) (hs1 _ (by simp)) (hs1 _ (by simp))
  obtain ⟨-, m_n, m_p, m_L, m_w⟩ := id A_t
  clear hs1 hm1 h13 hR1
  obtain ⟨hsK, hRel⟩ := hK.rel H
  have hRS := hRel.2.2.2.1
  have h15 : M_1 (m + 15) = M (m + 15) := hK.1 _ (by simp)
  have hsr : ∀ j, 0 ≤ j → j < 364 → 0 ≤ a.sum j ∧ a.sum j < a.p := fun j x y => (hSm.1 j x y).2
  refine ab_iconst C dX9_reduce_4 (by decide) ?_
  refine ab_istore1 (lv := []) C rfl dX9_reduce_5 ?_
  have h01 := lead1 p1 hMd (fun i x y => (hLw.m.2.2 i x y).1)
  refine ab_loop (fun d (y : AbM × AbV × AbV × AbV × AbV × AbV) => AJ K S 6 [vP m, vI d, y.2.1, y.2.2.1, y.2.2.2.1, y.2.2.2.2.1, y.2.2.2.2.2] [] y.1) (fun d y => 2 ≤ d ∧ same [m + 15] M_1 y.1 ∧ (∀ e, 0 ≤ e → e < d → ∀ x, 0 ≤ x → x < pw a.n e → y.1 (m + 15) (wsm a.n e + x) = rsF a.n a.p e (M_1 (m + 8)) (M_1 (m + 9)) (fun y => a.sum (wsm a.n e + y)) (pw a.n e) x % a.p) ∧ ∀ j, wsm a.n d ≤ j → y.1 (m + 15) j = M (m + 15) j) (Lg a.n + 1) ?_ 2 (M_1, vU, vU, vU, vU, vU) (by omega) ⟨by omega, same_rf _ _, fun e e0 e1 x x0 x1 => ?_, fun j hj => ?_⟩
  · intro d y hd hI ih
    obtain ⟨M5, y2, y3, y4, y5, y6⟩ := y
    obtain ⟨d2, hs5, kA, kC⟩ := hI
    dsimp only at hs5 kA kC ih ⊢
    refine ab_iload_n C dX9_reduce_6 rfl rfl ?_
    refine ab_aload_n C dX9_reduce_7 rfl rfl ?_
    refine gf_RX9_16 C s_t rfl dX9_reduce_8 ?_
    rw [show M5 m 2 = Lg a.n by rw [hs5 m (by simp), m_L]]
    refine ab_icmp_gt (tgt := 157) C dX9_reduce_11 rfl (fun h_11 => ?_) (fun h_11 => ?_)
    · skip
      refine ab_aload_n C dX9_reduce_157 rfl rfl ?_
      refine gf_RX9_64 C s_t rfl dX9_reduce_158 ?_
      refine ab_iconst C dX9_reduce_161 (by decide) ?_
      refine ab_sipush C dX9_reduce_162 (by decide) (by decide +kernel) ?_
      refine ab_callS C cl_RX9_178 (m_X9_termsOf s_t_sum (by omega) (by omega) (by omega) (by omega)) (by decide) rfl rfl (Nat.le_of_ble_eq_true rfl) dX9_reduce_165 (ab_kI (fun r_165 M_165 h_165 => ?_))
      obtain ⟨rfl, rfl⟩ := h_165
      refine ab_iret (st := []) C r dX9_reduce_168 ?_
      have ed : d = Lg a.n + 1 := by omega
      subst ed
      have htot := wsm_tot n1 n2
      have hRd : RedS a (M5 (m + 15)) := by
        refine ⟨fun e e0 e1 v v0 v1 => ?_, fun j x y => ?_⟩
        · rw [kA e e0 (by omega) v v0 v1]
          have s0 := mod_same p1 n1 e0 (fun e9 x y => hMd e9 x (by omega))
          obtain ⟨z1, z2, -⟩ := hLw.eq
          have : rsF a.n a.p e (M_1 (m + 8)) (M_1 (m + 9)) (fun y => a.sum (wsm a.n e + y)) (pw a.n e) v = sumF (fun w => a.sum (wsm a.n e + w) * srh a.n a.p a.sz a.len a.num e w v) (pw a.n e) := sumF_congr (fun w x y => by rw [(s0 w x y).2 v, z2])
          rw [this]
        · have hw0 : 0 ≤ wsm a.n (Lg a.n + 1) := by rw [← wsm_0 a.n]; exact wsm_le n1 (by omega) (by omega)
          rw [kC j x, (hSm.1 j (by omega) y).1]
          exact hSm.2 j x y
      have hz4 : ∀ j, 364 ≤ j → j < 400 → M5 (m + 15) j = 0 := fun j x y => by
        rw [kC j (by omega)]; exact hSm0 j x y
      refine ⟨_, rfl, same_tr hsK (same_mono hs5 (by simp)), a.setS (M5 (m + 15)), ⟨_, hRd, ?_, rfl⟩, ?_⟩
      · exact cnt_400 (fun j x y => by rw [Int.zero_add]) (fun j x y => by rw [Int.zero_add]; exact hz4 j x y)
      · refine MRel.sum hRel hs5 ⟨fun j x y => ⟨rfl, ?_⟩, hRd.2⟩ hz4
        show 0 ≤ M5 (m + 15) j ∧ M5 (m + 15) j < a.p
        rcases (show j < wsm a.n (Lg a.n + 1) ∨ wsm a.n (Lg a.n + 1) ≤ j by omega) with q | q
        · obtain ⟨e, v, e0, e1, v0, v1, rfl⟩ := place x q
          rw [hRd.1 e e0 e1 v v0 v1]
          exact emod_in p1
        · rw [hRd.2 j q y]; omega
    · skip
      obtain ⟨e_w, e_b, e_s⟩ := m_w d (by omega) (by omega)
      have hB := sz_B n1 n2 (show 0 ≤ d by omega) (show d ≤ Lg a.n by omega)
      have hQ := sq_B n1 n2 (show 0 ≤ d by omega) (show d ≤ Lg a.n by omega)
      have hE := (hMd d (by omega) (by omega)).1
      refine ab_iconst C dX9_reduce_14 (by decide) ?_
      refine ab_istore2 (lv := []) C rfl dX9_reduce_15 ?_
      refine ab_loop (fun w (y : AbM × AbV × AbV × AbV × AbV) => AJ K S 16 [vP m, vI d, vI w, y.2.1, y.2.2.1, y.2.2.2.1, y.2.2.2.2] [] y.1) (fun w y => 0 ≤ w ∧ same [m + 15] M_1 y.1 ∧ (∀ e, 0 ≤ e → e < d → ∀ x, 0 ≤ x → x < pw a.n e → y.1 (m + 15) (wsm a.n e + x) = rsF a.n a.p e (M_1 (m + 8)) (M_1 (m + 9)) (fun y => a.sum (wsm a.n e + y)) (pw a.n e) x % a.p) ∧ (∀ x, 0 ≤ x → x < pw a.n d → y.1 (m + 15) (wsm a.n d + x) = csF a.n a.p d (M_1 (m + 8)) (M_1 (m + 9)) (fun y => a.sum (wsm a.n d + y)) w x) ∧ ∀ j, wsm a.n (d + 1) ≤ j → y.1 (m + 15) j = M (m + 15) j) (pw a.n d) ?_ 0 (M5, y3, y4, y5, y6) (by omega) ⟨by omega, hs5, kA, fun x x0 x1 => by
        dsimp only
        rw [csF_0 x0, kC _ (by omega)]
        exact (hSm.1 _ (by omega) (by omega)).1, fun j hj => kC j (by have := wsm_s (n := a.n) (d := d) (by omega); omega)⟩
      · intro w y hw hI ihw
        obtain ⟨M6, y3, y4, y5, y6⟩ := y
        obtain ⟨w0, hs6, kA, kB, kC⟩ := hI
        dsimp only at hs6 kA kB kC ihw ⊢
        have t1 : M6 (m + 1) d = pw a.n d := by rw [hs6 (m + 1) (by simp), e_w]
        have t2 : M6 (m + 2) d = wsm a.n d := by rw [hs6 (m + 2) (by simp), e_b]
        have t3 : M6 (m + 3) d = sqm a.n d := by rw [hs6 (m + 3) (by simp), e_s]
        have t8 : ∀ x, M6 (m + 8) x = M_1 (m + 8) x := fun x => by rw [hs6 (m + 8) (by simp)]
        have t9 : ∀ x, M6 (m + 9) x = M_1 (m + 9) x := fun x => by rw [hs6 (m + 9) (by simp)]
        have tp : M6 m 1 = a.p := by rw [hs6 m (by simp), m_p]
        refine ab_iload_n C dX9_reduce_16 rfl rfl ?_
        refine ab_aload_n C dX9_reduce_17 rfl rfl ?_
        refine gf_RX9_19 C s_t rfl dX9_reduce_18 ?_
        refine ab_iload_n C dX9_reduce_21 rfl rfl ?_
        refine ab_iaload C s_t_words (by omega) (by omega) dX9_reduce_22 ?_
        rw [t1]
        refine ab_icmp_ge (tgt := 151) C dX9_reduce_23 rfl (fun h_23 => ?_) (fun h_23 => ?_)
        · skip
          refine ab_iinc1 (lv := []) C rfl dX9_reduce_151 (by omega) ?_
          refine ab_goto (tgt := 6) C dX9_reduce_154 rfl ?_
          have ew : w = pw a.n d := by omega
          subst ew
          refine ih (_, _, _, _, _, _) (by omega) ⟨by omega, hs6, fun e e0 e1 x x0 x1 => ?_, kC⟩
          dsimp only
          rcases (show e < d ∨ e = d by omega) with q | q
          · exact kA e e0 q x x0 x1
          · subst q
            rw [kB x x0 x1]
            exact if_pos x1
        · skip
          refine ab_aload_n C dX9_reduce_26 rfl rfl ?_
          refine gf_RX9_64 C s_t rfl dX9_reduce_27 ?_
          refine ab_aload_n C dX9_reduce_30 rfl rfl ?_
          refine gf_RX9_23 C s_t rfl dX9_reduce_31 ?_
          refine ab_iload_n C dX9_reduce_34 rfl rfl ?_
          refine ab_iaload C s_t_begins (by omega) (by omega) dX9_reduce_35 ?_
          rw [t2]
          refine ab_iload_n C dX9_reduce_36 rfl rfl ?_
          refine ab_iadd C dX9_reduce_37 (by omega) ?_
          refine ab_iaload C s_t_sum (by omega) (by omega) dX9_reduce_38 ?_
          have hv : M6 (m + 15) (wsm a.n d + w) = a.sum (wsm a.n d + w) := by rw [kB w w0 (by omega)]; exact if_neg (by omega)
          rw [hv]
          have hvr := hsr (wsm a.n d + w) (by omega) (by omega)
          refine ab_istore3 (lv := []) C rfl dX9_reduce_39 ?_
          refine ab_iload_n C dX9_reduce_40 rfl rfl ?_
          refine ab_if_eq (tgt := 145) C dX9_reduce_41 rfl (fun h_41 => ?_) (fun h_41 => ?_)
          · skip
            refine ab_iinc2 (lv := []) C rfl dX9_reduce_145 (by omega) ?_
            refine ab_goto (tgt := 16) C dX9_reduce_148 rfl ?_
            first
            | (refine ihw (M6, _, _, _, _) (by omega) ⟨by omega, hs6, kA, fun x x0 x1 => ?_, kC⟩
               show M6 (m + 15) (wsm a.n d + x) = _
               rw [kB x x0 x1]
               exact csF_skip w0 hvr (Or.inr h_41))
            | (refine ihw (M6, _, _, _, _) (by omega) ⟨by omega, hs6, kA, fun x x0 x1 => ?_, kC⟩
               show M6 (m + 15) (wsm a.n d + x) = _
               rw [kB x x0 x1]
               exact csF_skip w0 hvr (Or.inl h_57))
            | (have ex : x = pw a.n d := by omega
               subst ex
               obtain ⟨M7, hM7⟩ : ∃ M7, upA M6 (m + 15) (fun j => if wsm a.n d ≤ j ∧ j < wsm a.n d + (pw a.n d) then (M6 (m + 15) j + (a.p - a.sum (wsm a.n d + w)) * rwq a.n d (M_1 (m + 8)) w (j - wsm a.n d)) % a.p else M6 (m + 15) j) = M7 := ⟨_, rfl⟩
               rw [hM7]
               have r7 : ∀ j, M7 (m + 15) j = if wsm a.n d ≤ j ∧ j < wsm a.n d + pw a.n d then (M6 (m + 15) j + (a.p - a.sum (wsm a.n d + w)) * rwq a.n d (M_1 (m + 8)) w (j - wsm a.n d)) % a.p else M6 (m + 15) j := fun j => by rw [← hM7, upA_s]
               have s7 : same [m + 15] M6 M7 := by rw [← hM7]; exact same_upA (by simp)
               refine ihw (M7, _, _, _, _) (by omega) ⟨by omega, same_tr hs6 s7, fun e e0 e1 x x0 x1 => ?_, fun x x0 x1 => ?_, fun j hj => ?_⟩
               · have := wsm_le n1 (show 0 ≤ e + 1 by omega) (show e + 1 ≤ d by omega)
                 rw [wsm_s e0] at this
                 show M7 (m + 15) (wsm a.n e + x) = _
                 rw [r7, if_neg (by omega)]
                 exact kA e e0 e1 x x0 x1
               · show M7 (m + 15) (wsm a.n d + x) = _
                 rw [r7, if_pos (by omega), kB x x0 x1, show wsm a.n d + x - wsm a.n d = x by omega]
                 exact csF_lead p1 hE w0 (by omega) x0 x1 hvr (hsr _ (by omega) (by omega)) h_57
               · have := wsm_s (n := a.n) (d := d) (by omega)
                 have hj : wsm a.n (d + 1) ≤ j := hj
                 show M7 (m + 15) j = _
                 rw [r7, if_neg (by omega)]
                 exact kC j hj)
          · skip
            refine ab_aload_n C dX9_reduce_44 rfl rfl ?_
            refine gf_RX9_45 C s_t rfl dX9_reduce_45 ?_
            refine ab_aload_n C dX9_reduce_48 rfl rfl ?_
            refine gf_RX9_23 C s_t rfl dX9_reduce_49 ?_
            refine ab_iload_n C dX9_reduce_52 rfl rfl ?_
            refine ab_iaload C s_t_begins (by omega) (by omega) dX9_reduce_53 ?_
            rw [t2]
            refine ab_iload_n C dX9_reduce_54 rfl rfl ?_
            refine ab_iadd C dX9_reduce_55 (by omega) ?_
            refine ab_baload C s_t_leads (by omega) (by omega) dX9_reduce_56 ?_
            have el : M6 (m + 9) (wsm a.n d + w) = ldq a.n d (M_1 (m + 9)) w := by rw [t9]; rfl
            rw [el]
            refine ab_if_eq (tgt := 145) C dX9_reduce_57 rfl (fun h_57 => ?_) (fun h_57 => ?_)
            · skip
              refine ab_iinc2 (lv := []) C rfl dX9_reduce_145 (by omega) ?_
              refine ab_goto (tgt := 16) C dX9_reduce_148 rfl ?_
              first
              | (refine ihw (M6, _, _, _, _) (by omega) ⟨by omega, hs6, kA, fun x x0 x1 => ?_, kC⟩
                 show M6 (m + 15) (wsm a.n d + x) = _
                 rw [kB x x0 x1]
                 exact csF_skip w0 hvr (Or.inr h_41))
              | (refine ihw (M6, _, _, _, _) (by omega) ⟨by omega, hs6, kA, fun x x0 x1 => ?_, kC⟩
                 show M6 (m + 15) (wsm a.n d + x) = _
                 rw [kB x x0 x1]
                 exact csF_skip w0 hvr (Or.inl h_57))
              | (have ex : x = pw a.n d := by omega
                 subst ex
                 obtain ⟨M7, hM7⟩ : ∃ M7, upA M6 (m + 15) (fun j => if wsm a.n d ≤ j ∧ j < wsm a.n d + (pw a.n d) then (M6 (m + 15) j + (a.p - a.sum (wsm a.n d + w)) * rwq a.n d (M_1 (m + 8)) w (j - wsm a.n d)) % a.p else M6 (m + 15) j) = M7 := ⟨_, rfl⟩
                 rw [hM7]
                 have r7 : ∀ j, M7 (m + 15) j = if wsm a.n d ≤ j ∧ j < wsm a.n d + pw a.n d then (M6 (m + 15) j + (a.p - a.sum (wsm a.n d + w)) * rwq a.n d (M_1 (m + 8)) w (j - wsm a.n d)) % a.p else M6 (m + 15) j := fun j => by rw [← hM7, upA_s]
                 have s7 : same [m + 15] M6 M7 := by rw [← hM7]; exact same_upA (by simp)
                 refine ihw (M7, _, _, _, _) (by omega) ⟨by omega, same_tr hs6 s7, fun e e0 e1 x x0 x1 => ?_, fun x x0 x1 => ?_, fun j hj => ?_⟩
                 · have := wsm_le n1 (show 0 ≤ e + 1 by omega) (show e + 1 ≤ d by omega)
                   rw [wsm_s e0] at this
                   show M7 (m + 15) (wsm a.n e + x) = _
                   rw [r7, if_neg (by omega)]
                   exact kA e e0 e1 x x0 x1
                 · show M7 (m + 15) (wsm a.n d + x) = _
                   rw [r7, if_pos (by omega), kB x x0 x1, show wsm a.n d + x - wsm a.n d = x by omega]
                   exact csF_lead p1 hE w0 (by omega) x0 x1 hvr (hsr _ (by omega) (by omega)) h_57
                 · have := wsm_s (n := a.n) (d := d) (by omega)
                   have hj : wsm a.n (d + 1) ≤ j := hj
                   show M7 (m + 15) j = _
                   rw [r7, if_neg (by omega)]
                   exact kC j hj)
            · skip
              refine ab_aload_n C dX9_reduce_60 rfl rfl ?_
              refine gf_RX9_26 C s_t rfl dX9_reduce_61 ?_
              refine ab_iload_n C dX9_reduce_64 rfl rfl ?_
              refine ab_iaload C s_t_squares (by omega) (by omega) dX9_reduce_65 ?_
              rw [t3]
              refine ab_iload_n C dX9_reduce_66 rfl rfl ?_
              refine ab_aload_n C dX9_reduce_67 rfl rfl ?_
              refine gf_RX9_19 C s_t rfl dX9_reduce_68 ?_
              refine ab_iload_n C dX9_reduce_71 rfl rfl ?_
              refine ab_iaload C s_t_words (by omega) (by omega) dX9_reduce_72 ?_
              rw [t1]
              have hwB := rwq_B n1 n2 (show 0 ≤ d by omega) (show d ≤ Lg a.n by omega) w0 (show w < pw a.n d by omega) (Int.le_refl 0) (show 0 < pw a.n d by omega)
              refine ab_imul C dX9_reduce_73 (by omega) ?_
              refine ab_iadd C dX9_reduce_74 (by omega) ?_
              refine ab_istore4 (lv := []) C rfl dX9_reduce_75 ?_
              refine ab_iconst C dX9_reduce_77 (by decide) ?_
              refine ab_istore5 (lv := []) C rfl dX9_reduce_78 ?_
              refine ab_mem (M2 := upA M6 (m + 15) (fun j => if wsm a.n d ≤ j ∧ j < wsm a.n d + (0 : Int) then (M6 (m + 15) j + (a.p - a.sum (wsm a.n d + w)) * rwq a.n d (M_1 (m + 8)) w (j - wsm a.n d)) % a.p else M6 (m + 15) j)) (upA_id (fun j => if_neg (by omega))) ?_
              refine ab_loop (fun x (y6 : AbV) => AJ K S 80 [vP m, vI d, vI w, vI (a.sum (wsm a.n d + w)), vI (sqm a.n d + w * pw a.n d), vI x, y6] [] (upA M6 (m + 15) (fun j => if wsm a.n d ≤ j ∧ j < wsm a.n d + x then (M6 (m + 15) j + (a.p - a.sum (wsm a.n d + w)) * rwq a.n d (M_1 (m + 8)) w (j - wsm a.n d)) % a.p else M6 (m + 15) j))) (fun x _ => 0 ≤ x) (pw a.n d) ?_ 0 y6 (by omega) (by omega)
              · intro x y6 hx x0 ihx
                have u1 : upA M6 (m + 15) (fun j => if wsm a.n d ≤ j ∧ j < wsm a.n d + x then (M6 (m + 15) j + (a.p - a.sum (wsm a.n d + w)) * rwq a.n d (M_1 (m + 8)) w (j - wsm a.n d)) % a.p else M6 (m + 15) j) (m + 1) d = pw a.n d := by rw [upA_k (by omega), t1]
                have u2 : upA M6 (m + 15) (fun j => if wsm a.n d ≤ j ∧ j < wsm a.n d + x then (M6 (m + 15) j + (a.p - a.sum (wsm a.n d + w)) * rwq a.n d (M_1 (m + 8)) w (j - wsm a.n d)) % a.p else M6 (m + 15) j) (m + 2) d = wsm a.n d := by rw [upA_k (by omega), t2]
                have u15 : upA M6 (m + 15) (fun j => if wsm a.n d ≤ j ∧ j < wsm a.n d + x then (M6 (m + 15) j + (a.p - a.sum (wsm a.n d + w)) * rwq a.n d (M_1 (m + 8)) w (j - wsm a.n d)) % a.p else M6 (m + 15) j) (m + 15) (wsm a.n d + x) = M6 (m + 15) (wsm a.n d + x) := by rw [upA_s, if_neg (by omega)]
                have up_ : upA M6 (m + 15) (fun j => if wsm a.n d ≤ j ∧ j < wsm a.n d + x then (M6 (m + 15) j + (a.p - a.sum (wsm a.n d + w)) * rwq a.n d (M_1 (m + 8)) w (j - wsm a.n d)) % a.p else M6 (m + 15) j) m 1 = a.p := by rw [upA_k (by omega), tp]
                have u8 : upA M6 (m + 15) (fun j => if wsm a.n d ≤ j ∧ j < wsm a.n d + x then (M6 (m + 15) j + (a.p - a.sum (wsm a.n d + w)) * rwq a.n d (M_1 (m + 8)) w (j - wsm a.n d)) % a.p else M6 (m + 15) j) (m + 8) (sqm a.n d + w * pw a.n d + x) = rwq a.n d (M_1 (m + 8)) w x := by rw [upA_k (by omega), t8]; rfl
                refine ab_iload C dX9_reduce_80 rfl ?_
                refine ab_aload_n C dX9_reduce_82 rfl rfl ?_
                refine gf_RX9_19 C s_t rfl dX9_reduce_83 ?_
                refine ab_iload_n C dX9_reduce_86 rfl rfl ?_
                refine ab_iaload C s_t_words (by omega) (by omega) dX9_reduce_87 ?_
                rw [u1]
                refine ab_icmp_ge (tgt := 145) C dX9_reduce_88 rfl (fun h_88 => ?_) (fun h_88 => ?_)
                · skip
                  refine ab_iinc2 (lv := []) C rfl dX9_reduce_145 (by omega) ?_
                  refine ab_goto (tgt := 16) C dX9_reduce_148 rfl ?_
                  first
                  | (refine ihw (M6, _, _, _, _) (by omega) ⟨by omega, hs6, kA, fun x x0 x1 => ?_, kC⟩
                     show M6 (m + 15) (wsm a.n d + x) = _
                     rw [kB x x0 x1]
                     exact csF_skip w0 hvr (Or.inr h_41))
                  | (refine ihw (M6, _, _, _, _) (by omega) ⟨by omega, hs6, kA, fun x x0 x1 => ?_, kC⟩
                     show M6 (m + 15) (wsm a.n d + x) = _
                     rw [kB x x0 x1]
                     exact csF_skip w0 hvr (Or.inl h_57))
                  | (have ex : x = pw a.n d := by omega
                     subst ex
                     obtain ⟨M7, hM7⟩ : ∃ M7, upA M6 (m + 15) (fun j => if wsm a.n d ≤ j ∧ j < wsm a.n d + (pw a.n d) then (M6 (m + 15) j + (a.p - a.sum (wsm a.n d + w)) * rwq a.n d (M_1 (m + 8)) w (j - wsm a.n d)) % a.p else M6 (m + 15) j) = M7 := ⟨_, rfl⟩
                     rw [hM7]
                     have r7 : ∀ j, M7 (m + 15) j = if wsm a.n d ≤ j ∧ j < wsm a.n d + pw a.n d then (M6 (m + 15) j + (a.p - a.sum (wsm a.n d + w)) * rwq a.n d (M_1 (m + 8)) w (j - wsm a.n d)) % a.p else M6 (m + 15) j := fun j => by rw [← hM7, upA_s]
                     have s7 : same [m + 15] M6 M7 := by rw [← hM7]; exact same_upA (by simp)
                     refine ihw (M7, _, _, _, _) (by omega) ⟨by omega, same_tr hs6 s7, fun e e0 e1 x x0 x1 => ?_, fun x x0 x1 => ?_, fun j hj => ?_⟩
                     · have := wsm_le n1 (show 0 ≤ e + 1 by omega) (show e + 1 ≤ d by omega)
                       rw [wsm_s e0] at this
                       show M7 (m + 15) (wsm a.n e + x) = _
                       rw [r7, if_neg (by omega)]
                       exact kA e e0 e1 x x0 x1
                     · show M7 (m + 15) (wsm a.n d + x) = _
                       rw [r7, if_pos (by omega), kB x x0 x1, show wsm a.n d + x - wsm a.n d = x by omega]
                       exact csF_lead p1 hE w0 (by omega) x0 x1 hvr (hsr _ (by omega) (by omega)) h_57
                     · have := wsm_s (n := a.n) (d := d) (by omega)
                       have hj : wsm a.n (d + 1) ≤ j := hj
                       show M7 (m + 15) j = _
                       rw [r7, if_neg (by omega)]
                       exact kC j hj)
                · skip
                  have hrx := ((hE w w0 (by omega)).2 h_57).2 x x0 (by omega)
                  have hm : 0 ≤ (a.p - a.sum (wsm a.n d + w)) * rwq a.n d (M_1 (m + 8)) w x ∧ (a.p - a.sum (wsm a.n d + w)) * rwq a.n d (M_1 (m + 8)) w x ≤ 97 * 97 := ⟨Int.mul_nonneg (by omega) (by omega), Int.mul_le_mul (by omega) (by omega) (by omega) (by omega)⟩
                  have hwB2 := rwq_B n1 n2 (show 0 ≤ d by omega) (show d ≤ Lg a.n by omega) w0 (show w < pw a.n d by omega) x0 (show x < pw a.n d by omega)
                  have hcr : 0 ≤ M6 (m + 15) (wsm a.n d + x) ∧ M6 (m + 15) (wsm a.n d + x) < a.p := by
                    rw [kB x x0 (by omega)]
                    unfold csF
                    split
                    · exact emod_in p1
                    · exact hsr _ (by omega) (by omega)
                  refine ab_aload_n C dX9_reduce_91 rfl rfl ?_
                  refine gf_RX9_23 C s_t rfl dX9_reduce_92 ?_
                  refine ab_iload_n C dX9_reduce_95 rfl rfl ?_
                  refine ab_iaload C s_t_begins (by omega) (by omega) dX9_reduce_96 ?_
                  rw [u2]
                  refine ab_iload C dX9_reduce_97 rfl ?_
                  refine ab_iadd C dX9_reduce_99 (by omega) ?_
                  refine ab_istore6 (lv := []) C rfl dX9_reduce_100 ?_
                  refine ab_aload_n C dX9_reduce_102 rfl rfl ?_
                  refine gf_RX9_64 C s_t rfl dX9_reduce_103 ?_
                  refine ab_iload C dX9_reduce_106 rfl ?_
                  refine ab_aload_n C dX9_reduce_108 rfl rfl ?_
                  refine gf_RX9_64 C s_t rfl dX9_reduce_109 ?_
                  refine ab_iload C dX9_reduce_112 rfl ?_
                  refine ab_iaload C s_t_sum (by omega) (by omega) dX9_reduce_114 ?_
                  rw [u15]
                  refine ab_aload_n C dX9_reduce_115 rfl rfl ?_
                  refine gf_RX9_13 C s_t rfl dX9_reduce_116 ?_
                  rw [up_]
                  refine ab_iload_n C dX9_reduce_119 rfl rfl ?_
                  refine ab_isub C dX9_reduce_120 (by omega) ?_
                  refine ab_aload_n C dX9_reduce_121 rfl rfl ?_
                  refine gf_RX9_42 C s_t rfl dX9_reduce_122 ?_
                  refine ab_iload C dX9_reduce_125 rfl ?_
                  refine ab_iload C dX9_reduce_127 rfl ?_
                  refine ab_iadd C dX9_reduce_129 (by omega) ?_
                  refine ab_iaload C s_t_rows (by omega) (by omega) dX9_reduce_130 ?_
                  rw [u8]
                  refine ab_imul C dX9_reduce_131 (by omega) ?_
                  refine ab_iadd C dX9_reduce_132 (by omega) ?_
                  refine ab_aload_n C dX9_reduce_133 rfl rfl ?_
                  refine gf_RX9_13 C s_t rfl dX9_reduce_134 ?_
                  rw [up_]
                  refine ab_irem C dX9_reduce_137 (by omega) (by omega) ?_
                  refine ab_iastore C s_t_sum (by omega) (by omega) dX9_reduce_138 ?_
                  refine ab_iinc5 (lv := []) C rfl dX9_reduce_139 (by omega) ?_
                  refine ab_goto (tgt := 80) C dX9_reduce_142 rfl ?_
                  refine ab_mem (M2 := upA M6 (m + 15) (fun j => if wsm a.n d ≤ j ∧ j < wsm a.n d + (x + 1) then (M6 (m + 15) j + (a.p - a.sum (wsm a.n d + w)) * rwq a.n d (M_1 (m + 8)) w (j - wsm a.n d)) % a.p else M6 (m + 15) j)) ?_ (ihx _ (by omega) (by omega))
                  rw [up_upA]
                  exact upA_ext (fun y => by
                    by_cases q1 : y = wsm a.n d + x
                    · rw [if_pos q1, if_pos (by omega), q1, show wsm a.n d + x - wsm a.n d = x by omega]
                    · rw [if_neg q1]
                      by_cases q2 : wsm a.n d ≤ y ∧ y < wsm a.n d + x
                      · rw [if_pos q2, if_pos (by omega)]
                      · rw [if_neg q2, if_neg (by omega)])
  · have hB := sz_B n1 n2 e0 (show e ≤ Lg a.n by omega)
    dsimp only
    rw [csF_none n1 (fun w x y => h01 e e0 (by omega) w x y) (fun w x y => hsr _ (by omega) (by omega)) x0 x1, h15]
    exact (hSm.1 _ (by omega) (by omega)).1
  · dsimp only
    rw [h15]
