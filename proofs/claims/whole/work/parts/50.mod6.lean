set_option maxRecDepth 100000 in
set_option maxHeartbeats 4000000 in
theorem m_X9_findOther {D : va_G} {cA : Nat → ClassId} {S : List AbS} {M : AbM} {m : Nat} {n p : Int} (B_t : shMo S m) (A_t : MoA M m n p) (hL : LawsM n p M m) (hR : MRd n p M m) : Meth yX9_findOther cX9_findOther 3 none rmX9_findOther D cA S [vP m] M (qV fun M2 => same [m, m + 8, m + 9, m + 10, m + 11, m + 12] M M2 ∧ (∀ j, j ≠ 13 → j ≠ 14 → M2 m j = M m j) ∧ M2 m 13 ≠ 0 ∧ M2 m 14 ≠ 0 ∧ MRd n p M2 m) := by
  refine ab_intro (lv := [vP m, vU, vU]) (by decide +kernel) rfl (Nat.le_of_ble_eq_true rfl) ?_
  intro hO hargs K hKD hKA C r
  have C : Cx K cX9_findOther RX9 rmX9_findOther := C
  obtain ⟨s_t, s_t_words, s_t_begins, s_t_squares, s_t_lengths, s_t_numbers, s_t_made, s_t_tape, s_t_rows, s_t_leads, s_t_otherRows, s_t_otherLeads, s_t_row, s_t_equations, s_t_firsts, s_t_sum, s_t_lanes, s_t_sizes, s_t_items⟩ := id B_t
  obtain ⟨⟨n1, n2, hPr⟩, m_n, m_p, m_L, m_w⟩ := id A_t
  obtain ⟨p1, p2, -⟩ := id hPr
  have hLB := Lg_B n
  refine ab_aload_n C dX9_findOther_0 rfl rfl ?_
  refine ab_callV C cl_RX9_153 (m_X9_find B_t A_t hL hR) (by decide) rfl s_t rfl rfl (Nat.le_of_ble_eq_true rfl) dX9_findOther_1 (ab_kV (fun M_1 h_1 => ?_))
  obtain ⟨hs1, hm1, h13, hR1⟩ := h_1
  obtain ⟨hMd, hz11, hO11⟩ := hR1 h13
  have A1 : MoA M_1 m n p := A_t.of (hm1 0 (by decide) (by decide)) (hm1 1 (by decide) (by decide)) (hm1 2 (by decide) (by decide)) (hs1 _ (by simp)) (hs1 _ (by simp)) (hs1 _ (by simp))
  obtain ⟨-, -, q_p, q_L, q_w⟩ := id A1
  obtain ⟨e_w, e_b, e_s⟩ := q_w 2 (by omega) (by omega)
  have hB := sz_B n1 n2 (show (0 : Int) ≤ 2 by omega) (show 2 ≤ Lg n by omega)
  have hQd := sq_B n1 n2 (show (0 : Int) ≤ 2 by omega) (show 2 ≤ Lg n by omega)
  have hP81 := law_len n1 n2 (show (2 : Int) ≤ 2 by omega) (show (2 : Int) ≤ 4 by omega)
  have hsm := mod_same p1 n1 (show (0 : Int) ≤ 2 by omega) (fun e e0 e1 => hMd e e0 (by omega))
  have hE2 := (hMd 2 (by omega) (by omega)).1
  have A3 : MoA (up M_1 m 14 1) m n p := A1.of (up_i (by decide)) (up_i (by decide)) (up_i (by decide)) (up_row (by omega)) (up_row (by omega)) (up_row (by omega))
  refine ab_aload_n C dX9_findOther_4 rfl rfl ?_
  refine gf_RX9_150 C s_t rfl dX9_findOther_5 ?_
  refine ab_if_eq (tgt := 12) C dX9_findOther_8 rfl (fun h_8 => ?_) (fun h_8 => ?_)
  · skip
    have z11 := hz11 h_8
    have hle0 : ∀ e, 0 ≤ e → e ≤ Lg n → ∀ w, 0 ≤ w → w < pw n e → ldq n e (M_1 (m + 11)) w = 0 := fun e e0 e1 w w0 w1 => by
      have hB := sz_B n1 n2 e0 e1
      exact z11 _ (by omega) (by omega)
    have e11 : (up M_1 m 14 1) (m + 11) = M_1 (m + 11) := up_row (by omega)
    refine ab_aload_n C dX9_findOther_12 rfl rfl ?_
    refine ab_iconst C dX9_findOther_13 (by decide) ?_
    refine pf_RX9_150 C (by omega) s_t rfl dX9_findOther_14 ?_
    refine ab_iconst C dX9_findOther_17 (by decide) ?_
    refine ab_istore1 (lv := []) C rfl dX9_findOther_18 ?_
    have hE3 : EchOK n p 2 ((up M_1 m 14 1) (m + 10)) ((up M_1 m 14 1) (m + 11)) := fun w w0 w1 => by rw [e11]; exact ⟨Or.inl (hle0 2 (by omega) (by omega) w w0 w1), fun z => absurd (hle0 2 (by omega) (by omega) w w0 w1) z⟩
    refine ab_loop (fun u (s : AbM × AbV) => AJ K S 19 [vP m, vI u, s.2] [] s.1) (fun u s => 0 ≤ u ∧ GrI n p 2 m (m + 10) (m + 11) (up M_1 m 14 1) s.1 (fun V => ∀ v, 0 ≤ v → v < u → ldq n 2 (M_1 (m + 9)) v = 0 → V (colV n p (M_1 (m + 8)) (M_1 (m + 9)) v))) (pw n 2) ?_ 0 ((up M_1 m 14 1), vU) (by omega) ⟨by omega, (GrI.zero hE3).iff (fun V _ => ⟨fun _ v a b => by omega, fun _ => trivial⟩)⟩
    · intro u s hu hI ih
      obtain ⟨M5, y2⟩ := s
      obtain ⟨u0, hG5⟩ := hI
      dsimp only at hG5 ih ⊢
      have hs5 := hG5.1
      have t1 : M5 (m + 1) 2 = pw n 2 := by rw [hs5 (m + 1) (by simp), up_row (by omega), e_w]
      have t2 : M5 (m + 2) 2 = wsm n 2 := by rw [hs5 (m + 2) (by simp), up_row (by omega), e_b]
      have t3 : M5 (m + 3) 2 = sqm n 2 := by rw [hs5 (m + 3) (by simp), up_row (by omega), e_s]
      have tl : ∀ y, M5 (m + 9) y = M_1 (m + 9) y := fun y => by rw [hs5 (m + 9) (by simp), up_row (by omega)]
      have ta : ∀ y, M5 (m + 8) y = M_1 (m + 8) y := fun y => by rw [hs5 (m + 8) (by simp), up_row (by omega)]
      have tp : M5 m 1 = p := by rw [hs5 m (by simp), up_i (by decide), q_p]
      refine ab_iload_n C dX9_findOther_19 rfl rfl ?_
      refine ab_aload_n C dX9_findOther_20 rfl rfl ?_
      refine gf_RX9_19 C s_t rfl dX9_findOther_21 ?_
      refine ab_iconst C dX9_findOther_24 (by decide) ?_
      refine ab_iaload C s_t_words (by omega) (by omega) dX9_findOther_25 ?_
      rw [t1]
      refine ab_icmp_ge (tgt := 147) C dX9_findOther_26 rfl (fun h_26 => ?_) (fun h_26 => ?_)
      · skip
        have A9 : MoA M5 m n p := hG5.1.moA A3 (by simp)
        refine ab_aload_n C dX9_findOther_147 rfl rfl ?_
        refine ab_aload_n C dX9_findOther_148 rfl rfl ?_
        refine gf_RX9_49 C s_t rfl dX9_findOther_149 ?_
        refine ab_aload_n C dX9_findOther_152 rfl rfl ?_
        refine gf_RX9_52 C s_t rfl dX9_findOther_153 ?_
        refine ab_iconst C dX9_findOther_156 (by decide) ?_
        refine ab_callV C cl_RX9_147 (m_X9_tidy B_t A9 s_t_otherRows s_t_otherLeads (by omega) (by omega) (by omega) hG5.2.1) (by decide) rfl s_t rfl rfl (Nat.le_of_ble_eq_true rfl) dX9_findOther_157 (ab_kV (fun M_157 h_157 => ?_))
        obtain ⟨A2, hA2, tE2, tR2, tO2, tV2⟩ := h_157
        refine ab_iconst C dX9_findOther_160 (by decide) ?_
        refine ab_istore1 (lv := []) C rfl dX9_findOther_161 ?_
        obtain rfl : u = pw n 2 := by omega
        have hA8 : M_157 (m + 10) = A2 := by rw [hA2]; funext y; exact upA_s
        have hA9 : M_157 (m + 11) = M5 (m + 11) := by rw [hA2]; exact upA_row (by omega)
        have hZb : ∀ x, (x < wsm n 2 ∨ wsm n 2 + pw n 2 ≤ x) → M_157 (m + 11) x = M_1 (m + 11) x := fun x hx => by rw [hA9, hG5.2.2.1.2 x hx, e11]
        have hl9 : ∀ e, 0 ≤ e → e < 2 → ∀ w, 0 ≤ w → w < pw n e → ldq n e (M_157 (m + 11)) w = 0 := fun e e0 e1 w w0 w1 => by
          have hmm := wsm_mono n1 e0 e1
          have := hZb (wsm n e + w) (Or.inl (by omega))
          unfold ldq
          rw [this]
          exact hle0 e e0 (by omega) w w0 w1
        have hD2 : ∀ e, 0 ≤ e → e < 3 → DoneM n p e (M_157 (m + 10)) (M_157 (m + 11)) (LwD n e (sNm n p (M_1 m 6) (M_1 (m + 4)) (M_1 (m + 5)) 2) (fun _ => 2) (oNum n p (M_1 m 6) (M_1 (m + 4)) (M_1 (m + 5)))) := fun e e0 e1 => by
          rcases (show e < 2 ∨ e = 2 by omega) with q | q
          · refine doneM_none n1 (hl9 e e0 q) (fun z => hl9 (e - 1) (by omega) (by omega)) (fun x hx => ?_)
            obtain ⟨i, -, -, hi, -⟩ := hx
            have hi2 : (2 : Int) = e := hi
            omega
          · subst q
            rw [hA8, hA9]
            refine ⟨tE2, tR2, fun z => by omega, fun _ V hV => ?_⟩
            refine (tV2 V hV).trans ((hG5.2.2.2 V hV).trans ?_)
            rw [oLw n1 hP81 hsm]
            constructor
            · intro a
              refine ⟨fun c t _ _ t0 t1 hl => ?_, a.2⟩
              rw [← hA9] at hl
              exact absurd (hl9 (2 - 1) (by omega) (by omega) t t0 t1) hl
            · intro a
              exact ⟨fun w w0 w1 hl => by rw [e11] at hl; exact absurd (hle0 2 (by omega) (by omega) w w0 w1) hl, a.2⟩
        refine ab_loop (fun d (s : AbM × AbV) => AJ K S 162 [vP m, vI d, s.2] [] s.1) (fun d s => 3 ≤ d ∧ same [m + 10, m + 11, m + 12] (up M_1 m 14 1) s.1 ∧ (∀ e, 0 ≤ e → e < d → DoneM n p e (s.1 (m + 10)) (s.1 (m + 11)) (LwD n e (sNm n p (M_1 m 6) (M_1 (m + 4)) (M_1 (m + 5)) 2) (fun _ => 2) (oNum n p (M_1 m 6) (M_1 (m + 4)) (M_1 (m + 5))))) ∧ ∀ x, wsm n d ≤ x → x < 400 → s.1 (m + 11) x = 0) (Lg n + 1) ?_ 3 (M_157, y2) (by omega) ⟨by omega, same_tr hG5.1 (by rw [hA2]; exact same_upA (by simp)), hD2, fun x x0 x1 => ?_⟩
        · clear tV2 tO2 tR2 tE2 hl9 hZb
          intro d s hd hI ih
          obtain ⟨M7, z2⟩ := s
          obtain ⟨d2, hs7, hD, hzz⟩ := hI
          dsimp only at hs7 hD hzz ih ⊢
          have A7 : MoA M7 m n p := hs7.moA A3 (by simp)
          have tL : M7 m 2 = Lg n := by rw [hs7 m (by simp), up_i (by decide), q_L]
          refine ab_iload_n C dX9_findOther_162 rfl rfl ?_
          refine ab_aload_n C dX9_findOther_163 rfl rfl ?_
          refine gf_RX9_16 C s_t rfl dX9_findOther_164 ?_
          rw [tL]
          refine ab_icmp_gt (tgt := 202) C dX9_findOther_167 rfl (fun h_167 => ?_) (fun h_167 => ?_)
          · skip
            refine ab_vret (st := []) C r dX9_findOther_202 ?_
            have e6 : ∀ j, j ≠ 14 → M7 m j = M_1 m j := fun j hj => by rw [hs7 m (by simp), up_i hj]
            have r_ : ∀ q, q ≠ m → q ≠ m + 10 → q ≠ m + 11 → q ≠ m + 12 → M7 q = M_1 q := fun q a b c d => by rw [hs7 q (by simp; omega), up_row a]
            have e14 : M7 m 14 = 1 := by rw [hs7 m (by simp), up_s]
            refine ⟨rfl, fun q hq => ?_, fun j j1 j2 => by rw [e6 j j2, hm1 j j1 j2], by rw [e6 13 (by decide)]; exact h13, by rw [e14]; decide, fun _ => ?_⟩
            · simp only [List.mem_cons, List.not_mem_nil, or_false, not_or] at hq
              rw [r_ q (by omega) (by omega) (by omega) (by omega), hs1 q (by simp; omega)]
            · rw [r_ (m + 8) (by omega) (by omega) (by omega) (by omega), r_ (m + 9) (by omega) (by omega) (by omega) (by omega), r_ (m + 4) (by omega) (by omega) (by omega) (by omega), r_ (m + 5) (by omega) (by omega) (by omega) (by omega), e6 6 (by decide)]
              exact ⟨hMd, fun z => by rw [e14] at z; omega, fun _ e a b => hD e a (by omega)⟩
          · skip
            have hBd := sz_B n1 n2 (show 0 ≤ d by omega) (show d ≤ Lg n by omega)
            have hQd := sq_B n1 n2 (show 0 ≤ d by omega) (show d ≤ Lg n by omega)
            have hz7 : ∀ w, 0 ≤ w → w < pw n d → ldq n d (M7 (m + 11)) w = 0 := fun w w0 w1 => hzz _ (by omega) (by omega)
            have hE : EchOK n p d (M7 (m + 10)) (M7 (m + 11)) := fun w w0 w1 => ⟨Or.inl (hz7 w w0 w1), fun z => absurd (hz7 w w0 w1) z⟩
            refine ab_aload_n C dX9_findOther_170 rfl rfl ?_
            refine ab_aload_n C dX9_findOther_171 rfl rfl ?_
            refine gf_RX9_49 C s_t rfl dX9_findOther_172 ?_
            refine ab_aload_n C dX9_findOther_175 rfl rfl ?_
            refine gf_RX9_52 C s_t rfl dX9_findOther_176 ?_
            refine ab_iload_n C dX9_findOther_179 rfl rfl ?_
            refine ab_callV C cl_RX9_144 (m_X9_grow B_t A7 s_t_otherRows s_t_otherLeads (by omega) (by omega) (by omega) (hD (d - 1) (by omega) (by omega)).1 hE) (by decide) rfl s_t rfl rfl (Nat.le_of_ble_eq_true rfl) dX9_findOther_180 (ab_kV (fun M_180 h_180 => ?_))
            have A8 : MoA M_180 m n p := h_180.1.moA A7 (by simp)
            refine ab_aload_n C dX9_findOther_183 rfl rfl ?_
            refine ab_aload_n C dX9_findOther_184 rfl rfl ?_
            refine gf_RX9_49 C s_t rfl dX9_findOther_185 ?_
            refine ab_aload_n C dX9_findOther_188 rfl rfl ?_
            refine gf_RX9_52 C s_t rfl dX9_findOther_189 ?_
            refine ab_iload_n C dX9_findOther_192 rfl rfl ?_
            refine ab_callV C cl_RX9_147 (m_X9_tidy B_t A8 s_t_otherRows s_t_otherLeads (by omega) (by omega) (by omega) h_180.2.1) (by decide) rfl s_t rfl rfl (Nat.le_of_ble_eq_true rfl) dX9_findOther_193 (ab_kV (fun M_193 h_193 => ?_))
            obtain ⟨A, hA, tE, tR, tO, tV⟩ := h_193
            refine ab_iinc1 (lv := []) C rfl dX9_findOther_196 (by omega) ?_
            refine ab_goto (tgt := 162) C dX9_findOther_199 rfl ?_
            have hA8 : M_193 (m + 10) = A := by rw [hA]; funext y; exact upA_s
            have hA9 : M_193 (m + 11) = M_180 (m + 11) := by rw [hA]; exact upA_row (by omega)
            have lo8 : ∀ x, x < sqm n d → M_193 (m + 10) x = M7 (m + 10) x := fun x hx => by rw [hA8, tO x (Or.inl hx)]; exact h_180.2.2.1.1 x (Or.inl hx)
            have lo9 : ∀ x, x < wsm n d → M_193 (m + 11) x = M7 (m + 11) x := fun x hx => by rw [hA9]; exact h_180.2.2.1.2 x (Or.inl hx)
            refine ih (M_193, _) (by omega) ⟨by omega, same_tr hs7 (same_tr h_180.1 (by rw [hA]; exact same_upA (by simp))), fun e e0 e1 => ?_, fun x x0 x1 => ?_⟩
            · rcases (show e < d ∨ e = d by omega) with q | q
              · exact (rEq_lo n1 e0 q lo8 lo9).done n1 (fun z => rEq_lo n1 (by omega) (show e - 1 < d by omega) lo8 lo9) (hD e e0 q)
              · subst q
                dsimp only
                rw [hA8] at lo8 ⊢
                rw [hA9] at lo9 ⊢
                refine ⟨tE, tR, fun z => by omega, fun _ V hV => ?_⟩
                refine (tV V hV).trans ((h_180.2.2.2 V hV).trans ?_)
                have gg := (rEq_lo n1 (show 0 ≤ e - 1 by omega) (show e - 1 < e by omega) lo8 lo9).gr (V := V)
                constructor
                · intro a
                  refine ⟨gg.mp a.2, fun x hx => ?_⟩
                  obtain ⟨i, i0, i1, hi, rfl⟩ := hx
                  have hi2 : (2 : Int) = e := hi
                  exfalso; omega
                · intro a
                  exact ⟨fun w w0 w1 hl => absurd (hz7 w w0 w1) hl, gg.mpr a.1⟩
            · dsimp only
              rw [wsm_s (by omega)] at x0
              rw [hA9, h_180.2.2.1.2 x (Or.inr x0)]
              exact hzz x (by omega) x1
        · have hw3 : wsm n 3 = wsm n 2 + pw n 2 := wsm_s (n := n) (d := 2) (by omega)
          rw [hw3] at x0
          dsimp only
          rw [hZb x (Or.inr x0)]
          exact z11 x (by omega) x1
      · skip
        refine ab_aload_n C dX9_findOther_29 rfl rfl ?_
        refine gf_RX9_45 C s_t rfl dX9_findOther_30 ?_
        refine ab_aload_n C dX9_findOther_33 rfl rfl ?_
        refine gf_RX9_23 C s_t rfl dX9_findOther_34 ?_
        refine ab_iconst C dX9_findOther_37 (by decide) ?_
        refine ab_iaload C s_t_begins (by omega) (by omega) dX9_findOther_38 ?_
        rw [t2]
        refine ab_iload_n C dX9_findOther_39 rfl rfl ?_
        refine ab_iadd C dX9_findOther_40 (by omega) ?_
        refine ab_baload C s_t_leads (by omega) (by omega) dX9_findOther_41 ?_
        have ef : M5 (m + 9) (wsm n 2 + u) = ldq n 2 (M_1 (m + 9)) u := tl _
        rw [ef]
        refine ab_if_ne (tgt := 141) C dX9_findOther_42 rfl (fun h_42 => ?_) (fun h_42 => ?_)
        · skip
          refine ab_iinc1 (lv := []) C rfl dX9_findOther_141 (by omega) ?_
          refine ab_goto (tgt := 19) C dX9_findOther_144 rfl ?_
          first
          | (refine ih (M5, _) (by omega) ⟨by omega, hG5.iff (fun V _ => ⟨fun a v v0 v1 hl => ?_, fun a v v0 v1 hl => a v v0 (by omega) hl⟩)⟩
             rcases (show v < u ∨ v = u by omega) with q | q
             · exact a v v0 q hl
             · subst q; exact absurd hl h_42)
          | (refine ih (M_138, _) (by omega) ⟨by omega, g11.iff (fun V hV => ?_)⟩
             (try dsimp only)
             rw [r10]
             constructor
             · intro a v v0 v1 hl
               rcases (show v < u ∨ v = u by omega) with q | q
               · exact a.1 v v0 q hl
               · subst q; exact (rwO_V hu0 (by omega) hV).mp a.2
             · intro a
               exact ⟨fun v v0 v1 hl => a v v0 (by omega) hl, (rwO_V hu0 (by omega) hV).mpr (a u u0 (by omega) hu0)⟩)
        · skip
          have hu0 : ldq n 2 (M_1 (m + 9)) u = 0 := by omega
          refine ab_aload_n C dX9_findOther_45 rfl rfl ?_
          refine ab_callV C cl_RX9_137 (m_X9_clearRow B_t) (by decide) rfl s_t rfl rfl (Nat.le_of_ble_eq_true rfl) dX9_findOther_46 (ab_kV (fun M_46 h_46 => ?_))
          subst h_46
          refine ab_aload_n C dX9_findOther_49 rfl rfl ?_
          refine gf_RX9_55 C s_t rfl dX9_findOther_50 ?_
          refine ab_iload_n C dX9_findOther_53 rfl rfl ?_
          refine ab_iconst C dX9_findOther_54 (by decide) ?_
          refine ab_iastore C s_t_row (by omega) (by omega) dX9_findOther_55 ?_
          refine ab_iconst C dX9_findOther_56 (by decide) ?_
          refine ab_istore2 (lv := []) C rfl dX9_findOther_57 ?_
          refine ab_mem (M2 := upA M5 (m + 12) (rwO n p u (M_1 (m + 8)) (M_1 (m + 9)) (M5 (m + 12)) 0)) (by rw [up_upA]; exact upA_ext (fun j => (rwO_0 j).symm)) ?_
          refine ab_loop (fun w (_ : Unit) => AJ K S 58 [vP m, vI u, vI w] [] (upA M5 (m + 12) (rwO n p u (M_1 (m + 8)) (M_1 (m + 9)) (M5 (m + 12)) w))) (fun w _ => 0 ≤ w) (pw n 2) ?_ 0 () (by omega) (by omega)
          · intro w _ hw w0 ihw
            have v1 : upA M5 (m + 12) (rwO n p u (M_1 (m + 8)) (M_1 (m + 9)) (M5 (m + 12)) w) (m + 1) 2 = pw n 2 := by rw [upA_k (by omega), t1]
            have v2 : upA M5 (m + 12) (rwO n p u (M_1 (m + 8)) (M_1 (m + 9)) (M5 (m + 12)) w) (m + 2) 2 = wsm n 2 := by rw [upA_k (by omega), t2]
            have v3 : upA M5 (m + 12) (rwO n p u (M_1 (m + 8)) (M_1 (m + 9)) (M5 (m + 12)) w) (m + 3) 2 = sqm n 2 := by rw [upA_k (by omega), t3]
            have vp : upA M5 (m + 12) (rwO n p u (M_1 (m + 8)) (M_1 (m + 9)) (M5 (m + 12)) w) m 1 = p := by rw [upA_k (by omega), tp]
            refine ab_iload_n C dX9_findOther_58 rfl rfl ?_
            refine ab_aload_n C dX9_findOther_59 rfl rfl ?_
            refine gf_RX9_19 C s_t rfl dX9_findOther_60 ?_
            refine ab_iconst C dX9_findOther_63 (by decide) ?_
            refine ab_iaload C s_t_words (by omega) (by omega) dX9_findOther_64 ?_
            rw [v1]
            refine ab_icmp_ge (tgt := 128) C dX9_findOther_65 rfl (fun h_65 => ?_) (fun h_65 => ?_)
            · skip
              obtain rfl : w = pw n 2 := by omega
              have hG10 := hG5.row (f := (rwO n p u (M_1 (m + 8)) (M_1 (m + 9)) (M5 (m + 12)) (pw n 2))) (by omega) (by omega)
              obtain ⟨M10, hM10⟩ : ∃ M10, upA M5 (m + 12) (rwO n p u (M_1 (m + 8)) (M_1 (m + 9)) (M5 (m + 12)) (pw n 2)) = M10 := ⟨_, rfl⟩
              rw [hM10] at hG10 ⊢
              have r10 : M10 (m + 12) = (rwO n p u (M_1 (m + 8)) (M_1 (m + 9)) (M5 (m + 12)) (pw n 2)) := by rw [← hM10]; funext j; exact upA_s
              have A10 : MoA M10 m n p := hG10.1.moA A3 (by simp)
              refine ab_aload_n C dX9_findOther_128 rfl rfl ?_
              refine ab_aload_n C dX9_findOther_129 rfl rfl ?_
              refine gf_RX9_49 C s_t rfl dX9_findOther_130 ?_
              refine ab_aload_n C dX9_findOther_133 rfl rfl ?_
              refine gf_RX9_52 C s_t rfl dX9_findOther_134 ?_
              refine ab_iconst C dX9_findOther_137 (by decide) ?_
              refine ab_callV C cl_RX9_140 (m_X9_insert B_t A10 s_t_otherRows s_t_otherLeads (by omega) (by omega) (by omega) (by rw [r10]; intro x x0 x1; rw [rwO_at hu0 (by omega) x0 x1]; exact RM_in p1) hG10.2.1) (by decide) rfl s_t rfl rfl (Nat.le_of_ble_eq_true rfl) dX9_findOther_138 (ab_kV (fun M_138 h_138 => ?_))
              have g11 := hG10.tr (M3 := M_138) (G2 := fun V => V (qvV (pw n 2) (M10 (m + 12)))) ⟨h_138.1, h_138.2.1, ⟨h_138.2.2.1, h_138.2.2.2.1⟩, fun V hV => ⟨h_138.2.2.2.2.1 V hV, fun a => h_138.2.2.2.2.2 V hV a.1 a.2⟩⟩
              refine ab_iinc1 (lv := []) C rfl dX9_findOther_141 (by omega) ?_
              refine ab_goto (tgt := 19) C dX9_findOther_144 rfl ?_
              first
              | (refine ih (M5, _) (by omega) ⟨by omega, hG5.iff (fun V _ => ⟨fun a v v0 v1 hl => ?_, fun a v v0 v1 hl => a v v0 (by omega) hl⟩)⟩
                 rcases (show v < u ∨ v = u by omega) with q | q
                 · exact a v v0 q hl
                 · subst q; exact absurd hl h_42)
              | (refine ih (M_138, _) (by omega) ⟨by omega, g11.iff (fun V hV => ?_)⟩
                 (try dsimp only)
                 rw [r10]
                 constructor
                 · intro a v v0 v1 hl
                   rcases (show v < u ∨ v = u by omega) with q | q
                   · exact a.1 v v0 q hl
                   · subst q; exact (rwO_V hu0 (by omega) hV).mp a.2
                 · intro a
                   exact ⟨fun v v0 v1 hl => a v v0 (by omega) hl, (rwO_V hu0 (by omega) hV).mpr (a u u0 (by omega) hu0)⟩)
            · skip
              have w1 : w < pw n 2 := by omega
              have hwB := rwq_B n1 n2 (show (0 : Int) ≤ 2 by omega) (show 2 ≤ Lg n by omega) w0 w1 u0 (show u < pw n 2 by omega)
              refine ab_aload_n C dX9_findOther_68 rfl rfl ?_
              refine gf_RX9_45 C s_t rfl dX9_findOther_69 ?_
              refine ab_aload_n C dX9_findOther_72 rfl rfl ?_
              refine gf_RX9_23 C s_t rfl dX9_findOther_73 ?_
              refine ab_iconst C dX9_findOther_76 (by decide) ?_
              refine ab_iaload C s_t_begins (by omega) (by omega) dX9_findOther_77 ?_
              rw [v2]
              refine ab_iload_n C dX9_findOther_78 rfl rfl ?_
              refine ab_iadd C dX9_findOther_79 (by omega) ?_
              refine ab_baload C s_t_leads (by omega) (by omega) dX9_findOther_80 ?_
              have ef2 : upA M5 (m + 12) (rwO n p u (M_1 (m + 8)) (M_1 (m + 9)) (M5 (m + 12)) w) (m + 9) (wsm n 2 + w) = ldq n 2 (M_1 (m + 9)) w := by rw [upA_k (by omega)]; exact tl _
              rw [ef2]
              refine ab_if_eq (tgt := 122) C dX9_findOther_81 rfl (fun h_81 => ?_) (fun h_81 => ?_)
              · skip
                refine ab_iinc2 (lv := []) C rfl dX9_findOther_122 (by omega) ?_
                refine ab_goto (tgt := 58) C dX9_findOther_125 rfl ?_
                first
                | (refine ab_mem (M2 := upA M5 (m + 12) (rwO n p u (M_1 (m + 8)) (M_1 (m + 9)) (M5 (m + 12)) (w + 1))) ?_ (ihw () (by omega) (by omega))
                   rw [up_upA]
                   exact upA_ext (rwO_s1 w0 h_81))
                | (refine ab_mem (M2 := upA M5 (m + 12) (rwO n p u (M_1 (m + 8)) (M_1 (m + 9)) (M5 (m + 12)) (w + 1))) ?_ (ihw () (by omega) (by omega))
                   exact upA_ext (rwO_s0 h_81))
              · skip
                refine ab_aload_n C dX9_findOther_84 rfl rfl ?_
                refine gf_RX9_55 C s_t rfl dX9_findOther_85 ?_
                refine ab_iload_n C dX9_findOther_88 rfl rfl ?_
                refine ab_aload_n C dX9_findOther_89 rfl rfl ?_
                refine gf_RX9_13 C s_t rfl dX9_findOther_90 ?_
                rw [vp]
                refine ab_aload_n C dX9_findOther_93 rfl rfl ?_
                refine gf_RX9_42 C s_t rfl dX9_findOther_94 ?_
                refine ab_aload_n C dX9_findOther_97 rfl rfl ?_
                refine gf_RX9_26 C s_t rfl dX9_findOther_98 ?_
                refine ab_iconst C dX9_findOther_101 (by decide) ?_
                refine ab_iaload C s_t_squares (by omega) (by omega) dX9_findOther_102 ?_
                rw [v3]
                refine ab_iload_n C dX9_findOther_103 rfl rfl ?_
                refine ab_aload_n C dX9_findOther_104 rfl rfl ?_
                refine gf_RX9_19 C s_t rfl dX9_findOther_105 ?_
                refine ab_iconst C dX9_findOther_108 (by decide) ?_
                refine ab_iaload C s_t_words (by omega) (by omega) dX9_findOther_109 ?_
                rw [v1]
                refine ab_imul C dX9_findOther_110 (by omega) ?_
                refine ab_iadd C dX9_findOther_111 (by omega) ?_
                refine ab_iload_n C dX9_findOther_112 rfl rfl ?_
                refine ab_iadd C dX9_findOther_113 (by omega) ?_
                refine ab_iaload C s_t_rows (by omega) (by omega) dX9_findOther_114 ?_
                have ef3 : upA M5 (m + 12) (rwO n p u (M_1 (m + 8)) (M_1 (m + 9)) (M5 (m + 12)) w) (m + 8) (sqm n 2 + w * pw n 2 + u) = rwq n 2 (M_1 (m + 8)) w u := by rw [upA_k (by omega)]; exact ta _
                rw [ef3]
                have hEw := (hE2 w w0 (by omega)).2 h_81
                have hEu := hEw.2 u u0 (by omega)
                refine ab_isub C dX9_findOther_115 (by omega) ?_
                refine ab_aload_n C dX9_findOther_116 rfl rfl ?_
                refine gf_RX9_13 C s_t rfl dX9_findOther_117 ?_
                rw [vp]
                refine ab_irem C dX9_findOther_120 (by omega) (by omega) ?_
                have eRM : (p - rwq n 2 (M_1 (m + 8)) w u) % p = RM n p 2 (M_1 (m + 8)) (M_1 (m + 9)) w u := by
                  rw [RM_1 h_81]
                  rcases (show u < w ∨ u = w ∨ w < u by omega) with q | q | q
                  · rw [if_pos ⟨u0, q⟩]
                  · exact absurd hu0 (by rw [q]; exact h_81)
                  · rw [if_neg (by omega), hEu.2.2 q, Int.sub_zero, Int.emod_self]
                rw [eRM]
                refine ab_iastore C s_t_row (by omega) (by omega) dX9_findOther_121 ?_
                refine ab_iinc2 (lv := []) C rfl dX9_findOther_122 (by omega) ?_
                refine ab_goto (tgt := 58) C dX9_findOther_125 rfl ?_
                first
                | (refine ab_mem (M2 := upA M5 (m + 12) (rwO n p u (M_1 (m + 8)) (M_1 (m + 9)) (M5 (m + 12)) (w + 1))) ?_ (ihw () (by omega) (by omega))
                   rw [up_upA]
                   exact upA_ext (rwO_s1 w0 h_81))
                | (refine ab_mem (M2 := upA M5 (m + 12) (rwO n p u (M_1 (m + 8)) (M_1 (m + 9)) (M5 (m + 12)) (w + 1))) ?_ (ihw () (by omega) (by omega))
                   exact upA_ext (rwO_s0 h_81))
  · skip
    refine ab_vret (st := []) C r dX9_findOther_11 ?_
    exact ⟨rfl, hs1, hm1, h13, h_8, hR1⟩
