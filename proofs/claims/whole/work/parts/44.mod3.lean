set_option maxRecDepth 100000 in
set_option maxHeartbeats 4000000 in
theorem m_X9_tidy {D : va_G} {cA : Nat → ClassId} {S : List AbS} {M : AbM} {m : Nat} {n p : Int} (B_t : shMo S m) (A_t : MoA M m n p) {al le : Nat} (s_al : S[al]? = some (sA 0 70000)) (s_le : S[le]? = some (sA 1 400)) (hal : m + 3 < al ∧ m + 3 < le ∧ al ≠ le) {d : Int} (h0 : 0 ≤ d) (h1 : d ≤ Lg n) (hE : EchOK n p d (M al) (M le)) : Meth yX9_tidy cX9_tidy 10 none rmX9_tidy D cA S [vP m, vP al, vP le, vI d] M (qV fun M2 => ∃ A, M2 = upA M al A ∧ EchOK n p d A (M le) ∧ (∀ w9 u9, 0 ≤ u9 → u9 < w9 → w9 < pw n d → ldq n d (M le) w9 ≠ 0 → ldq n d (M le) u9 ≠ 0 → rwq n d A w9 u9 = 0) ∧ (∀ x, (x < sqm n d ∨ sqm n d + pw n d * pw n d ≤ x) → A x = M al x) ∧ ∀ V, SubV p (pw n d) V → (RowsIn n d A (M le) V ↔ RowsIn n d (M al) (M le) V)) := by
  refine ab_intro (lv := [vP m, vP al, vP le, vI d, vU, vU, vU, vU, vU, vU]) (by decide +kernel) rfl (Nat.le_of_ble_eq_true rfl) ?_
  intro hO hargs K hKD hKA C r
  have C : Cx K cX9_tidy RX9 rmX9_tidy := C
  have i_d : inI d := hargs _ (List.mem_cons_of_mem _ (List.mem_cons_of_mem _ (List.mem_cons_of_mem _ (List.mem_cons_self))))
  obtain ⟨s_t, s_t_words, s_t_begins, s_t_squares, s_t_lengths, s_t_numbers, s_t_made, s_t_tape, s_t_rows, s_t_leads, s_t_otherRows, s_t_otherLeads, s_t_row, s_t_equations, s_t_firsts, s_t_sum, s_t_lanes, s_t_sizes, s_t_items⟩ := id B_t
  obtain ⟨⟨n1, n2, hPr⟩, m_n, m_p, m_L, m_w⟩ := id A_t
  obtain ⟨p1, p2, -⟩ := id hPr
  have hLB := Lg_B n
  have hB := sz_B n1 n2 h0 h1
  have hQ := sq_B n1 n2 h0 h1
  obtain ⟨e_w, e_b, e_s⟩ := m_w d h0 h1
  refine ab_iconst C dX9_tidy_0 (by decide) ?_
  refine ab_istore4 (lv := []) C rfl dX9_tidy_1 ?_
  refine ab_mem (M2 := upA M al (M al)) (upA_self _ _).symm ?_
  refine ab_loop (fun w (s : (Int → Int) × AbV × AbV × AbV × AbV × AbV) => AJ K S 3 [vP m, vP al, vP le, vI d, vI w, s.2.1, s.2.2.1, s.2.2.2.1, s.2.2.2.2.1, s.2.2.2.2.2] [] (upA M al s.1)) (fun w s => 0 ≤ w ∧ EchOK n p d s.1 (M le) ∧ (∀ w9 u9, 0 ≤ u9 → u9 < w9 → w9 < w → ldq n d (M le) w9 ≠ 0 → ldq n d (M le) u9 ≠ 0 → rwq n d s.1 w9 u9 = 0) ∧ (∀ w2 x, w ≤ w2 → w2 < pw n d → 0 ≤ x → x < pw n d → rwq n d s.1 w2 x = rwq n d (M al) w2 x) ∧ (∀ x, (x < sqm n d ∨ sqm n d + pw n d * pw n d ≤ x) → s.1 x = M al x) ∧ ∀ V, SubV p (pw n d) V → (RowsIn n d s.1 (M le) V ↔ RowsIn n d (M al) (M le) V)) (pw n d) ?_ 0 (M al, vU, vU, vU, vU, vU) (by omega) ⟨by omega, hE, fun w u a c e => by omega, fun _ _ _ _ _ _ => rfl, fun _ _ => rfl, fun _ _ => Iff.rfl⟩
  · intro w s hw hI ih
    obtain ⟨A, y5, y6, y7, y8, y9⟩ := s
    obtain ⟨w0, a1, a2, a3, a4, a5⟩ := hI
    dsimp only at a1 a2 a3 a4 a5 ih ⊢
    have t1 : upA M al A (m + 1) d = pw n d := by rw [upA_k (by omega), e_w]
    have t2 : upA M al A (m + 2) d = wsm n d := by rw [upA_k (by omega), e_b]
    have t3 : upA M al A (m + 3) d = sqm n d := by rw [upA_k (by omega), e_s]
    have tp : upA M al A m 1 = p := by rw [upA_k (by omega), m_p]
    have tl : ∀ y, upA M al A le y = M le y := fun y => upA_k (by omega)
    have ta : ∀ y, upA M al A al y = A y := fun y => upA_s
    refine ab_iload C dX9_tidy_3 rfl ?_
    refine ab_aload_n C dX9_tidy_5 rfl rfl ?_
    refine gf_RX9_19 C s_t rfl dX9_tidy_6 ?_
    refine ab_iload_n C dX9_tidy_9 rfl rfl ?_
    refine ab_iaload C s_t_words (by omega) (by omega) dX9_tidy_10 ?_
    rw [t1]
    refine ab_icmp_ge (tgt := 165) C dX9_tidy_11 rfl (fun h_11 => ?_) (fun h_11 => ?_)
    · skip
      refine ab_vret (st := []) C r dX9_tidy_165 ?_
      have ew : w = pw n d := by omega
      subst ew
      exact ⟨rfl, A, rfl, a1, a2, a4, a5⟩
    · skip
      have w1 : w < pw n d := by omega
      have hwB := rwq_B n1 n2 h0 h1 w0 w1 (Int.le_refl 0) (show 0 < pw n d by omega)
      have hwB2 := rwq_B n1 n2 h0 h1 w0 w1 (show 0 ≤ pw n d - 1 by omega) (show pw n d - 1 < pw n d by omega)
      refine ab_aload_n C dX9_tidy_14 rfl rfl ?_
      refine gf_RX9_26 C s_t rfl dX9_tidy_15 ?_
      refine ab_iload_n C dX9_tidy_18 rfl rfl ?_
      refine ab_iaload C s_t_squares (by omega) (by omega) dX9_tidy_19 ?_
      refine ab_iload C dX9_tidy_20 rfl ?_
      refine ab_aload_n C dX9_tidy_22 rfl rfl ?_
      refine gf_RX9_19 C s_t rfl dX9_tidy_23 ?_
      refine ab_iload_n C dX9_tidy_26 rfl rfl ?_
      refine ab_iaload C s_t_words (by omega) (by omega) dX9_tidy_27 ?_
      rw [t1, t3]
      refine ab_imul C dX9_tidy_28 (by omega) ?_
      refine ab_iadd C dX9_tidy_29 (by omega) ?_
      refine ab_istore5 (lv := []) C rfl dX9_tidy_30 ?_
      refine ab_iconst C dX9_tidy_32 (by decide) ?_
      refine ab_istore6 (lv := []) C rfl dX9_tidy_33 ?_
      obtain ⟨A0, hA0⟩ : ∃ A0, A0 = A := ⟨_, rfl⟩
      refine ab_loop (fun u (s : (Int → Int) × AbV × AbV × AbV) => AJ K S 35 [vP m, vP al, vP le, vI d, vI w, vI (sqm n d + w * pw n d), vI u, s.2.1, s.2.2.1, s.2.2.2] [] (upA M al s.1)) (fun u s => 0 ≤ u ∧ EchOK n p d s.1 (M le) ∧ (∀ w2 x, w2 ≠ w → 0 ≤ w2 → w2 < pw n d → 0 ≤ x → x < pw n d → rwq n d s.1 w2 x = rwq n d A0 w2 x) ∧ (ldq n d (M le) w ≠ 0 → ∀ u2, 0 ≤ u2 → u2 < u → ldq n d (M le) u2 ≠ 0 → rwq n d s.1 w u2 = 0) ∧ (∀ x, (x < sqm n d ∨ sqm n d + pw n d * pw n d ≤ x) → s.1 x = M al x) ∧ ∀ V, SubV p (pw n d) V → (RowsIn n d s.1 (M le) V ↔ RowsIn n d (M al) (M le) V)) w ?_ 0 (A, y7, y8, y9) (by omega) ⟨by omega, a1, fun _ _ _ _ _ _ _ => by rw [hA0], fun _ u2 c1 c2 => by omega, a4, a5⟩
      · clear ta tl tp t1 t2 t3
        intro u s hu hI2 ih2
        rw [← hA0] at a1 a2 a3
        clear a4 a5 hA0 A
        obtain ⟨A, z7, z8, z9⟩ := s
        obtain ⟨u0, b1, b2, b3, b4, b5⟩ := hI2
        dsimp only at b1 b2 b3 b4 b5 ih2 ⊢
        have t1 : upA M al A (m + 1) d = pw n d := by rw [upA_k (by omega), e_w]
        have t2 : upA M al A (m + 2) d = wsm n d := by rw [upA_k (by omega), e_b]
        have t3 : upA M al A (m + 3) d = sqm n d := by rw [upA_k (by omega), e_s]
        have tp : upA M al A m 1 = p := by rw [upA_k (by omega), m_p]
        have tl : ∀ y, upA M al A le y = M le y := fun y => upA_k (by omega)
        have ta : ∀ y, upA M al A al y = A y := fun y => upA_s
        refine ab_iload C dX9_tidy_35 rfl ?_
        refine ab_iload C dX9_tidy_37 rfl ?_
        refine ab_icmp_ge (tgt := 159) C dX9_tidy_39 rfl (fun h_39 => ?_) (fun h_39 => ?_)
        · skip
          refine ab_iinc4 (lv := []) C rfl dX9_tidy_159 (by omega) ?_
          refine ab_goto (tgt := 3) C dX9_tidy_162 rfl ?_
          have hlu : ldq n d (M le) w = 0 ∨ u = w := by
            first
            | exact Or.inl h_53
            | exact Or.inr (by omega)
          refine ih (A, _, _, _, _, _) (by omega) ⟨by omega, b1, fun w2 u2 c1 c2 c3 l1 l2 => ?_, fun w2 x c1 c2 c3 c4 => ?_, b4, b5⟩
          · by_cases z : w2 = w
            · subst z
              rcases hlu with q | q
              · exact absurd q l1
              · exact b3 l1 u2 c1 (by omega) l2
            · rw [b2 w2 u2 z (by omega) (by omega) c1 (by omega)]
              exact a2 w2 u2 c1 c2 (by omega) l1 l2
          · rw [b2 w2 x (by omega) (by omega) c2 c3 c4]
            exact a3 w2 x (by omega) c2 c3 c4
        · skip
          have u1 : u < pw n d := by omega
          have huB := rwq_B n1 n2 h0 h1 u0 u1 (Int.le_refl 0) (show 0 < pw n d by omega)
          have huB2 := rwq_B n1 n2 h0 h1 u0 u1 (show 0 ≤ pw n d - 1 by omega) (show pw n d - 1 < pw n d by omega)
          refine ab_aload_n C dX9_tidy_42 rfl rfl ?_
          refine ab_aload_n C dX9_tidy_43 rfl rfl ?_
          refine gf_RX9_23 C s_t rfl dX9_tidy_44 ?_
          refine ab_iload_n C dX9_tidy_47 rfl rfl ?_
          refine ab_iaload C s_t_begins (by omega) (by omega) dX9_tidy_48 ?_
          refine ab_iload C dX9_tidy_49 rfl ?_
          rw [t2]
          refine ab_iadd C dX9_tidy_51 (by omega) ?_
          refine ab_baload C s_le (by omega) (by omega) dX9_tidy_52 ?_
          rw [tl]
          refine ab_if_eq (tgt := 159) C dX9_tidy_53 rfl (fun h_53 => ?_) (fun h_53 => ?_)
          · skip
            refine ab_iinc4 (lv := []) C rfl dX9_tidy_159 (by omega) ?_
            refine ab_goto (tgt := 3) C dX9_tidy_162 rfl ?_
            have hlu : ldq n d (M le) w = 0 ∨ u = w := by
              first
              | exact Or.inl h_53
              | exact Or.inr (by omega)
            refine ih (A, _, _, _, _, _) (by omega) ⟨by omega, b1, fun w2 u2 c1 c2 c3 l1 l2 => ?_, fun w2 x c1 c2 c3 c4 => ?_, b4, b5⟩
            · by_cases z : w2 = w
              · subst z
                rcases hlu with q | q
                · exact absurd q l1
                · exact b3 l1 u2 c1 (by omega) l2
              · rw [b2 w2 u2 z (by omega) (by omega) c1 (by omega)]
                exact a2 w2 u2 c1 c2 (by omega) l1 l2
            · rw [b2 w2 x (by omega) (by omega) c2 c3 c4]
              exact a3 w2 x (by omega) c2 c3 c4
          · skip
            refine ab_aload_n C dX9_tidy_56 rfl rfl ?_
            refine ab_iload C dX9_tidy_57 rfl ?_
            refine ab_iload C dX9_tidy_59 rfl ?_
            refine ab_iadd C dX9_tidy_61 (by omega) ?_
            refine ab_iaload C s_al (by omega) (by omega) dX9_tidy_62 ?_
            rw [ta]
            refine ab_istore7 (lv := []) C rfl dX9_tidy_63 ?_
            refine ab_iload C dX9_tidy_65 rfl ?_
            refine ab_if_eq (tgt := 153) C dX9_tidy_67 rfl (fun h_67 => ?_) (fun h_67 => ?_)
            · skip
              refine ab_iinc6 (lv := []) C rfl dX9_tidy_153 (by omega) ?_
              refine ab_goto (tgt := 35) C dX9_tidy_156 rfl ?_
              first
              | (refine ih2 (A, _, _, _) (by omega) ⟨by omega, b1, b2, fun hl u2 c1 c2 c3 => ?_, b4, b5⟩
                 rcases (show u2 < u ∨ u2 = u by omega) with q | q
                 · exact b3 hl u2 c1 q c3
                 · rw [q]; exact h_67)
              | (refine ih2 (A, _, _, _) (by omega) ⟨by omega, b1, b2, fun hl u2 c1 c2 c3 => ?_, b4, b5⟩
                 rcases (show u2 < u ∨ u2 = u by omega) with q | q
                 · exact b3 hl u2 c1 q c3
                 · rw [q] at c3; exact absurd h_81 c3)
              | (have ex : x = u + 1 := by omega
                 subst ex
                 obtain ⟨A2, hA2⟩ : ∃ A2, (fun y => if (sqm n d + w * pw n d) ≤ y ∧ y < (sqm n d + w * pw n d) + (u + 1) then (A y + (p - rwq n d A w u) * A ((sqm n d + u * pw n d) + (y - (sqm n d + w * pw n d)))) % p else A y) = A2 := ⟨_, rfl⟩
                 rw [hA2]
                 have ro : ∀ w2 x, w2 ≠ w → 0 ≤ w2 → w2 < pw n d → 0 ≤ x → x < pw n d → rwq n d A2 w2 x = rwq n d A w2 x := fun w2 x c1 c4 c5 c2 c3 => by
                   unfold rwq
                   rw [← hA2]
                   dsimp only
                   rw [if_neg]
                   intro z
                   have := rwq_un (P := pw n d) (w := w2) (x := x) (w2 := w) (x2 := w2 * pw n d + x - w * pw n d) c2 c3 (by omega) (by omega) (by omega)
                   exact c1 this.1
                 have rn : ∀ x, 0 ≤ x → x < pw n d → rwq n d A2 w x = if x ≤ u then (rwq n d A w x + (p - rwq n d A w u) * rwq n d A u x) % p else rwq n d A w x := fun x c2 c3 => by
                   unfold rwq
                   rw [← hA2]
                   dsimp only
                   by_cases z : x ≤ u
                   · rw [if_pos (by omega), if_pos z, show (sqm n d + u * pw n d) + ((sqm n d + w * pw n d) + x - (sqm n d + w * pw n d)) = (sqm n d + u * pw n d) + x by omega]
                     rfl
                   · rw [if_neg (by omega), if_neg z]
                 have hE2 : EchOK n p d A2 (M le) := fun w2 c4 c5 => by
                   by_cases z : w2 = w
                   · subst z
                     refine ⟨(b1 w2 c4 c5).1, fun _ => ⟨by rw [rn w2 c4 c5, if_neg (by omega)]; exact hbw.1, fun x c2 c3 => ?_⟩⟩
                     rw [rn x c2 c3]
                     by_cases y : x ≤ u
                     · rw [if_pos y]
                       have := emod_in (a := rwq n d A w2 x + (p - rwq n d A w2 u) * rwq n d A u x) p1
                       exact ⟨this.1, this.2, fun z => by omega⟩
                     · rw [if_neg y]; exact hbw.2 x c2 c3
                   · refine ⟨(b1 w2 c4 c5).1, fun y => ?_⟩
                     rw [ro w2 w2 z c4 c5 c4 c5]
                     refine ⟨((b1 w2 c4 c5).2 y).1, fun x c2 c3 => ?_⟩
                     rw [ro w2 x z c4 c5 c2 c3]
                     exact ((b1 w2 c4 c5).2 y).2 x c2 c3
                 have rvo : ∀ w2, w2 ≠ w → 0 ≤ w2 → w2 < pw n d → rvV n d A2 w2 = rvV n d A w2 := fun w2 c1 c4 c5 => by
                   funext y
                   unfold rvV
                   by_cases z : 0 ≤ y ∧ y < pw n d
                   · rw [if_pos z, if_pos z, ro w2 y c1 c4 c5 z.1 z.2]
                   · rw [if_neg z, if_neg z]
                 refine ih2 (A2, _, _, _) (by omega) ⟨by omega, hE2, fun w2 x c1 c4 c5 c2 c3 => by rw [ro w2 x c1 c4 c5 c2 c3]; exact b2 w2 x c1 c4 c5 c2 c3, fun hl u2 c1 c2 c3 => ?_, fun y hy => ?_, fun V hV => Iff.trans ?_ (b5 V hV)⟩
                 · rw [rn u2 c1 (by omega), if_pos (by omega)]
                   rcases (show u2 < u ∨ u2 = u by omega) with q | q
                   · have e8 : rwq n d A u u2 = 0 := by rw [b2 u u2 (by omega) u0 u1 c1 (by omega)]; exact a2 u u2 c1 q (by omega) h_81 c3
                     rw [b3 hl u2 c1 q c3, e8, Int.mul_zero]; rfl
                   · rw [q, hbu.1, Int.mul_one, show rwq n d A w u + (p - rwq n d A w u) = p by omega]
                     exact Int.emod_self
                 · rw [← hA2]; dsimp only; rw [if_neg (by omega)]; exact b4 y hy
                 · have key := fun (hVu : V (qvV (pw n d) (rwq n d A u))) => elim_in (q := rwq n d A w) (q2 := rwq n d A2 w) (v := rwq n d A w u) (R := rwq n d A u) hV hVu (fun i i0 i1 => by
                     rw [rn i i0 i1]
                     by_cases z : i ≤ u
                     · rw [if_pos z]; exact cg_tr (cg_mod p _) (cg_pv p _ _ _)
                     · rw [if_neg z, (hbu.2 i i0 i1).2.2 (by omega), Int.mul_zero]; exact cg_eq (by omega))
                   constructor
                   · intro h w2 c4 c5 hl
                     by_cases z : w2 = w
                     · rw [z]
                       have hu9 := h u u0 u1 h_81
                       rw [rvo u (by omega) u0 u1] at hu9
                       exact (key hu9).mp (h w w0 w1 h_53)
                     · rw [← rvo w2 z c4 c5]; exact h w2 c4 c5 hl
                   · intro h w2 c4 c5 hl
                     by_cases z : w2 = w
                     · rw [z]
                       exact (key (h u u0 u1 h_81)).mpr (h w w0 w1 h_53)
                     · rw [rvo w2 z c4 c5]; exact h w2 c4 c5 hl)
            · skip
              have hv0 : rwq n d A w u ≠ 0 := h_67
              refine ab_aload_n C dX9_tidy_70 rfl rfl ?_
              refine ab_aload_n C dX9_tidy_71 rfl rfl ?_
              refine gf_RX9_23 C s_t rfl dX9_tidy_72 ?_
              refine ab_iload_n C dX9_tidy_75 rfl rfl ?_
              refine ab_iaload C s_t_begins (by omega) (by omega) dX9_tidy_76 ?_
              refine ab_iload C dX9_tidy_77 rfl ?_
              rw [t2]
              refine ab_iadd C dX9_tidy_79 (by omega) ?_
              refine ab_baload C s_le (by omega) (by omega) dX9_tidy_80 ?_
              rw [tl]
              refine ab_if_eq (tgt := 153) C dX9_tidy_81 rfl (fun h_81 => ?_) (fun h_81 => ?_)
              · skip
                refine ab_iinc6 (lv := []) C rfl dX9_tidy_153 (by omega) ?_
                refine ab_goto (tgt := 35) C dX9_tidy_156 rfl ?_
                first
                | (refine ih2 (A, _, _, _) (by omega) ⟨by omega, b1, b2, fun hl u2 c1 c2 c3 => ?_, b4, b5⟩
                   rcases (show u2 < u ∨ u2 = u by omega) with q | q
                   · exact b3 hl u2 c1 q c3
                   · rw [q]; exact h_67)
                | (refine ih2 (A, _, _, _) (by omega) ⟨by omega, b1, b2, fun hl u2 c1 c2 c3 => ?_, b4, b5⟩
                   rcases (show u2 < u ∨ u2 = u by omega) with q | q
                   · exact b3 hl u2 c1 q c3
                   · rw [q] at c3; exact absurd h_81 c3)
                | (have ex : x = u + 1 := by omega
                   subst ex
                   obtain ⟨A2, hA2⟩ : ∃ A2, (fun y => if (sqm n d + w * pw n d) ≤ y ∧ y < (sqm n d + w * pw n d) + (u + 1) then (A y + (p - rwq n d A w u) * A ((sqm n d + u * pw n d) + (y - (sqm n d + w * pw n d)))) % p else A y) = A2 := ⟨_, rfl⟩
                   rw [hA2]
                   have ro : ∀ w2 x, w2 ≠ w → 0 ≤ w2 → w2 < pw n d → 0 ≤ x → x < pw n d → rwq n d A2 w2 x = rwq n d A w2 x := fun w2 x c1 c4 c5 c2 c3 => by
                     unfold rwq
                     rw [← hA2]
                     dsimp only
                     rw [if_neg]
                     intro z
                     have := rwq_un (P := pw n d) (w := w2) (x := x) (w2 := w) (x2 := w2 * pw n d + x - w * pw n d) c2 c3 (by omega) (by omega) (by omega)
                     exact c1 this.1
                   have rn : ∀ x, 0 ≤ x → x < pw n d → rwq n d A2 w x = if x ≤ u then (rwq n d A w x + (p - rwq n d A w u) * rwq n d A u x) % p else rwq n d A w x := fun x c2 c3 => by
                     unfold rwq
                     rw [← hA2]
                     dsimp only
                     by_cases z : x ≤ u
                     · rw [if_pos (by omega), if_pos z, show (sqm n d + u * pw n d) + ((sqm n d + w * pw n d) + x - (sqm n d + w * pw n d)) = (sqm n d + u * pw n d) + x by omega]
                       rfl
                     · rw [if_neg (by omega), if_neg z]
                   have hE2 : EchOK n p d A2 (M le) := fun w2 c4 c5 => by
                     by_cases z : w2 = w
                     · subst z
                       refine ⟨(b1 w2 c4 c5).1, fun _ => ⟨by rw [rn w2 c4 c5, if_neg (by omega)]; exact hbw.1, fun x c2 c3 => ?_⟩⟩
                       rw [rn x c2 c3]
                       by_cases y : x ≤ u
                       · rw [if_pos y]
                         have := emod_in (a := rwq n d A w2 x + (p - rwq n d A w2 u) * rwq n d A u x) p1
                         exact ⟨this.1, this.2, fun z => by omega⟩
                       · rw [if_neg y]; exact hbw.2 x c2 c3
                     · refine ⟨(b1 w2 c4 c5).1, fun y => ?_⟩
                       rw [ro w2 w2 z c4 c5 c4 c5]
                       refine ⟨((b1 w2 c4 c5).2 y).1, fun x c2 c3 => ?_⟩
                       rw [ro w2 x z c4 c5 c2 c3]
                       exact ((b1 w2 c4 c5).2 y).2 x c2 c3
                   have rvo : ∀ w2, w2 ≠ w → 0 ≤ w2 → w2 < pw n d → rvV n d A2 w2 = rvV n d A w2 := fun w2 c1 c4 c5 => by
                     funext y
                     unfold rvV
                     by_cases z : 0 ≤ y ∧ y < pw n d
                     · rw [if_pos z, if_pos z, ro w2 y c1 c4 c5 z.1 z.2]
                     · rw [if_neg z, if_neg z]
                   refine ih2 (A2, _, _, _) (by omega) ⟨by omega, hE2, fun w2 x c1 c4 c5 c2 c3 => by rw [ro w2 x c1 c4 c5 c2 c3]; exact b2 w2 x c1 c4 c5 c2 c3, fun hl u2 c1 c2 c3 => ?_, fun y hy => ?_, fun V hV => Iff.trans ?_ (b5 V hV)⟩
                   · rw [rn u2 c1 (by omega), if_pos (by omega)]
                     rcases (show u2 < u ∨ u2 = u by omega) with q | q
                     · have e8 : rwq n d A u u2 = 0 := by rw [b2 u u2 (by omega) u0 u1 c1 (by omega)]; exact a2 u u2 c1 q (by omega) h_81 c3
                       rw [b3 hl u2 c1 q c3, e8, Int.mul_zero]; rfl
                     · rw [q, hbu.1, Int.mul_one, show rwq n d A w u + (p - rwq n d A w u) = p by omega]
                       exact Int.emod_self
                   · rw [← hA2]; dsimp only; rw [if_neg (by omega)]; exact b4 y hy
                   · have key := fun (hVu : V (qvV (pw n d) (rwq n d A u))) => elim_in (q := rwq n d A w) (q2 := rwq n d A2 w) (v := rwq n d A w u) (R := rwq n d A u) hV hVu (fun i i0 i1 => by
                       rw [rn i i0 i1]
                       by_cases z : i ≤ u
                       · rw [if_pos z]; exact cg_tr (cg_mod p _) (cg_pv p _ _ _)
                       · rw [if_neg z, (hbu.2 i i0 i1).2.2 (by omega), Int.mul_zero]; exact cg_eq (by omega))
                     constructor
                     · intro h w2 c4 c5 hl
                       by_cases z : w2 = w
                       · rw [z]
                         have hu9 := h u u0 u1 h_81
                         rw [rvo u (by omega) u0 u1] at hu9
                         exact (key hu9).mp (h w w0 w1 h_53)
                       · rw [← rvo w2 z c4 c5]; exact h w2 c4 c5 hl
                     · intro h w2 c4 c5 hl
                       by_cases z : w2 = w
                       · rw [z]
                         exact (key (h u u0 u1 h_81)).mpr (h w w0 w1 h_53)
                       · rw [rvo w2 z c4 c5]; exact h w2 c4 c5 hl)
              · skip
                refine ab_aload_n C dX9_tidy_84 rfl rfl ?_
                refine gf_RX9_26 C s_t rfl dX9_tidy_85 ?_
                refine ab_iload_n C dX9_tidy_88 rfl rfl ?_
                refine ab_iaload C s_t_squares (by omega) (by omega) dX9_tidy_89 ?_
                refine ab_iload C dX9_tidy_90 rfl ?_
                refine ab_aload_n C dX9_tidy_92 rfl rfl ?_
                refine gf_RX9_19 C s_t rfl dX9_tidy_93 ?_
                refine ab_iload_n C dX9_tidy_96 rfl rfl ?_
                refine ab_iaload C s_t_words (by omega) (by omega) dX9_tidy_97 ?_
                rw [t1, t3]
                refine ab_imul C dX9_tidy_98 (by omega) ?_
                refine ab_iadd C dX9_tidy_99 (by omega) ?_
                refine ab_istore8 (lv := []) C rfl dX9_tidy_100 ?_
                refine ab_iconst C dX9_tidy_102 (by decide) ?_
                refine ab_istore9 (lv := []) C rfl dX9_tidy_103 ?_
                refine ab_mem (M2 := upA M al (fun y => if (sqm n d + w * pw n d) ≤ y ∧ y < (sqm n d + w * pw n d) + (0 : Int) then (A y + (p - rwq n d A w u) * A ((sqm n d + u * pw n d) + (y - (sqm n d + w * pw n d)))) % p else A y)) (upA_ext (fun y => by rw [if_neg (by omega)])) ?_
                refine ab_loop (fun x (_ : Unit) => AJ K S 105 [vP m, vP al, vP le, vI d, vI w, vI (sqm n d + w * pw n d), vI u, vI (rwq n d A w u), vI (sqm n d + u * pw n d), vI x] [] (upA M al (fun y => if (sqm n d + w * pw n d) ≤ y ∧ y < (sqm n d + w * pw n d) + x then (A y + (p - rwq n d A w u) * A ((sqm n d + u * pw n d) + (y - (sqm n d + w * pw n d)))) % p else A y))) (fun x _ => 0 ≤ x) (u + 1) ?_ 0 () (by omega) (by omega)
                · have hbig : (sqm n d + u * pw n d) + pw n d ≤ (sqm n d + w * pw n d) := by
                    have : (u + 1) * pw n d ≤ w * pw n d := Int.mul_le_mul_of_nonneg_right (by omega) (by omega)
                    rw [Int.add_mul, Int.one_mul] at this
                    omega
                  intro x _ hx x0 ih3
                  have tx1 : upA M al (fun y => if (sqm n d + w * pw n d) ≤ y ∧ y < (sqm n d + w * pw n d) + x then (A y + (p - rwq n d A w u) * A ((sqm n d + u * pw n d) + (y - (sqm n d + w * pw n d)))) % p else A y) al ((sqm n d + w * pw n d) + x) = rwq n d A w x := by rw [upA_s, if_neg (by omega)]; rfl
                  have tx2 : upA M al (fun y => if (sqm n d + w * pw n d) ≤ y ∧ y < (sqm n d + w * pw n d) + x then (A y + (p - rwq n d A w u) * A ((sqm n d + u * pw n d) + (y - (sqm n d + w * pw n d)))) % p else A y) al ((sqm n d + u * pw n d) + x) = rwq n d A u x := by rw [upA_s, if_neg (by omega)]; rfl
                  have tp : upA M al (fun y => if (sqm n d + w * pw n d) ≤ y ∧ y < (sqm n d + w * pw n d) + x then (A y + (p - rwq n d A w u) * A ((sqm n d + u * pw n d) + (y - (sqm n d + w * pw n d)))) % p else A y) m 1 = p := by rw [upA_k (by omega), m_p]
                  have hbw := (b1 w w0 w1).2 h_53
                  have hbu := (b1 u u0 u1).2 h_81
                  have hvv := hbw.2 u u0 u1
                  have hm : x ≤ u → 0 ≤ (p - rwq n d A w u) * rwq n d A u x ∧ (p - rwq n d A w u) * rwq n d A u x ≤ 97 * 97 ∧ 0 ≤ rwq n d A w x ∧ rwq n d A w x < p := fun z => by
                    have h8 := hbu.2 x x0 (by omega)
                    have h9 := hbw.2 x x0 (by omega)
                    exact ⟨Int.mul_nonneg (by omega) (by omega), Int.mul_le_mul (by omega) (by omega) (by omega) (by omega), h9.1, h9.2.1⟩
                  refine ab_iload C dX9_tidy_105 rfl ?_
                  refine ab_iload C dX9_tidy_107 rfl ?_
                  refine ab_icmp_gt (tgt := 153) C dX9_tidy_109 rfl (fun h_109 => ?_) (fun h_109 => ?_)
                  · skip
                    refine ab_iinc6 (lv := []) C rfl dX9_tidy_153 (by omega) ?_
                    refine ab_goto (tgt := 35) C dX9_tidy_156 rfl ?_
                    first
                    | (refine ih2 (A, _, _, _) (by omega) ⟨by omega, b1, b2, fun hl u2 c1 c2 c3 => ?_, b4, b5⟩
                       rcases (show u2 < u ∨ u2 = u by omega) with q | q
                       · exact b3 hl u2 c1 q c3
                       · rw [q]; exact h_67)
                    | (refine ih2 (A, _, _, _) (by omega) ⟨by omega, b1, b2, fun hl u2 c1 c2 c3 => ?_, b4, b5⟩
                       rcases (show u2 < u ∨ u2 = u by omega) with q | q
                       · exact b3 hl u2 c1 q c3
                       · rw [q] at c3; exact absurd h_81 c3)
                    | (have ex : x = u + 1 := by omega
                       subst ex
                       obtain ⟨A2, hA2⟩ : ∃ A2, (fun y => if (sqm n d + w * pw n d) ≤ y ∧ y < (sqm n d + w * pw n d) + (u + 1) then (A y + (p - rwq n d A w u) * A ((sqm n d + u * pw n d) + (y - (sqm n d + w * pw n d)))) % p else A y) = A2 := ⟨_, rfl⟩
                       rw [hA2]
                       have ro : ∀ w2 x, w2 ≠ w → 0 ≤ w2 → w2 < pw n d → 0 ≤ x → x < pw n d → rwq n d A2 w2 x = rwq n d A w2 x := fun w2 x c1 c4 c5 c2 c3 => by
                         unfold rwq
                         rw [← hA2]
                         dsimp only
                         rw [if_neg]
                         intro z
                         have := rwq_un (P := pw n d) (w := w2) (x := x) (w2 := w) (x2 := w2 * pw n d + x - w * pw n d) c2 c3 (by omega) (by omega) (by omega)
                         exact c1 this.1
                       have rn : ∀ x, 0 ≤ x → x < pw n d → rwq n d A2 w x = if x ≤ u then (rwq n d A w x + (p - rwq n d A w u) * rwq n d A u x) % p else rwq n d A w x := fun x c2 c3 => by
                         unfold rwq
                         rw [← hA2]
                         dsimp only
                         by_cases z : x ≤ u
                         · rw [if_pos (by omega), if_pos z, show (sqm n d + u * pw n d) + ((sqm n d + w * pw n d) + x - (sqm n d + w * pw n d)) = (sqm n d + u * pw n d) + x by omega]
                           rfl
                         · rw [if_neg (by omega), if_neg z]
                       have hE2 : EchOK n p d A2 (M le) := fun w2 c4 c5 => by
                         by_cases z : w2 = w
                         · subst z
                           refine ⟨(b1 w2 c4 c5).1, fun _ => ⟨by rw [rn w2 c4 c5, if_neg (by omega)]; exact hbw.1, fun x c2 c3 => ?_⟩⟩
                           rw [rn x c2 c3]
                           by_cases y : x ≤ u
                           · rw [if_pos y]
                             have := emod_in (a := rwq n d A w2 x + (p - rwq n d A w2 u) * rwq n d A u x) p1
                             exact ⟨this.1, this.2, fun z => by omega⟩
                           · rw [if_neg y]; exact hbw.2 x c2 c3
                         · refine ⟨(b1 w2 c4 c5).1, fun y => ?_⟩
                           rw [ro w2 w2 z c4 c5 c4 c5]
                           refine ⟨((b1 w2 c4 c5).2 y).1, fun x c2 c3 => ?_⟩
                           rw [ro w2 x z c4 c5 c2 c3]
                           exact ((b1 w2 c4 c5).2 y).2 x c2 c3
                       have rvo : ∀ w2, w2 ≠ w → 0 ≤ w2 → w2 < pw n d → rvV n d A2 w2 = rvV n d A w2 := fun w2 c1 c4 c5 => by
                         funext y
                         unfold rvV
                         by_cases z : 0 ≤ y ∧ y < pw n d
                         · rw [if_pos z, if_pos z, ro w2 y c1 c4 c5 z.1 z.2]
                         · rw [if_neg z, if_neg z]
                       refine ih2 (A2, _, _, _) (by omega) ⟨by omega, hE2, fun w2 x c1 c4 c5 c2 c3 => by rw [ro w2 x c1 c4 c5 c2 c3]; exact b2 w2 x c1 c4 c5 c2 c3, fun hl u2 c1 c2 c3 => ?_, fun y hy => ?_, fun V hV => Iff.trans ?_ (b5 V hV)⟩
                       · rw [rn u2 c1 (by omega), if_pos (by omega)]
                         rcases (show u2 < u ∨ u2 = u by omega) with q | q
                         · have e8 : rwq n d A u u2 = 0 := by rw [b2 u u2 (by omega) u0 u1 c1 (by omega)]; exact a2 u u2 c1 q (by omega) h_81 c3
                           rw [b3 hl u2 c1 q c3, e8, Int.mul_zero]; rfl
                         · rw [q, hbu.1, Int.mul_one, show rwq n d A w u + (p - rwq n d A w u) = p by omega]
                           exact Int.emod_self
                       · rw [← hA2]; dsimp only; rw [if_neg (by omega)]; exact b4 y hy
                       · have key := fun (hVu : V (qvV (pw n d) (rwq n d A u))) => elim_in (q := rwq n d A w) (q2 := rwq n d A2 w) (v := rwq n d A w u) (R := rwq n d A u) hV hVu (fun i i0 i1 => by
                           rw [rn i i0 i1]
                           by_cases z : i ≤ u
                           · rw [if_pos z]; exact cg_tr (cg_mod p _) (cg_pv p _ _ _)
                           · rw [if_neg z, (hbu.2 i i0 i1).2.2 (by omega), Int.mul_zero]; exact cg_eq (by omega))
                         constructor
                         · intro h w2 c4 c5 hl
                           by_cases z : w2 = w
                           · rw [z]
                             have hu9 := h u u0 u1 h_81
                             rw [rvo u (by omega) u0 u1] at hu9
                             exact (key hu9).mp (h w w0 w1 h_53)
                           · rw [← rvo w2 z c4 c5]; exact h w2 c4 c5 hl
                         · intro h w2 c4 c5 hl
                           by_cases z : w2 = w
                           · rw [z]
                             exact (key (h u u0 u1 h_81)).mpr (h w w0 w1 h_53)
                           · rw [rvo w2 z c4 c5]; exact h w2 c4 c5 hl)
                  · skip
                    refine ab_aload_n C dX9_tidy_112 rfl rfl ?_
                    refine ab_iload C dX9_tidy_113 rfl ?_
                    refine ab_iload C dX9_tidy_115 rfl ?_
                    refine ab_iadd C dX9_tidy_117 (by omega) ?_
                    refine ab_aload_n C dX9_tidy_118 rfl rfl ?_
                    refine ab_iload C dX9_tidy_119 rfl ?_
                    refine ab_iload C dX9_tidy_121 rfl ?_
                    refine ab_iadd C dX9_tidy_123 (by omega) ?_
                    refine ab_iaload C s_al (by omega) (by omega) dX9_tidy_124 ?_
                    rw [tx1]
                    refine ab_aload_n C dX9_tidy_125 rfl rfl ?_
                    refine gf_RX9_13 C s_t rfl dX9_tidy_126 ?_
                    rw [tp]
                    refine ab_iload C dX9_tidy_129 rfl ?_
                    refine ab_isub C dX9_tidy_131 (by omega) ?_
                    refine ab_aload_n C dX9_tidy_132 rfl rfl ?_
                    refine ab_iload C dX9_tidy_133 rfl ?_
                    refine ab_iload C dX9_tidy_135 rfl ?_
                    refine ab_iadd C dX9_tidy_137 (by omega) ?_
                    refine ab_iaload C s_al (by omega) (by omega) dX9_tidy_138 ?_
                    rw [tx2]
                    refine ab_imul C dX9_tidy_139 (by omega) ?_
                    refine ab_iadd C dX9_tidy_140 (by omega) ?_
                    refine ab_aload_n C dX9_tidy_141 rfl rfl ?_
                    refine gf_RX9_13 C s_t rfl dX9_tidy_142 ?_
                    rw [tp]
                    refine ab_irem C dX9_tidy_145 (by omega) (by omega) ?_
                    refine ab_iastore C s_al (by omega) (by omega) dX9_tidy_146 ?_
                    refine ab_iinc9 (lv := []) C rfl dX9_tidy_147 (by omega) ?_
                    refine ab_goto (tgt := 105) C dX9_tidy_150 rfl ?_
                    refine ab_mem (M2 := upA M al (fun y => if (sqm n d + w * pw n d) ≤ y ∧ y < (sqm n d + w * pw n d) + (x + 1) then (A y + (p - rwq n d A w u) * A ((sqm n d + u * pw n d) + (y - (sqm n d + w * pw n d)))) % p else A y)) ?_ (ih3 () (by omega) (by omega))
                    rw [up_upA]
                    exact upA_ext (fun y => by
                      by_cases q1 : y = (sqm n d + w * pw n d) + x
                      · rw [if_pos q1, if_pos (by omega), q1, show (sqm n d + u * pw n d) + ((sqm n d + w * pw n d) + x - (sqm n d + w * pw n d)) = (sqm n d + u * pw n d) + x by omega]
                        rfl
                      · rw [if_neg q1]
                        by_cases q2 : (sqm n d + w * pw n d) ≤ y ∧ y < (sqm n d + w * pw n d) + x
                        · rw [if_pos q2, if_pos (by omega)]
                        · rw [if_neg q2, if_neg (by omega)])
