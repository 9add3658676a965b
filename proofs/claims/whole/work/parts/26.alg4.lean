set_option maxRecDepth 100000 in
set_option maxHeartbeats 4000000 in
theorem m_fs1 {D : va_G} {cA : Nat → ClassId} {S : List AbS} {M : AbM} {b a g : Nat} {n p : Int} (B_t : shAg S b a g) (A_t_alphabet : Al M a n p) (hba : a + 3 < b) (hbg : g + 2 < b) {d w : Int} (h0 : 1 ≤ d) (h1 : d ≤ Lg n) (w0 : 0 ≤ w) (w1 : w < pw n d) {Lw : Vc → Prop} (hW : WF n p d w (M (b + 1)) (M (b + 2))) (hpr : WF n p (d - 1) (pw n (d - 1)) (M (b + 1)) (M (b + 2))) (hG : GoodD n p d w Lw (M (b + 1)) (M (b + 2))) : Meth yX0_followShorter cX0_followShorter 5 none rmX0_followShorter D cA S [vP b, vI d, vI w] M (qV fun M2 => same [b + 1, b + 2, b + 6] M M2 ∧ FSp n p d w Lw (M (b + 1)) (M (b + 2)) (M2 (b + 1)) (M2 (b + 2))) := by
  refine ab_intro (lv := [vP b, vI d, vI w, vU, vU]) (by decide +kernel) rfl (Nat.le_of_ble_eq_true rfl) ?_
  intro hO hargs K hKD hKA C r
  have C : Cx K cX0_followShorter RX0 rmX0_followShorter := C
  have i_d : inI d := hargs _ (List.mem_cons_of_mem _ (List.mem_cons_self))
  have i_w : inI w := hargs _ (List.mem_cons_of_mem _ (List.mem_cons_of_mem _ (List.mem_cons_self)))
  obtain ⟨s_t, s_t_forms, s_t_leading, s_t_normals, s_t_leasts, s_t_middles, s_t_form, B_t_alphabet, B_t_lawList⟩ := id B_t
  obtain ⟨s_t_alphabet, -⟩ := id B_t_alphabet
  obtain ⟨s_t_lawList, -⟩ := id B_t_lawList
  obtain ⟨⟨n1, n2, hPr⟩, -⟩ := id A_t_alphabet
  obtain ⟨p1, p2, -⟩ := id hPr
  have hLB := Lg_B n
  have hB := sz_B n1 n2 (show 0 ≤ d by omega) h1
  have hB2 := sz_B (d := d - 1) n1 n2 (by omega) (by omega)
  obtain ⟨t0, t1, l0, l1, tl⟩ := tail_B n1 h0 w0 w1
  obtain ⟨u0, u1, e0, e1, ul⟩ := head_B n1 h0 w0 w1
  have htri := tri_lt w0 w1
  have htn := tri_nn w0
  have A0 := A_t_alphabet
  refine ab_iload_n C dX0_followShorter_0 rfl rfl ?_
  refine ab_if_le (tgt := 35) C dX0_followShorter_1 rfl (fun h_1 => ?_) (fun h_1 => ?_)
  · skip
    exfalso; omega
  · skip
    refine ab_aload_n C dX0_followShorter_4 rfl rfl ?_
    refine gf_RX0_16 C s_t rfl dX0_followShorter_5 ?_
    refine ab_aload_n C dX0_followShorter_8 rfl rfl ?_
    refine gf_RX0_36 C s_t rfl dX0_followShorter_9 ?_
    refine ab_iload_n C dX0_followShorter_12 rfl rfl ?_
    refine ab_iconst C dX0_followShorter_13 (by decide) ?_
    refine ab_isub C dX0_followShorter_14 (by omega) ?_
    refine ab_aload_n C dX0_followShorter_15 rfl rfl ?_
    refine gf_RX0_36 C s_t rfl dX0_followShorter_16 ?_
    refine ab_iload_n C dX0_followShorter_19 rfl rfl ?_
    refine ab_iload_n C dX0_followShorter_20 rfl rfl ?_
    refine ab_callV C cl_RX0_109 (m_X1_withoutFirst B_t_alphabet A_t_alphabet (by omega) (by omega) (by omega) (by omega)) (by decide) rfl s_t_alphabet rfl rfl (Nat.le_of_ble_eq_true rfl) dX0_followShorter_21 (ab_kI (fun r_21 M_21 h_21 => ?_))
    obtain ⟨rfl, rfl⟩ := h_21
    refine ab_callV C cl_RX0_54 (m_X1_placeOf B_t_alphabet A_t_alphabet (by omega) (by omega) (by omega) (by omega)) (by decide) rfl s_t_alphabet rfl rfl (Nat.le_of_ble_eq_true rfl) dX0_followShorter_24 (ab_kI (fun r_24 M_24 h_24 => ?_))
    obtain ⟨rfl, rfl⟩ := h_24
    refine ab_baload C s_t_leading (by omega) (by omega) dX0_followShorter_27 ?_
    refine ab_if_eq (tgt := 35) C dX0_followShorter_28 rfl (fun h_28 => ?_) (fun h_28 => ?_)
    · skip
      have h_28 : ldq n (d - 1) (M (b + 2)) (w % pw n (d - 1)) = 0 := h_28
      refine ab_iconst C dX0_followShorter_35 (by decide) ?_
      refine ab_istore3 (lv := []) C rfl dX0_followShorter_36 ?_
      refine ab_iload_n C dX0_followShorter_37 rfl rfl ?_
      refine ab_if_le (tgt := 71) C dX0_followShorter_38 rfl (fun h_38 => ?_) (fun h_38 => ?_)
      · skip
        exfalso; omega
      · skip
        refine ab_aload_n C dX0_followShorter_41 rfl rfl ?_
        refine gf_RX0_16 C s_t rfl dX0_followShorter_42 ?_
        refine ab_aload_n C dX0_followShorter_45 rfl rfl ?_
        refine gf_RX0_36 C s_t rfl dX0_followShorter_46 ?_
        refine ab_iload_n C dX0_followShorter_49 rfl rfl ?_
        refine ab_iconst C dX0_followShorter_50 (by decide) ?_
        refine ab_isub C dX0_followShorter_51 (by omega) ?_
        refine ab_aload_n C dX0_followShorter_52 rfl rfl ?_
        refine gf_RX0_36 C s_t rfl dX0_followShorter_53 ?_
        refine ab_iload_n C dX0_followShorter_56 rfl rfl ?_
        refine ab_callV C cl_RX0_112 (m_X1_withoutLast B_t_alphabet A_t_alphabet (by omega)) (by decide) rfl s_t_alphabet rfl rfl (Nat.le_of_ble_eq_true rfl) dX0_followShorter_57 (ab_kI (fun r_57 M_57 h_57 => ?_))
        obtain ⟨rfl, rfl⟩ := h_57
        refine ab_callV C cl_RX0_54 (m_X1_placeOf B_t_alphabet A_t_alphabet (by omega) (by omega) (by omega) (by omega)) (by decide) rfl s_t_alphabet rfl rfl (Nat.le_of_ble_eq_true rfl) dX0_followShorter_60 (ab_kI (fun r_60 M_60 h_60 => ?_))
        obtain ⟨rfl, rfl⟩ := h_60
        refine ab_baload C s_t_leading (by omega) (by omega) dX0_followShorter_63 ?_
        refine ab_if_eq (tgt := 71) C dX0_followShorter_64 rfl (fun h_64 => ?_) (fun h_64 => ?_)
        · skip
          have h_64 : ldq n (d - 1) (M (b + 2)) (w / n) = 0 := h_64
          refine ab_iconst C dX0_followShorter_71 (by decide) ?_
          refine ab_istore4 (lv := []) C rfl dX0_followShorter_72 ?_
          refine ab_aload_n C dX0_followShorter_74 rfl rfl ?_
          refine gf_RX0_16 C s_t rfl dX0_followShorter_75 ?_
          refine ab_aload_n C dX0_followShorter_78 rfl rfl ?_
          refine gf_RX0_36 C s_t rfl dX0_followShorter_79 ?_
          refine ab_iload_n C dX0_followShorter_82 rfl rfl ?_
          refine ab_iload_n C dX0_followShorter_83 rfl rfl ?_
          refine ab_callV C cl_RX0_54 (m_X1_placeOf B_t_alphabet A_t_alphabet (by omega) (by omega) (by omega) (by omega)) (by decide) rfl s_t_alphabet rfl rfl (Nat.le_of_ble_eq_true rfl) dX0_followShorter_84 (ab_kI (fun r_84 M_84 h_84 => ?_))
          obtain ⟨rfl, rfl⟩ := h_84
          refine ab_iload_n C dX0_followShorter_87 rfl rfl ?_
          refine ab_if_ne (tgt := 96) C dX0_followShorter_88 rfl (fun h_88 => ?_) (fun h_88 => ?_)
          · exact absurd h_88 (by decide)
          · skip
            refine ab_iload C dX0_followShorter_91 rfl ?_
            refine ab_if_eq (tgt := 100) C dX0_followShorter_93 rfl (fun h_93 => ?_) (fun h_93 => ?_)
            · skip
              refine ab_iconst C dX0_followShorter_100 (by decide) ?_
              refine ab_bastore C s_t_leading (by omega) (by omega) (by omega) dX0_followShorter_101 ?_
              refine ab_iload_n C dX0_followShorter_102 rfl rfl ?_
              refine ab_if_ne (tgt := 112) C dX0_followShorter_103 rfl (fun h_103 => ?_) (fun h_103 => ?_)
              · exact absurd h_103 (by decide)
              · skip
                refine ab_iload C dX0_followShorter_106 rfl ?_
                refine ab_if_ne (tgt := 112) C dX0_followShorter_108 rfl (fun h_108 => ?_) (fun h_108 => ?_)
                · exact absurd h_108 (by decide)
                · skip
                  refine ab_vret (st := []) C r dX0_followShorter_111 ?_
                  refine ⟨rfl, same_up (by simp), ?_⟩
                  have e1 : up M (b + 2) (wsm n d + w) 0 (b + 1) = M (b + 1) := up_row (by omega)
                  have e2 : up M (b + 2) (wsm n d + w) 0 (b + 2) = stZ n d w 0 (M (b + 2)) := by
                    funext i
                    unfold stZ up
                    simp
                  rw [e1, e2]
                  exact fs_none p1 n1 w0 hW (fun _ => hpr) (fun _ => hG) (fun _ => ⟨h_28, h_64⟩)
            · exact absurd h_93 (by decide)
        · skip
          have h_64 : ldq n (d - 1) (M (b + 2)) (w / n) ≠ 0 := h_64
          refine ab_iconst C dX0_followShorter_67 (by decide) ?_
          refine ab_goto (tgt := 72) C dX0_followShorter_68 rfl ?_
          refine ab_istore4 (lv := []) C rfl dX0_followShorter_72 ?_
          refine ab_aload_n C dX0_followShorter_74 rfl rfl ?_
          refine gf_RX0_16 C s_t rfl dX0_followShorter_75 ?_
          refine ab_aload_n C dX0_followShorter_78 rfl rfl ?_
          refine gf_RX0_36 C s_t rfl dX0_followShorter_79 ?_
          refine ab_iload_n C dX0_followShorter_82 rfl rfl ?_
          refine ab_iload_n C dX0_followShorter_83 rfl rfl ?_
          refine ab_callV C cl_RX0_54 (m_X1_placeOf B_t_alphabet A_t_alphabet (by omega) (by omega) (by omega) (by omega)) (by decide) rfl s_t_alphabet rfl rfl (Nat.le_of_ble_eq_true rfl) dX0_followShorter_84 (ab_kI (fun r_84 M_84 h_84 => ?_))
          obtain ⟨rfl, rfl⟩ := h_84
          refine ab_iload_n C dX0_followShorter_87 rfl rfl ?_
          refine ab_if_ne (tgt := 96) C dX0_followShorter_88 rfl (fun h_88 => ?_) (fun h_88 => ?_)
          · exact absurd h_88 (by decide)
          · skip
            refine ab_iload C dX0_followShorter_91 rfl ?_
            refine ab_if_eq (tgt := 100) C dX0_followShorter_93 rfl (fun h_93 => ?_) (fun h_93 => ?_)
            · exact absurd h_93 (by decide)
            · skip
              refine ab_iconst C dX0_followShorter_96 (by decide) ?_
              refine ab_goto (tgt := 101) C dX0_followShorter_97 rfl ?_
              refine ab_bastore C s_t_leading (by omega) (by omega) (by omega) dX0_followShorter_101 ?_
              refine ab_iload_n C dX0_followShorter_102 rfl rfl ?_
              refine ab_if_ne (tgt := 112) C dX0_followShorter_103 rfl (fun h_103 => ?_) (fun h_103 => ?_)
              · exact absurd h_103 (by decide)
              · skip
                refine ab_iload C dX0_followShorter_106 rfl ?_
                refine ab_if_ne (tgt := 112) C dX0_followShorter_108 rfl (fun h_108 => ?_) (fun h_108 => ?_)
                · skip
                  refine ab_aload_n C dX0_followShorter_112 rfl rfl ?_
                  refine ab_iload_n C dX0_followShorter_113 rfl rfl ?_
                  refine ab_iconst C dX0_followShorter_114 (by decide) ?_
                  refine ab_iadd C dX0_followShorter_115 (by omega) ?_
                  refine ab_callV C cl_RX0_129 (m_X0_clearForm B_t (by omega) (by omega)) (by decide) rfl s_t rfl rfl (Nat.le_of_ble_eq_true rfl) dX0_followShorter_116 (ab_kV (fun M_116 h_116 => ?_))
                  subst h_116
                  obtain ⟨Mc, hMc⟩ : ∃ Mc, upA (up M (b + 2) (wsm n d + w) 1) (b + 6) (fun j => if 0 ≤ j ∧ j < w + 1 then 0 else up M (b + 2) (wsm n d + w) 1 (b + 6) j) = Mc := ⟨_, rfl⟩
                  rw [hMc]
                  have r1 : Mc (b + 1) = M (b + 1) := by rw [← hMc, upA_row (by omega), up_row (by omega)]
                  have r2 : Mc (b + 2) = (stZ n d w 1 (M (b + 2))) := by
                    rw [← hMc, upA_row (by omega)]
                    funext i
                    unfold stZ up
                    simp
                  have r6 : ∀ v, 0 ≤ v → v ≤ w → Mc (b + 6) v = 0 := fun v a c => by rw [← hMc, upA_s, if_pos (by omega)]
                  have rs : same [b + 1, b + 2, b + 6] M Mc := by rw [← hMc]; exact same_tr (same_up (by simp)) (same_upA (by simp))
                  have A_t_alphabet := rs.al A_t_alphabet (by intro k hk; simp only [List.mem_cons, List.not_mem_nil, or_false] at hk; omega)
                  have hWs : WF n p d w (M (b + 1)) (stZ n d w 1 (M (b + 2))) := hW.congr (fun w2 _ z => (stZ_n (by omega)).symm) (fun _ _ _ _ _ _ => rfl)
                  have hrZ : ∀ w2, 0 ≤ w2 → w2 < w → ∀ v, rho n d (M (b + 1)) (stZ n d w 1 (M (b + 2))) w2 v = rho n d (M (b + 1)) (M (b + 2)) w2 v := fun w2 _ z => rho_eq (stZ_n (by omega)) (fun _ _ _ _ => rfl)
                  refine ab_iload_n C dX0_followShorter_119 rfl rfl ?_
                  refine ab_if_eq (tgt := 132) C dX0_followShorter_120 rfl (fun h_120 => ?_) (fun h_120 => ?_)
                  · skip
                    refine ab_aload_n C dX0_followShorter_132 rfl rfl ?_
                    refine ab_iload_n C dX0_followShorter_133 rfl rfl ?_
                    refine ab_iload_n C dX0_followShorter_134 rfl rfl ?_
                    refine ab_iconst C dX0_followShorter_135 (by decide) ?_
                    refine ab_callV C cl_RX0_135 (m_X0_addHeadForm B_t (by assumption) (by omega) (by omega) (by omega) (by omega) (by omega) (by omega) (by omega) (by omega) (by rw [r1]; intro v a c; exact ⟨((hpr _ u0 u1).2 h_64 v a (by omega)).1, ((hpr _ u0 u1).2 h_64 v a (by omega)).2.1⟩) (by intro v a c; rw [r6 v a c]; omega) (by rw [r1, r2]; exact hWs)) (by decide) rfl s_t rfl rfl (Nat.le_of_ble_eq_true rfl) dX0_followShorter_136 (ab_kV (fun M_136 h_136 => ?_))
                    subst h_136
                    obtain ⟨Mt, hMt⟩ : ∃ Mt, upA Mc (b + 6) (accG p w (headS n d (Mc (b + 1)) (Mc (b + 2)) w 1 (w / n)) (Mc (b + 6))) = Mt := ⟨_, rfl⟩
                    rw [hMt]
                    have q1 : Mt (b + 1) = M (b + 1) := by rw [← hMt, upA_row (by omega), r1]
                    have q2 : Mt (b + 2) = (stZ n d w 1 (M (b + 2))) := by rw [← hMt, upA_row (by omega), r2]
                    have q6 : ∀ v, 0 ≤ v → v ≤ w → Mt (b + 6) v = headS n d (M (b + 1)) (M (b + 2)) w 1 (w / n) v % p := fun v a c => by
                      rw [← hMt, upA_s]
                      unfold accG
                      rw [if_pos ⟨a, c⟩, r6 v a c, Int.zero_add, r1, r2]
                      congr 1
                      exact headS_eq (fun _ _ _ => rfl) (fun s a c => hrZ _ (head_in (d := d) n1 a c).1 (head_in (d := d) n1 a c).2 v)
                    have qs : same [b + 1, b + 2, b + 6] M Mt := same_tr rs (by rw [← hMt]; exact same_upA (by simp))
                    have A_t_alphabet := qs.al A0 (by intro k hk; simp only [List.mem_cons, List.not_mem_nil, or_false] at hk; omega)
                    refine ab_aload_n C dX0_followShorter_139 rfl rfl ?_
                    refine gf_RX0_29 C s_t rfl dX0_followShorter_140 ?_
                    refine ab_iconst C dX0_followShorter_143 (by decide) ?_
                    refine ab_aload_n C dX0_followShorter_144 rfl rfl ?_
                    refine gf_RX0_10 C s_t rfl dX0_followShorter_145 ?_
                    refine ab_aload_n C dX0_followShorter_148 rfl rfl ?_
                    refine gf_RX0_36 C s_t rfl dX0_followShorter_149 ?_
                    refine ab_iload_n C dX0_followShorter_152 rfl rfl ?_
                    refine ab_iload_n C dX0_followShorter_153 rfl rfl ?_
                    refine ab_callV C cl_RX0_106 (m_X1_formAt B_t_alphabet A_t_alphabet (by omega) (by omega) (by omega) (by omega)) (by decide) rfl s_t_alphabet rfl rfl (Nat.le_of_ble_eq_true rfl) dX0_followShorter_154 (ab_kI (fun r_154 M_154 h_154 => ?_))
                    obtain ⟨rfl, rfl⟩ := h_154
                    refine ab_iload_n C dX0_followShorter_157 rfl rfl ?_
                    refine ab_iconst C dX0_followShorter_158 (by decide) ?_
                    refine ab_iadd C dX0_followShorter_159 (by omega) ?_
                    refine ab_copy C gw326 gw719 gw720 gw721 (by decide) (Nat.le_of_ble_eq_true rfl) s_t_form s_t_forms (by omega) (by omega) (by omega) (by omega) (by omega) dX0_followShorter_160 ?_
                    obtain ⟨Mf, hMf⟩ : ∃ Mf, upA Mt (b + 1) (fun j => if (fsm n d + w * (w + 1) / 2) ≤ j ∧ j < (fsm n d + w * (w + 1) / 2) + (w + 1) then Mt (b + 6) (0 + (j - (fsm n d + w * (w + 1) / 2))) else Mt (b + 1) j) = Mf := ⟨_, rfl⟩
                    rw [hMf]
                    have f1 : Mf (b + 1) = cpF (fsm n d + w * (w + 1) / 2) (w + 1) (Mt (b + 6)) (M (b + 1)) := by
                      rw [← hMf]
                      funext j
                      rw [upA_s]
                      unfold cpF
                      rw [Int.zero_add, q1]
                    have f2 : Mf (b + 2) = (stZ n d w 1 (M (b + 2))) := by rw [← hMf, upA_row (by omega), q2]
                    have f6 : Mf (b + 6) = Mt (b + 6) := by rw [← hMf, upA_row (by omega)]
                    have fs : same [b + 1, b + 2, b + 6] M Mf := same_tr qs (by rw [← hMf]; exact same_upA (by simp))
                    have A_t_alphabet := fs.al A0 (by intro k hk; simp only [List.mem_cons, List.not_mem_nil, or_false] at hk; omega)
                    refine ab_iload_n C dX0_followShorter_163 rfl rfl ?_
                    refine ab_if_eq (tgt := 195) C dX0_followShorter_164 rfl (fun h_164 => ?_) (fun h_164 => ?_)
                    · skip
                      refine ab_vret (st := []) C r dX0_followShorter_195 ?_
                      first
                      | (refine ⟨rfl, same_tr ks hs2, ?_⟩
                         rw [k1, k2, f1, f2] at hT
                         refine fs_both hPr n1 h0 w0 w1 hW hpr hG h_64 gr g0 LT (G2 := Mh (b + 6)) ?_ hT
                         intro v a c
                         rw [k6 v a c, f1, f2])
                      | (refine ⟨rfl, fs, ?_⟩
                         rw [f1, f2]
                         exact fs_tail1 p1 n1 h0 w0 w1 hpr hG h_64 (fs_tail hPr n1 h0 w0 w1 hW hpr hG h_28 q6))
                      | (refine ⟨rfl, fs, ?_⟩
                         rw [f1, f2]
                         exact fs_head1 p1 n1 h0 w0 w1 hpr hG h_28 (fs_head hPr n1 h0 w0 w1 hW hpr hG h_64 q6))
                    · exact absurd h_164 (by decide)
                  · exact absurd h_120 (by decide)
                · exact absurd h_108 (by decide)
    · skip
      have h_28 : ldq n (d - 1) (M (b + 2)) (w % pw n (d - 1)) ≠ 0 := h_28
      refine ab_iconst C dX0_followShorter_31 (by decide) ?_
      refine ab_goto (tgt := 36) C dX0_followShorter_32 rfl ?_
      refine ab_istore3 (lv := []) C rfl dX0_followShorter_36 ?_
      refine ab_iload_n C dX0_followShorter_37 rfl rfl ?_
      refine ab_if_le (tgt := 71) C dX0_followShorter_38 rfl (fun h_38 => ?_) (fun h_38 => ?_)
      · skip
        exfalso; omega
      · skip
        refine ab_aload_n C dX0_followShorter_41 rfl rfl ?_
        refine gf_RX0_16 C s_t rfl dX0_followShorter_42 ?_
        refine ab_aload_n C dX0_followShorter_45 rfl rfl ?_
        refine gf_RX0_36 C s_t rfl dX0_followShorter_46 ?_
        refine ab_iload_n C dX0_followShorter_49 rfl rfl ?_
        refine ab_iconst C dX0_followShorter_50 (by decide) ?_
        refine ab_isub C dX0_followShorter_51 (by omega) ?_
        refine ab_aload_n C dX0_followShorter_52 rfl rfl ?_
        refine gf_RX0_36 C s_t rfl dX0_followShorter_53 ?_
        refine ab_iload_n C dX0_followShorter_56 rfl rfl ?_
        refine ab_callV C cl_RX0_112 (m_X1_withoutLast B_t_alphabet A_t_alphabet (by omega)) (by decide) rfl s_t_alphabet rfl rfl (Nat.le_of_ble_eq_true rfl) dX0_followShorter_57 (ab_kI (fun r_57 M_57 h_57 => ?_))
        obtain ⟨rfl, rfl⟩ := h_57
        refine ab_callV C cl_RX0_54 (m_X1_placeOf B_t_alphabet A_t_alphabet (by omega) (by omega) (by omega) (by omega)) (by decide) rfl s_t_alphabet rfl rfl (Nat.le_of_ble_eq_true rfl) dX0_followShorter_60 (ab_kI (fun r_60 M_60 h_60 => ?_))
        obtain ⟨rfl, rfl⟩ := h_60
        refine ab_baload C s_t_leading (by omega) (by omega) dX0_followShorter_63 ?_
        refine ab_if_eq (tgt := 71) C dX0_followShorter_64 rfl (fun h_64 => ?_) (fun h_64 => ?_)
        · skip
          have h_64 : ldq n (d - 1) (M (b + 2)) (w / n) = 0 := h_64
          refine ab_iconst C dX0_followShorter_71 (by decide) ?_
          refine ab_istore4 (lv := []) C rfl dX0_followShorter_72 ?_
          refine ab_aload_n C dX0_followShorter_74 rfl rfl ?_
          refine gf_RX0_16 C s_t rfl dX0_followShorter_75 ?_
          refine ab_aload_n C dX0_followShorter_78 rfl rfl ?_
          refine gf_RX0_36 C s_t rfl dX0_followShorter_79 ?_
          refine ab_iload_n C dX0_followShorter_82 rfl rfl ?_
          refine ab_iload_n C dX0_followShorter_83 rfl rfl ?_
          refine ab_callV C cl_RX0_54 (m_X1_placeOf B_t_alphabet A_t_alphabet (by omega) (by omega) (by omega) (by omega)) (by decide) rfl s_t_alphabet rfl rfl (Nat.le_of_ble_eq_true rfl) dX0_followShorter_84 (ab_kI (fun r_84 M_84 h_84 => ?_))
          obtain ⟨rfl, rfl⟩ := h_84
          refine ab_iload_n C dX0_followShorter_87 rfl rfl ?_
          refine ab_if_ne (tgt := 96) C dX0_followShorter_88 rfl (fun h_88 => ?_) (fun h_88 => ?_)
          · skip
            refine ab_iconst C dX0_followShorter_96 (by decide) ?_
            refine ab_goto (tgt := 101) C dX0_followShorter_97 rfl ?_
            refine ab_bastore C s_t_leading (by omega) (by omega) (by omega) dX0_followShorter_101 ?_
            refine ab_iload_n C dX0_followShorter_102 rfl rfl ?_
            refine ab_if_ne (tgt := 112) C dX0_followShorter_103 rfl (fun h_103 => ?_) (fun h_103 => ?_)
            · skip
              refine ab_aload_n C dX0_followShorter_112 rfl rfl ?_
              refine ab_iload_n C dX0_followShorter_113 rfl rfl ?_
              refine ab_iconst C dX0_followShorter_114 (by decide) ?_
              refine ab_iadd C dX0_followShorter_115 (by omega) ?_
              refine ab_callV C cl_RX0_129 (m_X0_clearForm B_t (by omega) (by omega)) (by decide) rfl s_t rfl rfl (Nat.le_of_ble_eq_true rfl) dX0_followShorter_116 (ab_kV (fun M_116 h_116 => ?_))
              subst h_116
              obtain ⟨Mc, hMc⟩ : ∃ Mc, upA (up M (b + 2) (wsm n d + w) 1) (b + 6) (fun j => if 0 ≤ j ∧ j < w + 1 then 0 else up M (b + 2) (wsm n d + w) 1 (b + 6) j) = Mc := ⟨_, rfl⟩
              rw [hMc]
              have r1 : Mc (b + 1) = M (b + 1) := by rw [← hMc, upA_row (by omega), up_row (by omega)]
              have r2 : Mc (b + 2) = (stZ n d w 1 (M (b + 2))) := by
                rw [← hMc, upA_row (by omega)]
                funext i
                unfold stZ up
                simp
              have r6 : ∀ v, 0 ≤ v → v ≤ w → Mc (b + 6) v = 0 := fun v a c => by rw [← hMc, upA_s, if_pos (by omega)]
              have rs : same [b + 1, b + 2, b + 6] M Mc := by rw [← hMc]; exact same_tr (same_up (by simp)) (same_upA (by simp))
              have A_t_alphabet := rs.al A_t_alphabet (by intro k hk; simp only [List.mem_cons, List.not_mem_nil, or_false] at hk; omega)
              have hWs : WF n p d w (M (b + 1)) (stZ n d w 1 (M (b + 2))) := hW.congr (fun w2 _ z => (stZ_n (by omega)).symm) (fun _ _ _ _ _ _ => rfl)
              have hrZ : ∀ w2, 0 ≤ w2 → w2 < w → ∀ v, rho n d (M (b + 1)) (stZ n d w 1 (M (b + 2))) w2 v = rho n d (M (b + 1)) (M (b + 2)) w2 v := fun w2 _ z => rho_eq (stZ_n (by omega)) (fun _ _ _ _ => rfl)
              refine ab_iload_n C dX0_followShorter_119 rfl rfl ?_
              refine ab_if_eq (tgt := 132) C dX0_followShorter_120 rfl (fun h_120 => ?_) (fun h_120 => ?_)
              · exact absurd h_120 (by decide)
              · skip
                refine ab_aload_n C dX0_followShorter_123 rfl rfl ?_
                refine ab_iload_n C dX0_followShorter_124 rfl rfl ?_
                refine ab_iload_n C dX0_followShorter_125 rfl rfl ?_
                refine ab_callV C cl_RX0_132 (m_X0_addTailForm B_t (by assumption) (by omega) (by omega) (by omega) (by omega) (by omega) (by omega) (by rw [r1]; intro v a c; exact ⟨((hpr _ t0 t1).2 h_28 v a (by omega)).1, ((hpr _ t0 t1).2 h_28 v a (by omega)).2.1⟩) (by intro v a c; rw [r6 v a c]; omega) (by rw [r1, r2]; exact hWs)) (by decide) rfl s_t rfl rfl (Nat.le_of_ble_eq_true rfl) dX0_followShorter_126 (ab_kV (fun M_126 h_126 => ?_))
                subst h_126
                obtain ⟨Mt, hMt⟩ : ∃ Mt, upA Mc (b + 6) (accG p w (tailS n d (Mc (b + 1)) (Mc (b + 2)) w (w % pw n (d - 1))) (Mc (b + 6))) = Mt := ⟨_, rfl⟩
                rw [hMt]
                have q1 : Mt (b + 1) = M (b + 1) := by rw [← hMt, upA_row (by omega), r1]
                have q2 : Mt (b + 2) = (stZ n d w 1 (M (b + 2))) := by rw [← hMt, upA_row (by omega), r2]
                have q6 : ∀ v, 0 ≤ v → v ≤ w → Mt (b + 6) v = tailS n d (M (b + 1)) (M (b + 2)) w (w % pw n (d - 1)) v % p := fun v a c => by
                  rw [← hMt, upA_s]
                  unfold accG
                  rw [if_pos ⟨a, c⟩, r6 v a c, Int.zero_add, r1, r2]
                  congr 1
                  exact tailS_eq (fun _ _ _ => rfl) (fun s a c => hrZ _ (by have := Int.mul_nonneg l0 (show 0 ≤ pw n (d - 1) by omega); omega) (by omega) v)
                have qs : same [b + 1, b + 2, b + 6] M Mt := same_tr rs (by rw [← hMt]; exact same_upA (by simp))
                have A_t_alphabet := qs.al A0 (by intro k hk; simp only [List.mem_cons, List.not_mem_nil, or_false] at hk; omega)
                refine ab_goto (tgt := 139) C dX0_followShorter_129 rfl ?_
                refine ab_aload_n C dX0_followShorter_139 rfl rfl ?_
                refine gf_RX0_29 C s_t rfl dX0_followShorter_140 ?_
                refine ab_iconst C dX0_followShorter_143 (by decide) ?_
                refine ab_aload_n C dX0_followShorter_144 rfl rfl ?_
                refine gf_RX0_10 C s_t rfl dX0_followShorter_145 ?_
                refine ab_aload_n C dX0_followShorter_148 rfl rfl ?_
                refine gf_RX0_36 C s_t rfl dX0_followShorter_149 ?_
                refine ab_iload_n C dX0_followShorter_152 rfl rfl ?_
                refine ab_iload_n C dX0_followShorter_153 rfl rfl ?_
                refine ab_callV C cl_RX0_106 (m_X1_formAt B_t_alphabet A_t_alphabet (by omega) (by omega) (by omega) (by omega)) (by decide) rfl s_t_alphabet rfl rfl (Nat.le_of_ble_eq_true rfl) dX0_followShorter_154 (ab_kI (fun r_154 M_154 h_154 => ?_))
                obtain ⟨rfl, rfl⟩ := h_154
                refine ab_iload_n C dX0_followShorter_157 rfl rfl ?_
                refine ab_iconst C dX0_followShorter_158 (by decide) ?_
                refine ab_iadd C dX0_followShorter_159 (by omega) ?_
                refine ab_copy C gw326 gw719 gw720 gw721 (by decide) (Nat.le_of_ble_eq_true rfl) s_t_form s_t_forms (by omega) (by omega) (by omega) (by omega) (by omega) dX0_followShorter_160 ?_
                obtain ⟨Mf, hMf⟩ : ∃ Mf, upA Mt (b + 1) (fun j => if (fsm n d + w * (w + 1) / 2) ≤ j ∧ j < (fsm n d + w * (w + 1) / 2) + (w + 1) then Mt (b + 6) (0 + (j - (fsm n d + w * (w + 1) / 2))) else Mt (b + 1) j) = Mf := ⟨_, rfl⟩
                rw [hMf]
                have f1 : Mf (b + 1) = cpF (fsm n d + w * (w + 1) / 2) (w + 1) (Mt (b + 6)) (M (b + 1)) := by
                  rw [← hMf]
                  funext j
                  rw [upA_s]
                  unfold cpF
                  rw [Int.zero_add, q1]
                have f2 : Mf (b + 2) = (stZ n d w 1 (M (b + 2))) := by rw [← hMf, upA_row (by omega), q2]
                have f6 : Mf (b + 6) = Mt (b + 6) := by rw [← hMf, upA_row (by omega)]
                have fs : same [b + 1, b + 2, b + 6] M Mf := same_tr qs (by rw [← hMf]; exact same_upA (by simp))
                have A_t_alphabet := fs.al A0 (by intro k hk; simp only [List.mem_cons, List.not_mem_nil, or_false] at hk; omega)
                refine ab_iload_n C dX0_followShorter_163 rfl rfl ?_
                refine ab_if_eq (tgt := 195) C dX0_followShorter_164 rfl (fun h_164 => ?_) (fun h_164 => ?_)
                · exact absurd h_164 (by decide)
                · skip
                  refine ab_iload C dX0_followShorter_167 rfl ?_
                  refine ab_if_eq (tgt := 195) C dX0_followShorter_169 rfl (fun h_169 => ?_) (fun h_169 => ?_)
                  · skip
                    refine ab_vret (st := []) C r dX0_followShorter_195 ?_
                    first
                    | (refine ⟨rfl, same_tr ks hs2, ?_⟩
                       rw [k1, k2, f1, f2] at hT
                       refine fs_both hPr n1 h0 w0 w1 hW hpr hG h_64 gr g0 LT (G2 := Mh (b + 6)) ?_ hT
                       intro v a c
                       rw [k6 v a c, f1, f2])
                    | (refine ⟨rfl, fs, ?_⟩
                       rw [f1, f2]
                       exact fs_tail1 p1 n1 h0 w0 w1 hpr hG h_64 (fs_tail hPr n1 h0 w0 w1 hW hpr hG h_28 q6))
                    | (refine ⟨rfl, fs, ?_⟩
                       rw [f1, f2]
                       exact fs_head1 p1 n1 h0 w0 w1 hpr hG h_28 (fs_head hPr n1 h0 w0 w1 hW hpr hG h_64 q6))
                  · exact absurd h_169 (by decide)
            · exact absurd h_103 (by decide)
          · exact absurd h_88 (by decide)
        · skip
          have h_64 : ldq n (d - 1) (M (b + 2)) (w / n) ≠ 0 := h_64
          refine ab_iconst C dX0_followShorter_67 (by decide) ?_
          refine ab_goto (tgt := 72) C dX0_followShorter_68 rfl ?_
          refine ab_istore4 (lv := []) C rfl dX0_followShorter_72 ?_
          refine ab_aload_n C dX0_followShorter_74 rfl rfl ?_
          refine gf_RX0_16 C s_t rfl dX0_followShorter_75 ?_
          refine ab_aload_n C dX0_followShorter_78 rfl rfl ?_
          refine gf_RX0_36 C s_t rfl dX0_followShorter_79 ?_
          refine ab_iload_n C dX0_followShorter_82 rfl rfl ?_
          refine ab_iload_n C dX0_followShorter_83 rfl rfl ?_
          refine ab_callV C cl_RX0_54 (m_X1_placeOf B_t_alphabet A_t_alphabet (by omega) (by omega) (by omega) (by omega)) (by decide) rfl s_t_alphabet rfl rfl (Nat.le_of_ble_eq_true rfl) dX0_followShorter_84 (ab_kI (fun r_84 M_84 h_84 => ?_))
          obtain ⟨rfl, rfl⟩ := h_84
          refine ab_iload_n C dX0_followShorter_87 rfl rfl ?_
          refine ab_if_ne (tgt := 96) C dX0_followShorter_88 rfl (fun h_88 => ?_) (fun h_88 => ?_)
          · skip
            refine ab_iconst C dX0_followShorter_96 (by decide) ?_
            refine ab_goto (tgt := 101) C dX0_followShorter_97 rfl ?_
            refine ab_bastore C s_t_leading (by omega) (by omega) (by omega) dX0_followShorter_101 ?_
            refine ab_iload_n C dX0_followShorter_102 rfl rfl ?_
            refine ab_if_ne (tgt := 112) C dX0_followShorter_103 rfl (fun h_103 => ?_) (fun h_103 => ?_)
            · skip
              refine ab_aload_n C dX0_followShorter_112 rfl rfl ?_
              refine ab_iload_n C dX0_followShorter_113 rfl rfl ?_
              refine ab_iconst C dX0_followShorter_114 (by decide) ?_
              refine ab_iadd C dX0_followShorter_115 (by omega) ?_
              refine ab_callV C cl_RX0_129 (m_X0_clearForm B_t (by omega) (by omega)) (by decide) rfl s_t rfl rfl (Nat.le_of_ble_eq_true rfl) dX0_followShorter_116 (ab_kV (fun M_116 h_116 => ?_))
              subst h_116
              obtain ⟨Mc, hMc⟩ : ∃ Mc, upA (up M (b + 2) (wsm n d + w) 1) (b + 6) (fun j => if 0 ≤ j ∧ j < w + 1 then 0 else up M (b + 2) (wsm n d + w) 1 (b + 6) j) = Mc := ⟨_, rfl⟩
              rw [hMc]
              have r1 : Mc (b + 1) = M (b + 1) := by rw [← hMc, upA_row (by omega), up_row (by omega)]
              have r2 : Mc (b + 2) = (stZ n d w 1 (M (b + 2))) := by
                rw [← hMc, upA_row (by omega)]
                funext i
                unfold stZ up
                simp
              have r6 : ∀ v, 0 ≤ v → v ≤ w → Mc (b + 6) v = 0 := fun v a c => by rw [← hMc, upA_s, if_pos (by omega)]
              have rs : same [b + 1, b + 2, b + 6] M Mc := by rw [← hMc]; exact same_tr (same_up (by simp)) (same_upA (by simp))
              have A_t_alphabet := rs.al A_t_alphabet (by intro k hk; simp only [List.mem_cons, List.not_mem_nil, or_false] at hk; omega)
              have hWs : WF n p d w (M (b + 1)) (stZ n d w 1 (M (b + 2))) := hW.congr (fun w2 _ z => (stZ_n (by omega)).symm) (fun _ _ _ _ _ _ => rfl)
              have hrZ : ∀ w2, 0 ≤ w2 → w2 < w → ∀ v, rho n d (M (b + 1)) (stZ n d w 1 (M (b + 2))) w2 v = rho n d (M (b + 1)) (M (b + 2)) w2 v := fun w2 _ z => rho_eq (stZ_n (by omega)) (fun _ _ _ _ => rfl)
              refine ab_iload_n C dX0_followShorter_119 rfl rfl ?_
              refine ab_if_eq (tgt := 132) C dX0_followShorter_120 rfl (fun h_120 => ?_) (fun h_120 => ?_)
              · exact absurd h_120 (by decide)
              · skip
                refine ab_aload_n C dX0_followShorter_123 rfl rfl ?_
                refine ab_iload_n C dX0_followShorter_124 rfl rfl ?_
                refine ab_iload_n C dX0_followShorter_125 rfl rfl ?_
                refine ab_callV C cl_RX0_132 (m_X0_addTailForm B_t (by assumption) (by omega) (by omega) (by omega) (by omega) (by omega) (by omega) (by rw [r1]; intro v a c; exact ⟨((hpr _ t0 t1).2 h_28 v a (by omega)).1, ((hpr _ t0 t1).2 h_28 v a (by omega)).2.1⟩) (by intro v a c; rw [r6 v a c]; omega) (by rw [r1, r2]; exact hWs)) (by decide) rfl s_t rfl rfl (Nat.le_of_ble_eq_true rfl) dX0_followShorter_126 (ab_kV (fun M_126 h_126 => ?_))
                subst h_126
                obtain ⟨Mt, hMt⟩ : ∃ Mt, upA Mc (b + 6) (accG p w (tailS n d (Mc (b + 1)) (Mc (b + 2)) w (w % pw n (d - 1))) (Mc (b + 6))) = Mt := ⟨_, rfl⟩
                rw [hMt]
                have q1 : Mt (b + 1) = M (b + 1) := by rw [← hMt, upA_row (by omega), r1]
                have q2 : Mt (b + 2) = (stZ n d w 1 (M (b + 2))) := by rw [← hMt, upA_row (by omega), r2]
                have q6 : ∀ v, 0 ≤ v → v ≤ w → Mt (b + 6) v = tailS n d (M (b + 1)) (M (b + 2)) w (w % pw n (d - 1)) v % p := fun v a c => by
                  rw [← hMt, upA_s]
                  unfold accG
                  rw [if_pos ⟨a, c⟩, r6 v a c, Int.zero_add, r1, r2]
                  congr 1
                  exact tailS_eq (fun _ _ _ => rfl) (fun s a c => hrZ _ (by have := Int.mul_nonneg l0 (show 0 ≤ pw n (d - 1) by omega); omega) (by omega) v)
                have qs : same [b + 1, b + 2, b + 6] M Mt := same_tr rs (by rw [← hMt]; exact same_upA (by simp))
                have A_t_alphabet := qs.al A0 (by intro k hk; simp only [List.mem_cons, List.not_mem_nil, or_false] at hk; omega)
                refine ab_goto (tgt := 139) C dX0_followShorter_129 rfl ?_
                refine ab_aload_n C dX0_followShorter_139 rfl rfl ?_
                refine gf_RX0_29 C s_t rfl dX0_followShorter_140 ?_
                refine ab_iconst C dX0_followShorter_143 (by decide) ?_
                refine ab_aload_n C dX0_followShorter_144 rfl rfl ?_
                refine gf_RX0_10 C s_t rfl dX0_followShorter_145 ?_
                refine ab_aload_n C dX0_followShorter_148 rfl rfl ?_
                refine gf_RX0_36 C s_t rfl dX0_followShorter_149 ?_
                refine ab_iload_n C dX0_followShorter_152 rfl rfl ?_
                refine ab_iload_n C dX0_followShorter_153 rfl rfl ?_
                refine ab_callV C cl_RX0_106 (m_X1_formAt B_t_alphabet A_t_alphabet (by omega) (by omega) (by omega) (by omega)) (by decide) rfl s_t_alphabet rfl rfl (Nat.le_of_ble_eq_true rfl) dX0_followShorter_154 (ab_kI (fun r_154 M_154 h_154 => ?_))
                obtain ⟨rfl, rfl⟩ := h_154
                refine ab_iload_n C dX0_followShorter_157 rfl rfl ?_
                refine ab_iconst C dX0_followShorter_158 (by decide) ?_
                refine ab_iadd C dX0_followShorter_159 (by omega) ?_
                refine ab_copy C gw326 gw719 gw720 gw721 (by decide) (Nat.le_of_ble_eq_true rfl) s_t_form s_t_forms (by omega) (by omega) (by omega) (by omega) (by omega) dX0_followShorter_160 ?_
                obtain ⟨Mf, hMf⟩ : ∃ Mf, upA Mt (b + 1) (fun j => if (fsm n d + w * (w + 1) / 2) ≤ j ∧ j < (fsm n d + w * (w + 1) / 2) + (w + 1) then Mt (b + 6) (0 + (j - (fsm n d + w * (w + 1) / 2))) else Mt (b + 1) j) = Mf := ⟨_, rfl⟩
                rw [hMf]
                have f1 : Mf (b + 1) = cpF (fsm n d + w * (w + 1) / 2) (w + 1) (Mt (b + 6)) (M (b + 1)) := by
                  rw [← hMf]
                  funext j
                  rw [upA_s]
                  unfold cpF
                  rw [Int.zero_add, q1]
                have f2 : Mf (b + 2) = (stZ n d w 1 (M (b + 2))) := by rw [← hMf, upA_row (by omega), q2]
                have f6 : Mf (b + 6) = Mt (b + 6) := by rw [← hMf, upA_row (by omega)]
                have fs : same [b + 1, b + 2, b + 6] M Mf := same_tr qs (by rw [← hMf]; exact same_upA (by simp))
                have A_t_alphabet := fs.al A0 (by intro k hk; simp only [List.mem_cons, List.not_mem_nil, or_false] at hk; omega)
                refine ab_iload_n C dX0_followShorter_163 rfl rfl ?_
                refine ab_if_eq (tgt := 195) C dX0_followShorter_164 rfl (fun h_164 => ?_) (fun h_164 => ?_)
                · exact absurd h_164 (by decide)
                · skip
                  refine ab_iload C dX0_followShorter_167 rfl ?_
                  refine ab_if_eq (tgt := 195) C dX0_followShorter_169 rfl (fun h_169 => ?_) (fun h_169 => ?_)
                  · exact absurd h_169 (by decide)
                  · skip
                    have LT := fs_tail hPr n1 h0 w0 w1 hW hpr hG h_28 q6
                    have g0 : Mt (b + 6) w = 0 := by rw [q6 w w0 (by omega), tailS_top (fun s a c => by omega)]; rfl
                    have gr : ∀ v, 0 ≤ v → v ≤ w → 0 ≤ Mt (b + 6) v ∧ Mt (b + 6) v < p := fun v a c => by rw [q6 v a c]; exact emod_in p1
                    have WL := LT.2.2.1
                    rw [← f1, ← f2] at WL
                    have ps := prev_same (F := M (b + 1)) (Z := M (b + 2)) (F2 := Mf (b + 1)) (Z2 := Mf (b + 2)) h0 (fun x hx => by rw [f1]; exact LT.1 x hx) (fun x hx => by rw [f2]; exact stZ_lo w0 hx)
                    refine ab_aload_n C dX0_followShorter_172 rfl rfl ?_
                    refine ab_iload_n C dX0_followShorter_173 rfl rfl ?_
                    refine ab_iload_n C dX0_followShorter_174 rfl rfl ?_
                    refine ab_aload_n C dX0_followShorter_175 rfl rfl ?_
                    refine gf_RX0_36 C s_t rfl dX0_followShorter_176 ?_
                    refine ab_callV C cl_RX0_145 (m_X1_prime B_t_alphabet A_t_alphabet) (by decide) rfl s_t_alphabet rfl rfl (Nat.le_of_ble_eq_true rfl) dX0_followShorter_179 (ab_kI (fun r_179 M_179 h_179 => ?_))
                    obtain ⟨rfl, rfl⟩ := h_179
                    refine ab_iconst C dX0_followShorter_182 (by decide) ?_
                    refine ab_isub C dX0_followShorter_183 (by omega) ?_
                    refine ab_callV C cl_RX0_135 (m_X0_addHeadForm B_t (by assumption) (by omega) (by omega) (by omega) (by omega) (by omega) (by omega) (by omega) (by omega) (by intro v a c; rw [← (ps _ u0 u1).2.2 v a (by omega)]; exact ⟨((hpr _ u0 u1).2 h_64 v a (by omega)).1, ((hpr _ u0 u1).2 h_64 v a (by omega)).2.1⟩) (by rw [f6]; exact gr) (by intro w2 a c; exact WL w2 a (by omega))) (by decide) rfl s_t rfl rfl (Nat.le_of_ble_eq_true rfl) dX0_followShorter_184 (ab_kV (fun M_184 h_184 => ?_))
                    subst h_184
                    obtain ⟨Mh, hMh⟩ : ∃ Mh, upA Mf (b + 6) (accG p w (headS n d (Mf (b + 1)) (Mf (b + 2)) w (p - 1) (w / n)) (Mf (b + 6))) = Mh := ⟨_, rfl⟩
                    rw [hMh]
                    have k1 : Mh (b + 1) = Mf (b + 1) := by rw [← hMh, upA_row (by omega)]
                    have k2 : Mh (b + 2) = Mf (b + 2) := by rw [← hMh, upA_row (by omega)]
                    have k6 : ∀ v, 0 ≤ v → v ≤ w → Mh (b + 6) v = (Mt (b + 6) v + headS n d (Mf (b + 1)) (Mf (b + 2)) w (p - 1) (w / n) v) % p := fun v a c => by
                      rw [← hMh, upA_s]
                      unfold accG
                      rw [if_pos ⟨a, c⟩, f6]
                    have ks : same [b + 1, b + 2, b + 6] M Mh := same_tr fs (by rw [← hMh]; exact same_upA (by simp))
                    have A_t_alphabet := ks.al A0 (by intro k hk; simp only [List.mem_cons, List.not_mem_nil, or_false] at hk; omega)
                    refine ab_aload_n C dX0_followShorter_187 rfl rfl ?_
                    refine ab_iload_n C dX0_followShorter_188 rfl rfl ?_
                    refine ab_iload_n C dX0_followShorter_189 rfl rfl ?_
                    refine ab_iconst C dX0_followShorter_190 (by decide) ?_
                    refine ab_iadd C dX0_followShorter_191 (by omega) ?_
                    refine ab_callV C cl_RX0_148 (m_X0_takeNought B_t (by assumption) (by omega) (by omega) (by omega) (by omega) (by omega) (by omega) (by intro v a c; rw [k6 v a (by omega)]; exact emod_in p1) (by rw [k1, k2]; intro w2 a c z v v0 v1; exact ⟨((WL w2 a c).2 z v v0 v1).1, ((WL w2 a c).2 z v v0 v1).2.1⟩)) (by decide) rfl s_t rfl rfl (Nat.le_of_ble_eq_true rfl) dX0_followShorter_192 (ab_kV (fun M_192 h_192 => ?_))
                    obtain ⟨hs2, hT⟩ := TN_of h_192
                    refine ab_vret (st := []) C r dX0_followShorter_195 ?_
                    first
                    | (refine ⟨rfl, same_tr ks hs2, ?_⟩
                       rw [k1, k2, f1, f2] at hT
                       refine fs_both hPr n1 h0 w0 w1 hW hpr hG h_64 gr g0 LT (G2 := Mh (b + 6)) ?_ hT
                       intro v a c
                       rw [k6 v a c, f1, f2])
                    | (refine ⟨rfl, fs, ?_⟩
                       rw [f1, f2]
                       exact fs_tail1 p1 n1 h0 w0 w1 hpr hG h_64 (fs_tail hPr n1 h0 w0 w1 hW hpr hG h_28 q6))
                    | (refine ⟨rfl, fs, ?_⟩
                       rw [f1, f2]
                       exact fs_head1 p1 n1 h0 w0 w1 hpr hG h_28 (fs_head hPr n1 h0 w0 w1 hW hpr hG h_64 q6))
            · exact absurd h_103 (by decide)
          · exact absurd h_88 (by decide)
set_option maxRecDepth 100000 in
set_option maxHeartbeats 4000000 in
theorem m_fs0 {D : va_G} {cA : Nat → ClassId} {S : List AbS} {M : AbM} {b a g : Nat} {n p : Int} (B_t : shAg S b a g) (A_t_alphabet : Al M a n p) (hba : a + 3 < b) (hbg : g + 2 < b) {d w : Int} (h0 : d = 0) (w0 : 0 ≤ w) (w1 : w < pw n d) {Lw : Vc → Prop} (hW : WF n p d w (M (b + 1)) (M (b + 2))) : Meth yX0_followShorter cX0_followShorter 5 none rmX0_followShorter D cA S [vP b, vI d, vI w] M (qV fun M2 => same [b + 1, b + 2, b + 6] M M2 ∧ FSp n p d w Lw (M (b + 1)) (M (b + 2)) (M2 (b + 1)) (M2 (b + 2))) := by
  refine ab_intro (lv := [vP b, vI d, vI w, vU, vU]) (by decide +kernel) rfl (Nat.le_of_ble_eq_true rfl) ?_
  intro hO hargs K hKD hKA C r
  have C : Cx K cX0_followShorter RX0 rmX0_followShorter := C
  have i_d : inI d := hargs _ (List.mem_cons_of_mem _ (List.mem_cons_self))
  have i_w : inI w := hargs _ (List.mem_cons_of_mem _ (List.mem_cons_of_mem _ (List.mem_cons_self)))
  obtain ⟨s_t, s_t_forms, s_t_leading, s_t_normals, s_t_leasts, s_t_middles, s_t_form, B_t_alphabet, B_t_lawList⟩ := id B_t
  obtain ⟨s_t_alphabet, -⟩ := id B_t_alphabet
  obtain ⟨s_t_lawList, -⟩ := id B_t_lawList
  obtain ⟨⟨n1, n2, hPr⟩, -⟩ := id A_t_alphabet
  obtain ⟨p1, p2, -⟩ := id hPr
  have hLB := Lg_B n
  have h1 : d ≤ Lg n := by omega
  have hB := sz_B n1 n2 (show 0 ≤ d by omega) h1
  refine ab_iload_n C dX0_followShorter_0 rfl rfl ?_
  refine ab_if_le (tgt := 35) C dX0_followShorter_1 rfl (fun h_1 => ?_) (fun h_1 => ?_)
  · skip
    refine ab_iconst C dX0_followShorter_35 (by decide) ?_
    refine ab_istore3 (lv := []) C rfl dX0_followShorter_36 ?_
    refine ab_iload_n C dX0_followShorter_37 rfl rfl ?_
    refine ab_if_le (tgt := 71) C dX0_followShorter_38 rfl (fun h_38 => ?_) (fun h_38 => ?_)
    · skip
      refine ab_iconst C dX0_followShorter_71 (by decide) ?_
      refine ab_istore4 (lv := []) C rfl dX0_followShorter_72 ?_
      refine ab_aload_n C dX0_followShorter_74 rfl rfl ?_
      refine gf_RX0_16 C s_t rfl dX0_followShorter_75 ?_
      refine ab_aload_n C dX0_followShorter_78 rfl rfl ?_
      refine gf_RX0_36 C s_t rfl dX0_followShorter_79 ?_
      refine ab_iload_n C dX0_followShorter_82 rfl rfl ?_
      refine ab_iload_n C dX0_followShorter_83 rfl rfl ?_
      refine ab_callV C cl_RX0_54 (m_X1_placeOf B_t_alphabet A_t_alphabet (by omega) (by omega) (by omega) (by omega)) (by decide) rfl s_t_alphabet rfl rfl (Nat.le_of_ble_eq_true rfl) dX0_followShorter_84 (ab_kI (fun r_84 M_84 h_84 => ?_))
      obtain ⟨rfl, rfl⟩ := h_84
      refine ab_iload_n C dX0_followShorter_87 rfl rfl ?_
      refine ab_if_ne (tgt := 96) C dX0_followShorter_88 rfl (fun h_88 => ?_) (fun h_88 => ?_)
      · exact absurd h_88 (by decide)
      · skip
        refine ab_iload C dX0_followShorter_91 rfl ?_
        refine ab_if_eq (tgt := 100) C dX0_followShorter_93 rfl (fun h_93 => ?_) (fun h_93 => ?_)
        · skip
          refine ab_iconst C dX0_followShorter_100 (by decide) ?_
          refine ab_bastore C s_t_leading (by omega) (by omega) (by omega) dX0_followShorter_101 ?_
          refine ab_iload_n C dX0_followShorter_102 rfl rfl ?_
          refine ab_if_ne (tgt := 112) C dX0_followShorter_103 rfl (fun h_103 => ?_) (fun h_103 => ?_)
          · exact absurd h_103 (by decide)
          · skip
            refine ab_iload C dX0_followShorter_106 rfl ?_
            refine ab_if_ne (tgt := 112) C dX0_followShorter_108 rfl (fun h_108 => ?_) (fun h_108 => ?_)
            · exact absurd h_108 (by decide)
            · skip
              refine ab_vret (st := []) C r dX0_followShorter_111 ?_
              refine ⟨rfl, same_up (by simp), ?_⟩
              have e1 : up M (b + 2) (wsm n d + w) 0 (b + 1) = M (b + 1) := up_row (by omega)
              have e2 : up M (b + 2) (wsm n d + w) 0 (b + 2) = stZ n d w 0 (M (b + 2)) := by
                funext i
                unfold stZ up
                simp
              rw [e1, e2]
              exact fs_none p1 n1 w0 hW (fun z => by omega) (fun z => by omega) (fun z => by omega)
        · exact absurd h_93 (by decide)
    · skip
      exfalso; omega
  · skip
    exfalso; omega
theorem m_X0_followShorter {D : va_G} {cA : Nat → ClassId} {S : List AbS} {M : AbM} {b a g : Nat} {n p : Int} (B_t : shAg S b a g) (A_t_alphabet : Al M a n p) (hba : a + 3 < b) (hbg : g + 2 < b) {d w : Int} (h0 : 0 ≤ d) (h1 : d ≤ Lg n) (w0 : 0 ≤ w) (w1 : w < pw n d) {Lw : Vc → Prop} (hW : WF n p d w (M (b + 1)) (M (b + 2))) (hpr : 1 ≤ d → WF n p (d - 1) (pw n (d - 1)) (M (b + 1)) (M (b + 2))) (hG : 1 ≤ d → GoodD n p d w Lw (M (b + 1)) (M (b + 2))) : Meth yX0_followShorter cX0_followShorter 5 none rmX0_followShorter D cA S [vP b, vI d, vI w] M (qV fun M2 => same [b + 1, b + 2, b + 6] M M2 ∧ FSp n p d w Lw (M (b + 1)) (M (b + 2)) (M2 (b + 1)) (M2 (b + 2))) := by
  rcases (show d = 0 ∨ 1 ≤ d by omega) with q | q
  · exact m_fs0 B_t A_t_alphabet hba hbg q w0 w1 hW
  · exact m_fs1 B_t A_t_alphabet hba hbg q h1 w0 w1 hW (hpr q) (hG q)
set_option maxRecDepth 100000 in
set_option maxHeartbeats 4000000 in
theorem m_X0_takeLaw {D : va_G} {cA : Nat → ClassId} {S : List AbS} {M : AbM} {b a g : Nat} {n p : Int} (B_t : shAg S b a g) (A_t_alphabet : Al M a n p) (hba : a + 3 < b) (hbg : g + 2 < b) {d i : Int} (h0 : 0 ≤ d) (h1 : d ≤ Lg n) (i0 : 0 ≤ i) (i1 : i < 9) (hN : M (g + 1) i = d → pw n d ≤ 81 ∧ ∀ y, 0 ≤ y → y < pw n d → 0 ≤ M (g + 2) (i * 81 + y) ∧ M (g + 2) (i * 81 + y) < p) (hW : WF n p d (pw n d) (M (b + 1)) (M (b + 2))) : Meth yX0_takeLaw cX0_takeLaw 5 none rmX0_takeLaw D cA S [vP b, vI d, vI i] M (qV fun M2 => same [b + 1, b + 2, b + 6] M M2 ∧ ((M (g + 1) i ≠ d ∧ M2 = M) ∨ (M (g + 1) i = d ∧ ∃ G, (∀ v, 0 ≤ v → v < pw n d → 0 ≤ G v ∧ G v < p ∧ G v = redV (rho n d (M (b + 1)) (M (b + 2))) (pw n d) (lawR n d i (M (g + 2))) v % p) ∧ TN n p d (pw n d) (M (b + 1)) (M (b + 2)) G (M2 (b + 1)) (M2 (b + 2))))) := by
  refine ab_intro (lv := [vP b, vI d, vI i, vU, vU]) (by decide +kernel) rfl (Nat.le_of_ble_eq_true rfl) ?_
  intro hO hargs K hKD hKA C r
  have C : Cx K cX0_takeLaw RX0 rmX0_takeLaw := C
  have i_d : inI d := hargs _ (List.mem_cons_of_mem _ (List.mem_cons_self))
  have i_i : inI i := hargs _ (List.mem_cons_of_mem _ (List.mem_cons_of_mem _ (List.mem_cons_self)))
  obtain ⟨s_t, s_t_forms, s_t_leading, s_t_normals, s_t_leasts, s_t_middles, s_t_form, B_t_alphabet, B_t_lawList⟩ := id B_t
  obtain ⟨s_t_alphabet, -⟩ := id B_t_alphabet
  obtain ⟨s_t_lawList, -⟩ := id B_t_lawList
  obtain ⟨⟨n1, n2, hPr⟩, -⟩ := id A_t_alphabet
  obtain ⟨p1, p2, -⟩ := id hPr
  have hLB := Lg_B n
  have hB := sz_B n1 n2 h0 h1
  have A0 := A_t_alphabet
  refine ab_aload_n C dX0_takeLaw_0 rfl rfl ?_
  refine gf_RX0_40 C s_t rfl dX0_takeLaw_1 ?_
  refine ab_iload_n C dX0_takeLaw_4 rfl rfl ?_
  refine ab_callV C cl_RX0_160 (m_X3_lengthOf B_t_lawList (by omega) (by omega)) (by decide) rfl s_t_lawList rfl rfl (Nat.le_of_ble_eq_true rfl) dX0_takeLaw_5 (ab_kI (fun r_5 M_5 h_5 => ?_))
  obtain ⟨rfl, rfl⟩ := h_5
  refine ab_iload_n C dX0_takeLaw_8 rfl rfl ?_
  refine ab_icmp_eq (tgt := 13) C dX0_takeLaw_9 rfl (fun h_9 => ?_) (fun h_9 => ?_)
  · skip
    obtain ⟨hP, hN⟩ := hN h_9
    refine ab_aload_n C dX0_takeLaw_13 rfl rfl ?_
    refine gf_RX0_36 C s_t rfl dX0_takeLaw_14 ?_
    refine ab_iload_n C dX0_takeLaw_17 rfl rfl ?_
    refine ab_callV C cl_RX0_59 (m_X1_words B_t_alphabet A_t_alphabet (by omega) (by omega)) (by decide) rfl s_t_alphabet rfl rfl (Nat.le_of_ble_eq_true rfl) dX0_takeLaw_18 (ab_kI (fun r_18 M_18 h_18 => ?_))
    obtain ⟨rfl, rfl⟩ := h_18
    refine ab_istore3 (lv := []) C rfl dX0_takeLaw_21 ?_
    refine ab_aload_n C dX0_takeLaw_22 rfl rfl ?_
    refine ab_iload_n C dX0_takeLaw_23 rfl rfl ?_
    refine ab_callV C cl_RX0_129 (m_X0_clearForm B_t (by omega) (by omega)) (by decide) rfl s_t rfl rfl (Nat.le_of_ble_eq_true rfl) dX0_takeLaw_24 (ab_kV (fun M_24 h_24 => ?_))
    subst h_24
    refine ab_mem (M2 := upA M (b + 6) (accG p (pw n d - 1) (lawS n d i (M (g + 2)) (M (b + 1)) (M (b + 2)) 0) (zr (pw n d) (M (b + 6))))) (upA_ext (fun v => ?_)) ?_
    · exact (accG_0 (p := p) (w := pw n d - 1) (s := (lawS n d i (M (g + 2)) (M (b + 1)) (M (b + 2)) 0)) (G := zr (pw n d) (M (b + 6))) (fun x => rfl) (fun x a c => by rw [zr_in a (by omega)]; omega) v).symm
    refine ab_iconst C dX0_takeLaw_27 (by decide) ?_
    refine ab_istore4 (lv := []) C rfl dX0_takeLaw_28 ?_
    refine ab_loop (fun j (_ : Unit) => AJ K S 30 [vP b, vI d, vI i, vI (pw n d), vI j] [] (upA M (b + 6) (accG p (pw n d - 1) (lawS n d i (M (g + 2)) (M (b + 1)) (M (b + 2)) j) (zr (pw n d) (M (b + 6)))))) (fun j _ => 0 ≤ j) (pw n d) ?_ 0 () (by omega) (by omega)
    · intro j _ hj j0 ih
      have A_t_alphabet := A0.upA (k := b + 6) (f := (accG p (pw n d - 1) (lawS n d i (M (g + 2)) (M (b + 1)) (M (b + 2)) j) (zr (pw n d) (M (b + 6))))) (by omega)
      have r1 : upA M (b + 6) (accG p (pw n d - 1) (lawS n d i (M (g + 2)) (M (b + 1)) (M (b + 2)) j) (zr (pw n d) (M (b + 6)))) (b + 1) = M (b + 1) := upA_row (by omega)
      have r2 : upA M (b + 6) (accG p (pw n d - 1) (lawS n d i (M (g + 2)) (M (b + 1)) (M (b + 2)) j) (zr (pw n d) (M (b + 6)))) (b + 2) = M (b + 2) := upA_row (by omega)
      have r6 : upA M (b + 6) (accG p (pw n d - 1) (lawS n d i (M (g + 2)) (M (b + 1)) (M (b + 2)) j) (zr (pw n d) (M (b + 6)))) (b + 6) = (accG p (pw n d - 1) (lawS n d i (M (g + 2)) (M (b + 1)) (M (b + 2)) j) (zr (pw n d) (M (b + 6)))) := by funext x; exact upA_s
      have rg : upA M (b + 6) (accG p (pw n d - 1) (lawS n d i (M (g + 2)) (M (b + 1)) (M (b + 2)) j) (zr (pw n d) (M (b + 6)))) (g + 2) (i * 81 + j) = M (g + 2) (i * 81 + j) := upA_k (by omega)
      refine ab_iload C dX0_takeLaw_30 rfl ?_
      refine ab_iload_n C dX0_takeLaw_32 rfl rfl ?_
      refine ab_icmp_ge (tgt := 72) C dX0_takeLaw_33 rfl (fun h_33 => ?_) (fun h_33 => ?_)
      · skip
        have e9 : j = pw n d := by omega
        rw [e9]
        have r1 : upA M (b + 6) (accG p (pw n d - 1) (lawS n d i (M (g + 2)) (M (b + 1)) (M (b + 2)) (pw n d)) (zr (pw n d) (M (b + 6)))) (b + 1) = M (b + 1) := upA_row (by omega)
        have r2 : upA M (b + 6) (accG p (pw n d - 1) (lawS n d i (M (g + 2)) (M (b + 1)) (M (b + 2)) (pw n d)) (zr (pw n d) (M (b + 6)))) (b + 2) = M (b + 2) := upA_row (by omega)
        have r6 : upA M (b + 6) (accG p (pw n d - 1) (lawS n d i (M (g + 2)) (M (b + 1)) (M (b + 2)) (pw n d)) (zr (pw n d) (M (b + 6)))) (b + 6) = (accG p (pw n d - 1) (lawS n d i (M (g + 2)) (M (b + 1)) (M (b + 2)) (pw n d)) (zr (pw n d) (M (b + 6)))) := by funext x; exact upA_s
        have A_t_alphabet := A0.upA (k := b + 6) (f := (accG p (pw n d - 1) (lawS n d i (M (g + 2)) (M (b + 1)) (M (b + 2)) (pw n d)) (zr (pw n d) (M (b + 6))))) (by omega)
        refine ab_aload_n C dX0_takeLaw_72 rfl rfl ?_
        refine ab_iload_n C dX0_takeLaw_73 rfl rfl ?_
        refine ab_iload_n C dX0_takeLaw_74 rfl rfl ?_
        refine ab_callV C cl_RX0_148 (m_X0_takeNought B_t (by assumption) (by omega) (by omega) (by omega) (by omega) (by omega) (by omega) (by rw [r6]; exact fun v a c => accG_in p1 a (by omega)) (by rw [r1, r2]; exact fun w2 a c hz v v0 v1 => ⟨((hW w2 a c).2 hz v v0 v1).1, ((hW w2 a c).2 hz v v0 v1).2.1⟩)) (by decide) rfl s_t rfl rfl (Nat.le_of_ble_eq_true rfl) dX0_takeLaw_75 (ab_kV (fun M_75 h_75 => ?_))
        obtain ⟨hs2, hT⟩ := TN_of h_75
        rw [r1, r2, r6] at hT
        refine ab_vret (st := []) C r dX0_takeLaw_78 ?_
        refine ⟨rfl, same_tr (same_upA (by simp)) hs2, Or.inr ⟨h_9, _, fun v a c => ?_, hT⟩⟩
        have h8 := accG_in (p := p) (w := pw n d - 1) (s := (lawS n d i (M (g + 2)) (M (b + 1)) (M (b + 2)) (pw n d))) (G := zr (pw n d) (M (b + 6))) p1 a (show v ≤ pw n d - 1 by omega)
        refine ⟨h8.1, h8.2, ?_⟩
        unfold accG
        rw [if_pos ⟨a, by omega⟩, zr_in a c, Int.zero_add]
        congr 1
        unfold redV lawS lawR
        exact sumF_congr (fun y y0 y1 => by rw [if_pos ⟨y0, y1⟩])
      · skip
        refine ab_aload_n C dX0_takeLaw_36 rfl rfl ?_
        refine gf_RX0_40 C s_t rfl dX0_takeLaw_37 ?_
        refine ab_iload_n C dX0_takeLaw_40 rfl rfl ?_
        refine ab_iload C dX0_takeLaw_41 rfl ?_
        refine ab_callV C cl_RX0_163 (m_X3_numberOf B_t_lawList (by omega) (by omega) (by omega) (by omega)) (by decide) rfl s_t_lawList rfl rfl (Nat.le_of_ble_eq_true rfl) dX0_takeLaw_43 (ab_kI (fun r_43 M_43 h_43 => ?_))
        obtain ⟨rfl, rfl⟩ := h_43
        refine ab_if_eq (tgt := 66) C dX0_takeLaw_46 rfl (fun h_46 => ?_) (fun h_46 => ?_)
        · skip
          refine ab_iinc4 (lv := []) C rfl dX0_takeLaw_66 (by omega) ?_
          refine ab_goto (tgt := 30) C dX0_takeLaw_69 rfl ?_
          refine ab_mem (M2 := upA M (b + 6) (accG p (pw n d - 1) (lawS n d i (M (g + 2)) (M (b + 1)) (M (b + 2)) (j + 1)) (zr (pw n d) (M (b + 6))))) ?_ (ih () (by omega) (by omega))
          first
          | (refine upA_ext (fun x => accG_congr (fun y _ _ => ?_) x)
             rw [rg] at h_46
             rw [lawS_s j0, h_46, Int.zero_mul, Int.add_zero])
          | (rw [rg, r1, r2, r6, upA_upA]
             refine upA_ext (fun x => ?_)
             rw [addR_acc (by omega)]
             refine accG_congr (fun y _ _ => ?_) x
             rw [lawS_s j0])
        · skip
          refine ab_aload_n C dX0_takeLaw_49 rfl rfl ?_
          refine ab_iload_n C dX0_takeLaw_50 rfl rfl ?_
          refine ab_iload C dX0_takeLaw_51 rfl ?_
          refine ab_aload_n C dX0_takeLaw_53 rfl rfl ?_
          refine gf_RX0_40 C s_t rfl dX0_takeLaw_54 ?_
          refine ab_iload_n C dX0_takeLaw_57 rfl rfl ?_
          refine ab_iload C dX0_takeLaw_58 rfl ?_
          refine ab_callV C cl_RX0_163 (m_X3_numberOf B_t_lawList (by omega) (by omega) (by omega) (by omega)) (by decide) rfl s_t_lawList rfl rfl (Nat.le_of_ble_eq_true rfl) dX0_takeLaw_60 (ab_kI (fun r_60 M_60 h_60 => ?_))
          obtain ⟨rfl, rfl⟩ := h_60
          refine ab_callV C cl_RX0_154 (m_X0_addRow B_t (by assumption) (by omega) (by omega) (by omega) (by omega) (by omega) (by omega) (by rw [rg]; exact (hN j j0 (by omega)).1) (by rw [rg]; have := (hN j j0 (by omega)).2; omega) (by rw [r6]; exact fun v a c => accG_in p1 a (by omega)) (by rw [r1, r2]; exact fun hz v a c => ⟨((hW _ j0 (by omega)).2 hz v a (by omega)).1, ((hW _ j0 (by omega)).2 hz v a (by omega)).2.1⟩)) (by decide) rfl s_t rfl rfl (Nat.le_of_ble_eq_true rfl) dX0_takeLaw_63 (ab_kV (fun M_63 h_63 => ?_))
          subst h_63
          refine ab_iinc4 (lv := []) C rfl dX0_takeLaw_66 (by omega) ?_
          refine ab_goto (tgt := 30) C dX0_takeLaw_69 rfl ?_
          refine ab_mem (M2 := upA M (b + 6) (accG p (pw n d - 1) (lawS n d i (M (g + 2)) (M (b + 1)) (M (b + 2)) (j + 1)) (zr (pw n d) (M (b + 6))))) ?_ (ih () (by omega) (by omega))
          first
          | (refine upA_ext (fun x => accG_congr (fun y _ _ => ?_) x)
             rw [rg] at h_46
             rw [lawS_s j0, h_46, Int.zero_mul, Int.add_zero])
          | (rw [rg, r1, r2, r6, upA_upA]
             refine upA_ext (fun x => ?_)
             rw [addR_acc (by omega)]
             refine accG_congr (fun y _ _ => ?_) x
             rw [lawS_s j0])
  · skip
    refine ab_vret (st := []) C r dX0_takeLaw_12 ?_
    exact ⟨rfl, same_rf _ _, Or.inl ⟨h_9, rfl⟩⟩
