set_option maxRecDepth 100000 in
set_option maxHeartbeats 4000000 in
theorem m_X9_tell {D : va_G} {cA : Nat → ClassId} {S : List AbS} {M : AbM} {m : Nat} {n p : Int} (B_t : shMo S m) (A_t : MoA M m n p) {c : Int} (c0 : 0 ≤ c) (c1 : c ≤ 81) (hq : rngB p c (M (m + 12))) (hE : rngE p c (M (m + 13)) (M (m + 14))) : Meth yX9_tell cX9_tell 6 (some .int) rmX9_tell D cA S [vP m, vI c] M (qI fun q M2 => same [m + 12, m + 13, m + 14] M M2 ∧ rngE p c (M2 (m + 13)) (M2 (m + 14)) ∧ (∀ k9, eqES c (M2 (m + 13), M2 (m + 14), k9 + q) (stepE p c (M (m + 13), M (m + 14), k9) (M (m + 12)))) ∧ (q = 0 ∨ q = 1)) := by
  refine ab_intro (lv := [vP m, vI c, vU, vU, vU, vU]) (by decide +kernel) rfl (Nat.le_of_ble_eq_true rfl) ?_
  intro hO hargs K hKD hKA C r
  have C : Cx K cX9_tell RX9 rmX9_tell := C
  have i_c : inI c := hargs _ (List.mem_cons_of_mem _ (List.mem_cons_self))
  obtain ⟨s_t, s_t_words, s_t_begins, s_t_squares, s_t_lengths, s_t_numbers, s_t_made, s_t_tape, s_t_rows, s_t_leads, s_t_otherRows, s_t_otherLeads, s_t_row, s_t_equations, s_t_firsts, s_t_sum, s_t_lanes, s_t_sizes, s_t_items⟩ := id B_t
  obtain ⟨⟨n1, n2, hPr⟩, m_n, m_p, m_L, m_w⟩ := id A_t
  obtain ⟨p1, p2, -⟩ := id hPr
  have hLB := Lg_B n
  have eM : ∀ (f : Int → Int), MoA (upA M (m + 12) f) m n p := fun f => (same_upA (ps := [m + 12]) (by simp)).moA A_t (by simp)
  refine ab_iconst C dX9_tell_0 (by decide) ?_
  refine ab_istore2 (lv := []) C rfl dX9_tell_1 ?_
  refine ab_mem (M2 := upA M (m + 12) (M (m + 12))) (upA_self _ _).symm ?_
  refine ab_loop (fun x (y : (Int → Int) × AbV × AbV × AbV) => AJ K S 2 [vP m, vI c, vI x, y.2.1, y.2.2.1, y.2.2.2] [] (upA M (m + 12) y.1)) (fun x y => 0 ≤ x ∧ rngB p c y.1 ∧ elim p c (M (m + 13)) (M (m + 14)) c.toNat 0 (M (m + 12)) = elim p c (M (m + 13)) (M (m + 14)) (c - x).toNat x y.1) c ?_ 0 (M (m + 12), vU, vU, vU) (by omega) ⟨by omega, hq, by rw [Int.sub_zero]⟩
  · intro x y hx hI ih
    obtain ⟨q, y3, y4, y5⟩ := y
    obtain ⟨x0, hqq, he⟩ := hI
    dsimp only at hqq he ih ⊢
    have A_t := eM q
    have rq : ∀ x, upA M (m + 12) q (m + 12) x = q x := fun x => upA_s
    have e1 : upA M (m + 12) q (m + 13) = M (m + 13) := upA_row (by omega)
    have e2 : upA M (m + 12) q (m + 14) = M (m + 14) := upA_row (by omega)
    refine ab_iload_n C dX9_tell_2 rfl rfl ?_
    refine ab_iload_n C dX9_tell_3 rfl rfl ?_
    refine ab_icmp_ge (tgt := 159) C dX9_tell_4 rfl (fun h_4 => ?_) (fun h_4 => ?_)
    · skip
      refine ab_iconst C dX9_tell_159 (by decide) ?_
      refine ab_iret (st := []) C r dX9_tell_160 ?_
      have heN : elim p c (M (m + 13)) (M (m + 14)) c.toNat 0 (M (m + 12)) = none := by
        rw [he, show (c - x).toNat = 0 by omega]
        rfl
      refine ⟨_, rfl, same_upA (by simp), by rw [e1, e2]; exact hE, fun k9 => ?_, Or.inl rfl⟩
      rw [e1, e2, tell_none (s := (M (m + 13), M (m + 14), k9)) heN, Int.add_zero]
      exact eqES_rf _ _
    · skip
      have hx1 : x < c := by omega
      have hqx := hqq x x0 hx1
      have hu : (c - x).toNat = (c - (x + 1)).toNat + 1 := by omega
      refine ab_aload_n C dX9_tell_7 rfl rfl ?_
      refine gf_RX9_55 C s_t rfl dX9_tell_8 ?_
      refine ab_iload_n C dX9_tell_11 rfl rfl ?_
      refine ab_iaload C s_t_row (by omega) (by omega) dX9_tell_12 ?_
      rw [rq]
      refine ab_if_ne (tgt := 19) C dX9_tell_13 rfl (fun h_13 => ?_) (fun h_13 => ?_)
      · skip
        refine ab_bipush C dX9_tell_19 (by decide) (by decide +kernel) ?_
        refine ab_iload_n C dX9_tell_21 rfl rfl ?_
        refine ab_imul C dX9_tell_22 (by omega) ?_
        refine ab_istore3 (lv := []) C rfl dX9_tell_23 ?_
        refine ab_aload_n C dX9_tell_24 rfl rfl ?_
        refine gf_RX9_61 C s_t rfl dX9_tell_25 ?_
        refine ab_iload_n C dX9_tell_28 rfl rfl ?_
        refine ab_baload C s_t_firsts (by omega) (by omega) dX9_tell_29 ?_
        rw [e2]
        refine ab_if_ne (tgt := 93) C dX9_tell_30 rfl (fun h_30 => ?_) (fun h_30 => ?_)
        · skip
          refine ab_aload_n C dX9_tell_93 rfl rfl ?_
          refine gf_RX9_55 C s_t rfl dX9_tell_94 ?_
          refine ab_iload_n C dX9_tell_97 rfl rfl ?_
          refine ab_iaload C s_t_row (by omega) (by omega) dX9_tell_98 ?_
          rw [rq]
          refine ab_istore4 (lv := []) C rfl dX9_tell_99 ?_
          refine ab_iload_n C dX9_tell_101 rfl rfl ?_
          refine ab_istore5 (lv := []) C rfl dX9_tell_102 ?_
          refine ab_mem (M2 := upA M (m + 12) (fun j => if x ≤ j ∧ j < x then (q j + (p - q x) * M (m + 13) (81 * x + j)) % p else q j)) (upA_ext (fun j => by rw [if_neg (by omega)])) ?_
          refine ab_loop (fun k (_ : Unit) => AJ K S 104 [vP m, vI c, vI x, vI (81 * x), vI (q x), vI k] [] (upA M (m + 12) (fun j => if x ≤ j ∧ j < k then (q j + (p - q x) * M (m + 13) (81 * x + j)) % p else q j))) (fun k _ => x ≤ k) c ?_ x () (by omega) (by omega)
          · intro k _ hk k0 ihk
            have t12 : upA M (m + 12) (fun j => if x ≤ j ∧ j < k then (q j + (p - q x) * M (m + 13) (81 * x + j)) % p else q j) (m + 12) k = q k := by rw [upA_s, if_neg (by omega)]
            have tp : upA M (m + 12) (fun j => if x ≤ j ∧ j < k then (q j + (p - q x) * M (m + 13) (81 * x + j)) % p else q j) m 1 = p := by rw [upA_k (by omega), m_p]
            have te : upA M (m + 12) (fun j => if x ≤ j ∧ j < k then (q j + (p - q x) * M (m + 13) (81 * x + j)) % p else q j) (m + 13) (81 * x + k) = M (m + 13) (81 * x + k) := upA_k (by omega)
            have hm : k < c → 0 ≤ (p - q x) * M (m + 13) (81 * x + k) ∧ (p - q x) * M (m + 13) (81 * x + k) ≤ 97 * 97 ∧ 0 ≤ q k ∧ q k < p := fun z => by
              have h8 := hE x k x0 k0 z h_30
              rw [show x * 81 + k = 81 * x + k by omega] at h8
              have h9 := hqq k (by omega) z
              exact ⟨Int.mul_nonneg (by omega) (by omega), Int.mul_le_mul (by omega) (by omega) (by omega) (by omega), h9.1, h9.2⟩
            refine ab_iload C dX9_tell_104 rfl ?_
            refine ab_iload_n C dX9_tell_106 rfl rfl ?_
            refine ab_icmp_ge (tgt := 153) C dX9_tell_107 rfl (fun h_107 => ?_) (fun h_107 => ?_)
            · skip
              refine ab_iinc2 (lv := []) C rfl dX9_tell_153 (by omega) ?_
              refine ab_goto (tgt := 2) C dX9_tell_156 rfl ?_
              first
              | (rw [hu, elim_s, if_pos h_13] at he
                 exact ih (q, y3, y4, y5) (by omega) ⟨by omega, hqq, he⟩)
              | (rw [hu, elim_s, if_neg h_13, if_neg h_30] at he
                 have ek : k = c := by omega
                 subst ek
                 refine ab_mem (M2 := upA M (m + 12) (subE p k x (M (m + 13)) q)) (upA_ext (fun j => sbM_sub p1 j)) ?_
                 exact ih (_, _, _, _) (by omega) ⟨by omega, rngB_sub p1 hqq, he⟩)
            · skip
              refine ab_aload_n C dX9_tell_110 rfl rfl ?_
              refine gf_RX9_55 C s_t rfl dX9_tell_111 ?_
              refine ab_iload C dX9_tell_114 rfl ?_
              refine ab_aload_n C dX9_tell_116 rfl rfl ?_
              refine gf_RX9_55 C s_t rfl dX9_tell_117 ?_
              refine ab_iload C dX9_tell_120 rfl ?_
              refine ab_iaload C s_t_row (by omega) (by omega) dX9_tell_122 ?_
              rw [t12]
              refine ab_aload_n C dX9_tell_123 rfl rfl ?_
              refine gf_RX9_13 C s_t rfl dX9_tell_124 ?_
              rw [tp]
              refine ab_iload C dX9_tell_127 rfl ?_
              refine ab_isub C dX9_tell_129 (by omega) ?_
              refine ab_aload_n C dX9_tell_130 rfl rfl ?_
              refine gf_RX9_58 C s_t rfl dX9_tell_131 ?_
              refine ab_iload_n C dX9_tell_134 rfl rfl ?_
              refine ab_iload C dX9_tell_135 rfl ?_
              refine ab_iadd C dX9_tell_137 (by omega) ?_
              refine ab_iaload C s_t_equations (by omega) (by omega) dX9_tell_138 ?_
              rw [te]
              refine ab_imul C dX9_tell_139 (by omega) ?_
              refine ab_iadd C dX9_tell_140 (by omega) ?_
              refine ab_aload_n C dX9_tell_141 rfl rfl ?_
              refine gf_RX9_13 C s_t rfl dX9_tell_142 ?_
              rw [tp]
              refine ab_irem C dX9_tell_145 (by omega) (by omega) ?_
              refine ab_iastore C s_t_row (by omega) (by omega) dX9_tell_146 ?_
              refine ab_iinc5 (lv := []) C rfl dX9_tell_147 (by omega) ?_
              refine ab_goto (tgt := 104) C dX9_tell_150 rfl ?_
              refine ab_mem (M2 := upA M (m + 12) (fun j => if x ≤ j ∧ j < (k + 1) then (q j + (p - q x) * M (m + 13) (81 * x + j)) % p else q j)) ?_ (ihk () (by omega) (by omega))
              rw [up_upA]
              exact upA_ext (fun y => by
                by_cases q1 : y = k
                · rw [if_pos q1, if_pos (by omega), q1]
                · rw [if_neg q1]
                  by_cases q2 : x ≤ y ∧ y < k
                  · rw [if_pos q2, if_pos (by omega)]
                  · rw [if_neg q2, if_neg (by omega)])
        · skip
          refine ab_aload_n C dX9_tell_33 rfl rfl ?_
          refine ab_aload_n C dX9_tell_34 rfl rfl ?_
          refine gf_RX9_55 C s_t rfl dX9_tell_35 ?_
          refine ab_iload_n C dX9_tell_38 rfl rfl ?_
          refine ab_iaload C s_t_row (by omega) (by omega) dX9_tell_39 ?_
          refine ab_callV C cl_RX9_134 (m_X9_inverse B_t (by assumption) (by have := hqq x x0 hx1; rw [rq]; omega) (by have := hqq x x0 hx1; rw [rq]; omega)) (by decide) rfl s_t rfl rfl (Nat.le_of_ble_eq_true rfl) dX9_tell_40 (ab_kI (fun r_40 M_40 h_40 => ?_))
          obtain ⟨rfl, rfl⟩ := h_40
          rw [rq]
          refine ab_istore4 (lv := []) C rfl dX9_tell_43 ?_
          refine ab_iconst C dX9_tell_45 (by decide) ?_
          refine ab_istore5 (lv := []) C rfl dX9_tell_46 ?_
          refine ab_mem (M2 := upA (upA M (m + 12) q) (m + 13) (fun y => if 81 * x ≤ y ∧ y < 81 * x + (0 : Int) then q (y - 81 * x) * ivf p (q x) % p else M (m + 13) y)) (upA_id (fun j => by rw [if_neg (by omega), e1])) ?_
          refine ab_loop (fun k (_ : Unit) => AJ K S 48 [vP m, vI c, vI x, vI (81 * x), vI (ivf p (q x)), vI k] [] (upA (upA M (m + 12) q) (m + 13) (fun y => if 81 * x ≤ y ∧ y < 81 * x + k then q (y - 81 * x) * ivf p (q x) % p else M (m + 13) y))) (fun k _ => 0 ≤ k) c ?_ 0 () (by omega) (by omega)
          · intro k _ hk k0 ihk
            have t12 : upA (upA M (m + 12) q) (m + 13) (fun y => if 81 * x ≤ y ∧ y < 81 * x + k then q (y - 81 * x) * ivf p (q x) % p else M (m + 13) y) (m + 12) k = q k := by rw [upA_k (by omega), rq]
            have tp : upA (upA M (m + 12) q) (m + 13) (fun y => if 81 * x ≤ y ∧ y < 81 * x + k then q (y - 81 * x) * ivf p (q x) % p else M (m + 13) y) m 1 = p := by rw [upA_k (by omega), upA_k (by omega), m_p]
            obtain ⟨v1, v2, v3⟩ := ivf_ok (v := q x) hPr (by omega) (by omega)
            have hm : k < c → 0 ≤ q k * ivf p (q x) ∧ q k * ivf p (q x) ≤ 97 * 97 := fun z => by
              have := hqq k k0 z
              exact ⟨Int.mul_nonneg (by omega) (by omega), Int.mul_le_mul (by omega) (by omega) (by omega) (by omega)⟩
            refine ab_iload C dX9_tell_48 rfl ?_
            refine ab_iload_n C dX9_tell_50 rfl rfl ?_
            refine ab_icmp_ge (tgt := 84) C dX9_tell_51 rfl (fun h_51 => ?_) (fun h_51 => ?_)
            · skip
              refine ab_aload_n C dX9_tell_84 rfl rfl ?_
              refine gf_RX9_61 C s_t rfl dX9_tell_85 ?_
              refine ab_iload_n C dX9_tell_88 rfl rfl ?_
              refine ab_iconst C dX9_tell_89 (by decide) ?_
              refine ab_bastore C s_t_firsts (by omega) (by omega) (by omega) dX9_tell_90 ?_
              refine ab_iconst C dX9_tell_91 (by decide) ?_
              refine ab_iret (st := []) C r dX9_tell_92 ?_
              have ek : k = c := by omega
              subst ek
              have heS : elim p k (M (m + 13)) (M (m + 14)) k.toNat 0 (M (m + 12)) = some (x, q) := by rw [he, hu, elim_s, if_neg h_13, if_pos h_30]
              have z1 : up (upA (upA M (m + 12) q) (m + 13) (fun y => if 81 * x ≤ y ∧ y < 81 * x + k then q (y - 81 * x) * ivf p (q x) % p else M (m + 13) y)) (m + 14) x 1 (m + 13) = kpM p k x (M (m + 13)) q := by
                rw [up_row (by omega)]
                funext y
                rw [upA_s]
                rfl
              have z2 : up (upA (upA M (m + 12) q) (m + 13) (fun y => if 81 * x ≤ y ∧ y < 81 * x + k then q (y - 81 * x) * ivf p (q x) % p else M (m + 13) y)) (m + 14) x 1 (m + 14) = fun j => if j = x then 1 else M (m + 14) j := by
                funext y
                by_cases z : y = x
                · rw [z, up_s, if_pos rfl]
                · rw [up_i z, if_neg z, upA_k (by omega), upA_k (by omega)]
              refine ⟨_, rfl, same_tr (same_tr (same_upA (by simp)) (same_upA (by simp))) (same_up (by simp)), ?_, fun k9 => ?_, Or.inr rfl⟩
              · rw [z1, z2]
                exact rngE_kp p1 hE x0 c1
              · rw [z1, z2]
                exact tell_keep (s := (M (m + 13), M (m + 14), k9)) c1 x0 hx1 heS
            · skip
              refine ab_aload_n C dX9_tell_54 rfl rfl ?_
              refine gf_RX9_58 C s_t rfl dX9_tell_55 ?_
              refine ab_iload_n C dX9_tell_58 rfl rfl ?_
              refine ab_iload C dX9_tell_59 rfl ?_
              refine ab_iadd C dX9_tell_61 (by omega) ?_
              refine ab_aload_n C dX9_tell_62 rfl rfl ?_
              refine gf_RX9_55 C s_t rfl dX9_tell_63 ?_
              refine ab_iload C dX9_tell_66 rfl ?_
              refine ab_iaload C s_t_row (by omega) (by omega) dX9_tell_68 ?_
              rw [t12]
              refine ab_iload C dX9_tell_69 rfl ?_
              refine ab_imul C dX9_tell_71 (by omega) ?_
              refine ab_aload_n C dX9_tell_72 rfl rfl ?_
              refine gf_RX9_13 C s_t rfl dX9_tell_73 ?_
              rw [tp]
              refine ab_irem C dX9_tell_76 (by omega) (by omega) ?_
              refine ab_iastore C s_t_equations (by omega) (by omega) dX9_tell_77 ?_
              refine ab_iinc5 (lv := []) C rfl dX9_tell_78 (by omega) ?_
              refine ab_goto (tgt := 48) C dX9_tell_81 rfl ?_
              refine ab_mem (M2 := upA (upA M (m + 12) q) (m + 13) (fun y => if 81 * x ≤ y ∧ y < 81 * x + (k + 1) then q (y - 81 * x) * ivf p (q x) % p else M (m + 13) y)) ?_ (ihk () (by omega) (by omega))
              rw [up_upA]
              exact upA_ext (fun y => by
                by_cases q1 : y = 81 * x + k
                · rw [if_pos q1, if_pos (by omega), q1, show 81 * x + k - 81 * x = k by omega]
                · rw [if_neg q1]
                  by_cases q2 : 81 * x ≤ y ∧ y < 81 * x + k
                  · rw [if_pos q2, if_pos (by omega)]
                  · rw [if_neg q2, if_neg (by omega)])
      · skip
        refine ab_goto (tgt := 153) C dX9_tell_16 rfl ?_
        refine ab_iinc2 (lv := []) C rfl dX9_tell_153 (by omega) ?_
        refine ab_goto (tgt := 2) C dX9_tell_156 rfl ?_
        first
        | (rw [hu, elim_s, if_pos h_13] at he
           exact ih (q, y3, y4, y5) (by omega) ⟨by omega, hqq, he⟩)
        | (rw [hu, elim_s, if_neg h_13, if_neg h_30] at he
           have ek : k = c := by omega
           subst ek
           refine ab_mem (M2 := upA M (m + 12) (subE p k x (M (m + 13)) q)) (upA_ext (fun j => sbM_sub p1 j)) ?_
           exact ih (_, _, _, _) (by omega) ⟨by omega, rngB_sub p1 hqq, he⟩)
set_option maxRecDepth 100000 in
set_option maxHeartbeats 4000000 in
theorem m_X9_middle {D : va_G} {cA : Nat → ClassId} {S : List AbS} {M : AbM} {m : Nat} {n p : Int} (B_t : shMo S m) (A_t : MoA M m n p) (hL : LawsM n p M m) (hR : MRd n p M m) {d : Int} : Meth yX9_middle cX9_middle 8 (some .int) rmX9_middle D cA S [vP m, vI d] M (qI fun q M2 => KeepM n p M M2 m ∧ (if 0 ≤ d ∧ d ≤ Lg n - 1 then sMid n p (M m 6) (M (m + 4)) (M (m + 5)) d else -1) = q) := by
  refine ab_intro (lv := [vP m, vI d, vU, vU, vU, vU, vU, vU]) (by decide +kernel) rfl (Nat.le_of_ble_eq_true rfl) ?_
  intro hO hargs K hKD hKA C r
  have C : Cx K cX9_middle RX9 rmX9_middle := C
  have i_d : inI d := hargs _ (List.mem_cons_of_mem _ (List.mem_cons_self))
  obtain ⟨s_t, s_t_words, s_t_begins, s_t_squares, s_t_lengths, s_t_numbers, s_t_made, s_t_tape, s_t_rows, s_t_leads, s_t_otherRows, s_t_otherLeads, s_t_row, s_t_equations, s_t_firsts, s_t_sum, s_t_lanes, s_t_sizes, s_t_items⟩ := id B_t
  obtain ⟨⟨n1, n2, hPr⟩, m_n, m_p, m_L, m_w⟩ := id A_t
  obtain ⟨p1, p2, -⟩ := id hPr
  have hLB := Lg_B n
  refine ab_iload_n C dX9_middle_0 rfl rfl ?_
  refine ab_i2l C dX9_middle_1 ?_
  refine ab_lconst (n := 0) C dX9_middle_2 (by decide) (by decide +kernel) ?_
  refine ab_aload_n C dX9_middle_3 rfl rfl ?_
  refine gf_RX9_16 C s_t rfl dX9_middle_4 ?_
  rw [m_L]
  refine ab_iconst C dX9_middle_7 (by decide) ?_
  refine ab_isub C dX9_middle_8 (by omega) ?_
  refine ab_i2l C dX9_middle_9 ?_
  refine ab_callS C cl_RX9_90 (m_X9_in) (by decide) rfl rfl (Nat.le_of_ble_eq_true rfl) dX9_middle_10 (ab_kI (fun r_10 M_10 h_10 => ?_))
  obtain ⟨rfl, rfl⟩ := h_10
  refine ab_if_ne (tgt := 18) C dX9_middle_13 rfl (fun h_13 => ?_) (fun h_13 => ?_)
  · skip
    have hq := b01_ne h_13
    refine ab_aload_n C dX9_middle_18 rfl rfl ?_
    refine ab_callV C cl_RX9_153 (m_X9_find B_t A_t hL hR) (by decide) rfl s_t rfl rfl (Nat.le_of_ble_eq_true rfl) dX9_middle_19 (ab_kV (fun M_19 h_19 => ?_))
    obtain ⟨hs1, hm1, h13, hR1⟩ := h_19
    have hMd := (hR1 h13).1
    rw [hm1 6 (by decide) (by decide), hs1 (m + 4) (by simp), hs1 (m + 5) (by simp)] at hMd
    have hK : KeepM n p M M_19 m := KeepM.find hs1 hm1 hR1
    have A_t : MoA M_19 m n p := A_t.of (hm1 0 (by decide) (by decide)) (hm1 1 (by decide) (by decide)) (hm1 2 (by decide) (by decide)) (hs1 _ (by simp)) (hs1 _ (by simp)) (hs1 _ (by simp))
    obtain ⟨-, m_n, m_p, m_L, m_w⟩ := id A_t
    clear hs1 hm1 h13 hR1
    refine ab_aload_n C dX9_middle_22 rfl rfl ?_
    refine ab_aload_n C dX9_middle_23 rfl rfl ?_
    refine gf_RX9_45 C s_t rfl dX9_middle_24 ?_
    refine ab_iload_n C dX9_middle_27 rfl rfl ?_
    refine ab_callV C cl_RX9_159 (m_X9_normalIn B_t A_t s_t_leads (by omega) (by omega)) (by decide) rfl s_t rfl rfl (Nat.le_of_ble_eq_true rfl) dX9_middle_28 (ab_kI (fun r_28 M_28 h_28 => ?_))
    obtain ⟨rfl, rfl⟩ := h_28
    obtain ⟨c, hc⟩ : ∃ c, nmC n d (M_19 (m + 9)) = c := ⟨_, rfl⟩
    have mB := nm_B (Z := (M_19 (m + 9))) n1 n2 hq.1 (show d + 1 ≤ Lg n by omega)
    rw [hc] at mB ⊢
    have hc2 : cntF (nlA (ldq n d (M_19 (m + 9)))) (pw n d) = c := hc
    have A1 := A_t
    obtain ⟨e_w, e_b, -⟩ := m_w d hq.1 (by omega)
    obtain ⟨f_w, f_b, -⟩ := m_w (d + 1) (by omega) (by omega)
    have hB := sz_B n1 n2 hq.1 (show d ≤ Lg n by omega)
    have hB1 := sz_B n1 n2 (show 0 ≤ d + 1 by omega) (show d + 1 ≤ Lg n by omega)
    have hE1 := (hMd (d + 1) (by omega) (by omega)).1
    refine ab_istore2 (lv := []) C rfl dX9_middle_31 ?_
    refine ab_iconst C dX9_middle_32 (by decide) ?_
    refine ab_istore3 (lv := []) C rfl dX9_middle_33 ?_
    refine ab_iconst C dX9_middle_34 (by decide) ?_
    refine ab_istore4 (lv := []) C rfl dX9_middle_35 ?_
    refine ab_mem (M2 := (upA M_19 (m + 14) (fun j => if 0 ≤ j ∧ j < (0 : Int) then 0 else M_19 (m + 14) j))) (upA_id (fun j => if_neg (by omega))) ?_
    refine ab_loop (fun i (_ : Unit) => AJ K S 37 [vP m, vI d, vI c, vI 0, vI i, vU, vU, vU] [] (upA M_19 (m + 14) (fun j => if 0 ≤ j ∧ j < i then 0 else M_19 (m + 14) j))) (fun i _ => 0 ≤ i) 81 ?_ 0 () (by omega) (by omega)
    · intro i _ hi i0 ih
      refine ab_iload C dX9_middle_37 rfl ?_
      refine ab_bipush C dX9_middle_39 (by decide) (by decide +kernel) ?_
      refine ab_icmp_ge (tgt := 58) C dX9_middle_41 rfl (fun h_41 => ?_) (fun h_41 => ?_)
      · skip
        refine ab_iconst C dX9_middle_58 (by decide) ?_
        refine ab_istore4 (lv := []) C rfl dX9_middle_59 ?_
        have ei : i = 81 := by omega
        subst ei
        refine ab_loop (fun x (y : Int × AbM × AbV × AbV × AbV) => AJ K S 61 [vP m, vI d, vI c, vI y.1, vI x, y.2.2.1, y.2.2.2.1, y.2.2.2.2] [] y.2.1) (fun x y => 0 ≤ x ∧ (0 ≤ y.1 ∧ y.1 ≤ 243 * x) ∧ same [m + 12, m + 13, m + 14] M_19 y.2.1 ∧ rngE p c (y.2.1 (m + 13)) (y.2.1 (m + 14)) ∧ eqES c (y.2.1 (m + 13), y.2.1 (m + 14), y.1) (rowsXA n p d (ldq n d (M_19 (m + 9))) (ldq n (d + 1) (M_19 (m + 9))) (RM n p (d + 1) (M_19 (m + 8)) (M_19 (m + 9))) (x).toNat es0)) n ?_ 0 (0, (upA M_19 (m + 14) (fun j => if 0 ≤ j ∧ j < 81 then 0 else M_19 (m + 14) j)), vU, vU, vU) (by omega) ⟨by omega, ⟨by omega, by omega⟩, same_upA (by simp), ?_, ?_, rfl, ?_⟩
        · intro x y hx hI ih
          obtain ⟨k, M5, y5, y6, y7⟩ := y
          obtain ⟨x0, ⟨k0, k1⟩, hs5, kE, kS⟩ := hI
          dsimp only at k0 k1 hs5 kE kS ih ⊢
          have A_t := (same_mono (qs := [m + 12, m + 13, m + 14]) hs5 (by simp)).moA A1 (by simp)
          have tp : M5 m 1 = p := by rw [hs5 m (by simp), m_p]
          have tn : M5 m 0 = n := by rw [hs5 m (by simp), m_n]
          have w0_ : M5 (m + 1) d = pw n d := by rw [hs5 (m + 1) (by simp), e_w]
          have w1_ : M5 (m + 1) (d + 1) = pw n (d + 1) := by rw [hs5 (m + 1) (by simp), f_w]
          have b0_ : M5 (m + 2) d = wsm n d := by rw [hs5 (m + 2) (by simp), e_b]
          have b1_ : M5 (m + 2) (d + 1) = wsm n (d + 1) := by rw [hs5 (m + 2) (by simp), f_b]
          have r8 : M5 (m + 8) = M_19 (m + 8) := hs5 (m + 8) (by simp)
          have r9 : M5 (m + 9) = M_19 (m + 9) := hs5 (m + 9) (by simp)
          refine ab_iload C dX9_middle_61 rfl ?_
          refine ab_aload_n C dX9_middle_63 rfl rfl ?_
          refine gf_RX9_7 C s_t rfl dX9_middle_64 ?_
          rw [tn]
          refine ab_icmp_ge (tgt := 230) C dX9_middle_67 rfl (fun h_67 => ?_) (fun h_67 => ?_)
          · skip
            refine ab_iload_n C dX9_middle_230 rfl rfl ?_
            refine ab_iload_n C dX9_middle_231 rfl rfl ?_
            refine ab_isub C dX9_middle_232 (by omega) ?_
            refine ab_iret (st := []) C r dX9_middle_233 ?_
            have ex : x = n := by omega
            refine ⟨_, rfl, hK.tr hs5, ?_⟩
            rw [if_pos hq]
            rw [ex] at kS
            have erk : k = (rowsXA n p d (ldq n d (M_19 (m + 9))) (ldq n (d + 1) (M_19 (m + 9))) (RM n p (d + 1) (M_19 (m + 8)) (M_19 (m + 9))) (n).toNat es0).2.2 := kS.2.1
            have s0 := mod_same p1 n1 (show (0 : Int) ≤ d by omega) (fun e e0 e1 => hMd e e0 (by omega))
            have s1 := mod_same p1 n1 (show (0 : Int) ≤ (d + 1) by omega) (fun e e0 e1 => hMd e e0 (by omega))
            unfold sMid
            rw [← midA_congr n1 hq.1 (fun w a b => (s0 w a b).1) (fun w a b => (s1 w a b).1) (fun w a b => (s1 w a b).2)]
            unfold midA
            rw [hc2, erk]
          · skip
            refine ab_iconst C dX9_middle_70 (by decide) ?_
            refine ab_istore5 (lv := []) C rfl dX9_middle_71 ?_
            refine ab_loop (fun t (y : Int × AbM × AbV × AbV) => AJ K S 73 [vP m, vI d, vI c, vI y.1, vI x, vI t, y.2.2.1, y.2.2.2] [] y.2.1) (fun t y => 0 ≤ t ∧ (0 ≤ y.1 ∧ y.1 ≤ 243 * x + t) ∧ same [m + 12, m + 13, m + 14] M_19 y.2.1 ∧ rngE p c (y.2.1 (m + 13)) (y.2.1 (m + 14)) ∧ eqES c (y.2.1 (m + 13), y.2.1 (m + 14), y.1) (rowsTA n p d (ldq n d (M_19 (m + 9))) (ldq n (d + 1) (M_19 (m + 9))) (RM n p (d + 1) (M_19 (m + 8)) (M_19 (m + 9))) x (t).toNat (rowsXA n p d (ldq n d (M_19 (m + 9))) (ldq n (d + 1) (M_19 (m + 9))) (RM n p (d + 1) (M_19 (m + 8)) (M_19 (m + 9))) (x).toNat es0))) (pw n (d + 1)) ?_ 0 (k, M5, y6, y7) (by omega) ⟨by omega, ⟨by dsimp only; omega, by dsimp only; omega⟩, hs5, kE, kS⟩
            · intro t y ht hI ih6
              obtain ⟨k, M6, y6, y7⟩ := y
              obtain ⟨t0, ⟨k0, k1⟩, hs6, kE, kS⟩ := hI
              dsimp only at k0 k1 hs6 kE kS ih6 ⊢
              have A_t := (same_mono (qs := [m + 12, m + 13, m + 14]) hs6 (by simp)).moA A1 (by simp)
              have tp : M6 m 1 = p := by rw [hs6 m (by simp), m_p]
              have tn : M6 m 0 = n := by rw [hs6 m (by simp), m_n]
              have w0_ : M6 (m + 1) d = pw n d := by rw [hs6 (m + 1) (by simp), e_w]
              have w1_ : M6 (m + 1) (d + 1) = pw n (d + 1) := by rw [hs6 (m + 1) (by simp), f_w]
              have b0_ : M6 (m + 2) d = wsm n d := by rw [hs6 (m + 2) (by simp), e_b]
              have b1_ : M6 (m + 2) (d + 1) = wsm n (d + 1) := by rw [hs6 (m + 2) (by simp), f_b]
              have r8 : M6 (m + 8) = M_19 (m + 8) := hs6 (m + 8) (by simp)
              have r9 : M6 (m + 9) = M_19 (m + 9) := hs6 (m + 9) (by simp)
              refine ab_iload C dX9_middle_73 rfl ?_
              refine ab_aload_n C dX9_middle_75 rfl rfl ?_
              refine gf_RX9_19 C s_t rfl dX9_middle_76 ?_
              refine ab_iload_n C dX9_middle_79 rfl rfl ?_
              refine ab_iconst C dX9_middle_80 (by decide) ?_
              refine ab_iadd C dX9_middle_81 (by omega) ?_
              refine ab_iaload C s_t_words (by omega) (by omega) dX9_middle_82 ?_
              rw [w1_]
              refine ab_icmp_ge (tgt := 224) C dX9_middle_83 rfl (fun h_83 => ?_) (fun h_83 => ?_)
              · skip
                refine ab_iinc4 (lv := []) C rfl dX9_middle_224 (by omega) ?_
                refine ab_goto (tgt := 61) C dX9_middle_227 rfl ?_
                have et : t = pw n (d + 1) := by omega
                subst et
                have ex : (x + 1).toNat = x.toNat + 1 := by omega
                have exi : ((x.toNat : Nat) : Int) = x := by omega
                refine ih (_, _, _, _, _) (by omega) ⟨by omega, ⟨by dsimp only; omega, by dsimp only; omega⟩, hs6, kE, ?_⟩
                rw [ex]
                show eqES _ _ (rowsTA n p d (ldq n d (M_19 (m + 9))) (ldq n (d + 1) (M_19 (m + 9))) (RM n p (d + 1) (M_19 (m + 8)) (M_19 (m + 9))) ((x.toNat : Nat) : Int) (pw n (d + 1)).toNat (rowsXA n p d (ldq n d (M_19 (m + 9))) (ldq n (d + 1) (M_19 (m + 9))) (RM n p (d + 1) (M_19 (m + 8)) (M_19 (m + 9))) (x).toNat es0))
                rw [exi]
                exact kS
              · skip
                refine ab_aload_n C dX9_middle_86 rfl rfl ?_
                refine gf_RX9_45 C s_t rfl dX9_middle_87 ?_
                refine ab_aload_n C dX9_middle_90 rfl rfl ?_
                refine gf_RX9_23 C s_t rfl dX9_middle_91 ?_
                refine ab_iload_n C dX9_middle_94 rfl rfl ?_
                refine ab_iconst C dX9_middle_95 (by decide) ?_
                refine ab_iadd C dX9_middle_96 (by omega) ?_
                refine ab_iaload C s_t_begins (by omega) (by omega) dX9_middle_97 ?_
                rw [b1_]
                refine ab_iload C dX9_middle_98 rfl ?_
                refine ab_iadd C dX9_middle_100 (by omega) ?_
                refine ab_baload C s_t_leads (by omega) (by omega) dX9_middle_101 ?_
                have l1_ : M6 (m + 9) (wsm n (d + 1) + t) = (ldq n (d + 1) (M_19 (m + 9))) t := by rw [r9]; rfl
                rw [l1_]
                refine ab_if_ne (tgt := 218) C dX9_middle_102 rfl (fun h_102 => ?_) (fun h_102 => ?_)
                · skip
                  refine ab_iinc5 (lv := []) C rfl dX9_middle_218 (by omega) ?_
                  refine ab_goto (tgt := 73) C dX9_middle_221 rfl ?_
                  have et : (t + 1).toNat = t.toNat + 1 := by omega
                  have eti : ((t.toNat : Nat) : Int) = t := by omega
                  have hstep : rowsTA n p d (ldq n d (M_19 (m + 9))) (ldq n (d + 1) (M_19 (m + 9))) (RM n p (d + 1) (M_19 (m + 8)) (M_19 (m + 9))) x (t + 1).toNat (rowsXA n p d (ldq n d (M_19 (m + 9))) (ldq n (d + 1) (M_19 (m + 9))) (RM n p (d + 1) (M_19 (m + 8)) (M_19 (m + 9))) (x).toNat es0) = if (ldq n (d + 1) (M_19 (m + 9))) t = 0 then stepE p c (rowsTA n p d (ldq n d (M_19 (m + 9))) (ldq n (d + 1) (M_19 (m + 9))) (RM n p (d + 1) (M_19 (m + 8)) (M_19 (m + 9))) x (t).toNat (rowsXA n p d (ldq n d (M_19 (m + 9))) (ldq n (d + 1) (M_19 (m + 9))) (RM n p (d + 1) (M_19 (m + 8)) (M_19 (m + 9))) (x).toNat es0)) (eqA n p d (ldq n d (M_19 (m + 9))) (RM n p (d + 1) (M_19 (m + 8)) (M_19 (m + 9))) x t) else rowsTA n p d (ldq n d (M_19 (m + 9))) (ldq n (d + 1) (M_19 (m + 9))) (RM n p (d + 1) (M_19 (m + 8)) (M_19 (m + 9))) x (t).toNat (rowsXA n p d (ldq n d (M_19 (m + 9))) (ldq n (d + 1) (M_19 (m + 9))) (RM n p (d + 1) (M_19 (m + 8)) (M_19 (m + 9))) (x).toNat es0) := by
                    rw [et]
                    show (if (ldq n (d + 1) (M_19 (m + 9))) ((t.toNat : Nat) : Int) = 0 then stepE p (cntF (nlA (ldq n d (M_19 (m + 9)))) (pw n d)) (rowsTA n p d (ldq n d (M_19 (m + 9))) (ldq n (d + 1) (M_19 (m + 9))) (RM n p (d + 1) (M_19 (m + 8)) (M_19 (m + 9))) x (t).toNat (rowsXA n p d (ldq n d (M_19 (m + 9))) (ldq n (d + 1) (M_19 (m + 9))) (RM n p (d + 1) (M_19 (m + 8)) (M_19 (m + 9))) (x).toNat es0)) (eqA n p d (ldq n d (M_19 (m + 9))) (RM n p (d + 1) (M_19 (m + 8)) (M_19 (m + 9))) x ((t.toNat : Nat) : Int)) else rowsTA n p d (ldq n d (M_19 (m + 9))) (ldq n (d + 1) (M_19 (m + 9))) (RM n p (d + 1) (M_19 (m + 8)) (M_19 (m + 9))) x (t).toNat (rowsXA n p d (ldq n d (M_19 (m + 9))) (ldq n (d + 1) (M_19 (m + 9))) (RM n p (d + 1) (M_19 (m + 8)) (M_19 (m + 9))) (x).toNat es0)) = _
                    rw [eti, hc2]
                  first
                  | (rw [if_neg h_102] at hstep
                     refine ih6 (k, M6, y6, y7) (by omega) ⟨by omega, ⟨by dsimp only; omega, by dsimp only; omega⟩, hs6, kE, ?_⟩
                     dsimp only
                     rw [hstep]
                     exact kS)
                  | (rw [if_pos h_102] at hstep
                     refine ih6 (_, _, _, _) (by omega) ⟨by omega, ⟨by dsimp only; omega, by dsimp only; omega⟩, same_tr (same_tr hs6 (same_upA (by simp))) hsT, hET, ?_⟩
                     dsimp only
                     rw [hstep]
                     refine eqES_tr (hST k) ?_
                     rw [q13, q14]
                     exact stepE_eq mB.1 mB.2 kS q12)
                · skip
                  refine ab_aload_n C dX9_middle_105 rfl rfl ?_
                  refine ab_callV C cl_RX9_137 (m_X9_clearRow B_t) (by decide) rfl s_t rfl rfl (Nat.le_of_ble_eq_true rfl) dX9_middle_106 (ab_kV (fun M_106 h_106 => ?_))
                  subst h_106
                  refine ab_iconst C dX9_middle_109 (by decide) ?_
                  refine ab_istore6 (lv := []) C rfl dX9_middle_110 ?_
                  refine ab_iconst C dX9_middle_112 (by decide) ?_
                  refine ab_istore7 (lv := []) C rfl dX9_middle_113 ?_
                  refine ab_lvs (lv2 := [vP m, vI d, vI c, vI k, vI x, vI t, vI (cntF (nlA (ldq n d (M_19 (m + 9)))) 0), vI 0]) (by rw [cntF_0]) ?_
                  refine ab_mem (M2 := upA M6 (m + 12) (rwE n p d x t (ldq n d (M_19 (m + 9))) (RM n p (d + 1) (M_19 (m + 8)) (M_19 (m + 9))) (M6 (m + 12)) 0)) (upA_ext (fun j => (rwE_0 j).symm)) ?_
                  refine ab_loop (fun u (_ : Unit) => AJ K S 115 [vP m, vI d, vI c, vI k, vI x, vI t, vI (cntF (nlA (ldq n d (M_19 (m + 9)))) u), vI u] [] (upA M6 (m + 12) (rwE n p d x t (ldq n d (M_19 (m + 9))) (RM n p (d + 1) (M_19 (m + 8)) (M_19 (m + 9))) (M6 (m + 12)) u))) (fun u _ => 0 ≤ u) (pw n d) ?_ 0 () (by omega) (by omega)
                  · intro u _ hu u0 ihu
                    have cB := cntF_B (f := nlA (ldq n d (M_19 (m + 9)))) u0
                    have A_t : MoA (upA M6 (m + 12) (rwE n p d x t (ldq n d (M_19 (m + 9))) (RM n p (d + 1) (M_19 (m + 8)) (M_19 (m + 9))) (M6 (m + 12)) u)) m n p := (same_upA (ps := [m + 12]) (by simp)).moA A_t (by simp)
                    have v0_ : upA M6 (m + 12) (rwE n p d x t (ldq n d (M_19 (m + 9))) (RM n p (d + 1) (M_19 (m + 8)) (M_19 (m + 9))) (M6 (m + 12)) u) (m + 1) d = pw n d := by rw [upA_k (by omega), w0_]
                    have c0_ : upA M6 (m + 12) (rwE n p d x t (ldq n d (M_19 (m + 9))) (RM n p (d + 1) (M_19 (m + 8)) (M_19 (m + 9))) (M6 (m + 12)) u) (m + 2) d = wsm n d := by rw [upA_k (by omega), b0_]
                    have q8 : upA M6 (m + 12) (rwE n p d x t (ldq n d (M_19 (m + 9))) (RM n p (d + 1) (M_19 (m + 8)) (M_19 (m + 9))) (M6 (m + 12)) u) (m + 8) = M_19 (m + 8) := by rw [upA_row (by omega), r8]
                    have q9 : upA M6 (m + 12) (rwE n p d x t (ldq n d (M_19 (m + 9))) (RM n p (d + 1) (M_19 (m + 8)) (M_19 (m + 9))) (M6 (m + 12)) u) (m + 9) = M_19 (m + 9) := by rw [upA_row (by omega), r9]
                    have sp_ : upA M6 (m + 12) (rwE n p d x t (ldq n d (M_19 (m + 9))) (RM n p (d + 1) (M_19 (m + 8)) (M_19 (m + 9))) (M6 (m + 12)) u) m 1 = p := by rw [upA_k (by omega), tp]
                    have sn_ : upA M6 (m + 12) (rwE n p d x t (ldq n d (M_19 (m + 9))) (RM n p (d + 1) (M_19 (m + 8)) (M_19 (m + 9))) (M6 (m + 12)) u) m 0 = n := by rw [upA_k (by omega), tn]
                    refine ab_iload C dX9_middle_115 rfl ?_
                    refine ab_aload_n C dX9_middle_117 rfl rfl ?_
                    refine gf_RX9_19 C s_t rfl dX9_middle_118 ?_
                    refine ab_iload_n C dX9_middle_121 rfl rfl ?_
                    refine ab_iaload C s_t_words (by omega) (by omega) dX9_middle_122 ?_
                    rw [v0_]
                    refine ab_icmp_ge (tgt := 210) C dX9_middle_123 rfl (fun h_123 => ?_) (fun h_123 => ?_)
                    · skip
                      refine ab_iload_n C dX9_middle_210 rfl rfl ?_
                      have eu : u = pw n d := by omega
                      subst eu
                      have q12 : ∀ j, 0 ≤ j → j < c → upA M6 (m + 12) (rwE n p d x t (ldq n d (M_19 (m + 9))) (RM n p (d + 1) (M_19 (m + 8)) (M_19 (m + 9))) (M6 (m + 12)) (pw n d)) (m + 12) j = eqA n p d (ldq n d (M_19 (m + 9))) (RM n p (d + 1) (M_19 (m + 8)) (M_19 (m + 9))) x t j := fun j j0 j1 => by
                        rw [upA_s]
                        unfold rwE
                        rw [if_pos (by rw [hc2]; exact ⟨j0, j1⟩)]
                      have q13 : upA M6 (m + 12) (rwE n p d x t (ldq n d (M_19 (m + 9))) (RM n p (d + 1) (M_19 (m + 8)) (M_19 (m + 9))) (M6 (m + 12)) (pw n d)) (m + 13) = M6 (m + 13) := upA_row (by omega)
                      have q14 : upA M6 (m + 12) (rwE n p d x t (ldq n d (M_19 (m + 9))) (RM n p (d + 1) (M_19 (m + 8)) (M_19 (m + 9))) (M6 (m + 12)) (pw n d)) (m + 14) = M6 (m + 14) := upA_row (by omega)
                      refine ab_aload_n C dX9_middle_211 rfl rfl ?_
                      refine ab_iload_n C dX9_middle_212 rfl rfl ?_
                      refine ab_callV C cl_RX9_182 (m_X9_tell B_t (by assumption) (by omega) (by omega) (fun j j0 j1 => by rw [q12 j j0 j1]; unfold eqA; rw [if_pos (by rw [hc2]; exact ⟨j0, j1⟩)]; exact emod_in p1) (by rw [q13, q14]; exact kE)) (by decide) rfl s_t rfl rfl (Nat.le_of_ble_eq_true rfl) dX9_middle_213 (ab_kI (fun r_213 M_213 h_213 => ?_))
                      obtain ⟨hsT, hET, hST, h01⟩ := h_213
                      refine ab_iadd C dX9_middle_216 (by omega) ?_
                      refine ab_istore3 (lv := []) C rfl dX9_middle_217 ?_
                      refine ab_iinc5 (lv := []) C rfl dX9_middle_218 (by omega) ?_
                      refine ab_goto (tgt := 73) C dX9_middle_221 rfl ?_
                      have et : (t + 1).toNat = t.toNat + 1 := by omega
                      have eti : ((t.toNat : Nat) : Int) = t := by omega
                      have hstep : rowsTA n p d (ldq n d (M_19 (m + 9))) (ldq n (d + 1) (M_19 (m + 9))) (RM n p (d + 1) (M_19 (m + 8)) (M_19 (m + 9))) x (t + 1).toNat (rowsXA n p d (ldq n d (M_19 (m + 9))) (ldq n (d + 1) (M_19 (m + 9))) (RM n p (d + 1) (M_19 (m + 8)) (M_19 (m + 9))) (x).toNat es0) = if (ldq n (d + 1) (M_19 (m + 9))) t = 0 then stepE p c (rowsTA n p d (ldq n d (M_19 (m + 9))) (ldq n (d + 1) (M_19 (m + 9))) (RM n p (d + 1) (M_19 (m + 8)) (M_19 (m + 9))) x (t).toNat (rowsXA n p d (ldq n d (M_19 (m + 9))) (ldq n (d + 1) (M_19 (m + 9))) (RM n p (d + 1) (M_19 (m + 8)) (M_19 (m + 9))) (x).toNat es0)) (eqA n p d (ldq n d (M_19 (m + 9))) (RM n p (d + 1) (M_19 (m + 8)) (M_19 (m + 9))) x t) else rowsTA n p d (ldq n d (M_19 (m + 9))) (ldq n (d + 1) (M_19 (m + 9))) (RM n p (d + 1) (M_19 (m + 8)) (M_19 (m + 9))) x (t).toNat (rowsXA n p d (ldq n d (M_19 (m + 9))) (ldq n (d + 1) (M_19 (m + 9))) (RM n p (d + 1) (M_19 (m + 8)) (M_19 (m + 9))) (x).toNat es0) := by
                        rw [et]
                        show (if (ldq n (d + 1) (M_19 (m + 9))) ((t.toNat : Nat) : Int) = 0 then stepE p (cntF (nlA (ldq n d (M_19 (m + 9)))) (pw n d)) (rowsTA n p d (ldq n d (M_19 (m + 9))) (ldq n (d + 1) (M_19 (m + 9))) (RM n p (d + 1) (M_19 (m + 8)) (M_19 (m + 9))) x (t).toNat (rowsXA n p d (ldq n d (M_19 (m + 9))) (ldq n (d + 1) (M_19 (m + 9))) (RM n p (d + 1) (M_19 (m + 8)) (M_19 (m + 9))) (x).toNat es0)) (eqA n p d (ldq n d (M_19 (m + 9))) (RM n p (d + 1) (M_19 (m + 8)) (M_19 (m + 9))) x ((t.toNat : Nat) : Int)) else rowsTA n p d (ldq n d (M_19 (m + 9))) (ldq n (d + 1) (M_19 (m + 9))) (RM n p (d + 1) (M_19 (m + 8)) (M_19 (m + 9))) x (t).toNat (rowsXA n p d (ldq n d (M_19 (m + 9))) (ldq n (d + 1) (M_19 (m + 9))) (RM n p (d + 1) (M_19 (m + 8)) (M_19 (m + 9))) (x).toNat es0)) = _
                        rw [eti, hc2]
                      first
                      | (rw [if_neg h_102] at hstep
                         refine ih6 (k, M6, y6, y7) (by omega) ⟨by omega, ⟨by dsimp only; omega, by dsimp only; omega⟩, hs6, kE, ?_⟩
                         dsimp only
                         rw [hstep]
                         exact kS)
                      | (rw [if_pos h_102] at hstep
                         refine ih6 (_, _, _, _) (by omega) ⟨by omega, ⟨by dsimp only; omega, by dsimp only; omega⟩, same_tr (same_tr hs6 (same_upA (by simp))) hsT, hET, ?_⟩
                         dsimp only
                         rw [hstep]
                         refine eqES_tr (hST k) ?_
                         rw [q13, q14]
                         exact stepE_eq mB.1 mB.2 kS q12)
                    · skip
                      refine ab_aload_n C dX9_middle_126 rfl rfl ?_
                      refine gf_RX9_45 C s_t rfl dX9_middle_127 ?_
                      refine ab_aload_n C dX9_middle_130 rfl rfl ?_
                      refine gf_RX9_23 C s_t rfl dX9_middle_131 ?_
                      refine ab_iload_n C dX9_middle_134 rfl rfl ?_
                      refine ab_iaload C s_t_begins (by omega) (by omega) dX9_middle_135 ?_
                      rw [c0_]
                      refine ab_iload C dX9_middle_136 rfl ?_
                      refine ab_iadd C dX9_middle_138 (by omega) ?_
                      refine ab_baload C s_t_leads (by omega) (by omega) dX9_middle_139 ?_
                      have l0_ : upA M6 (m + 12) (rwE n p d x t (ldq n d (M_19 (m + 9))) (RM n p (d + 1) (M_19 (m + 8)) (M_19 (m + 9))) (M6 (m + 12)) u) (m + 9) (wsm n d + u) = (ldq n d (M_19 (m + 9))) u := by rw [q9]; rfl
                      rw [l0_]
                      refine ab_if_ne (tgt := 204) C dX9_middle_140 rfl (fun h_140 => ?_) (fun h_140 => ?_)
                      · skip
                        refine ab_iinc7 (lv := []) C rfl dX9_middle_204 (by omega) ?_
                        refine ab_goto (tgt := 115) C dX9_middle_207 rfl ?_
                        first
                        | (have z := cntF_s (f := nlA (ldq n d (M_19 (m + 9)))) u0
                           rw [if_pos (show nlA (ldq n d (M_19 (m + 9))) u = 0 from if_neg h_140), Int.add_zero] at z
                           rw [z] at ihu
                           exact ab_mem (upA_ext (fun j => rwE_s0 u0 h_140 j)) (ihu () (by omega) (by omega)))
                        | (rw [z1] at ihu
                           refine ab_mem ?_ (ihu () (by omega) (by omega))
                           rw [up_upA]
                           exact upA_ext (fun j => rwE_s1 u0 (by omega) h_140 j))
                      · skip
                        have zn : nlA (ldq n d (M_19 (m + 9))) u = 1 := if_pos h_140
                        have z1 := cntF_s (f := nlA (ldq n d (M_19 (m + 9)))) u0
                        rw [zn, if_neg (by decide)] at z1
                        have z2 := cnt_mono (f := nlA (ldq n d (M_19 (m + 9)))) (a := u + 1) (b := pw n d) (by omega) (by omega)
                        have B1 := blk_B (d := d + 1) n1 (by omega) x u x0 (by omega) u0 (by rw [show d + 1 - 1 = d by omega]; omega)
                        rw [show d + 1 - 1 = d by omega, Int.mul_comm u n] at B1
                        have c1 : 0 ≤ x * pw n d := Int.mul_nonneg x0 (by omega)
                        have c2 : 0 ≤ n * u := Int.mul_nonneg (by omega) u0
                        refine ab_aload_n C dX9_middle_143 rfl rfl ?_
                        refine gf_RX9_55 C s_t rfl dX9_middle_144 ?_
                        refine ab_iload C dX9_middle_147 rfl ?_
                        refine ab_aload_n C dX9_middle_149 rfl rfl ?_
                        refine ab_iload_n C dX9_middle_150 rfl rfl ?_
                        refine ab_iconst C dX9_middle_151 (by decide) ?_
                        refine ab_iadd C dX9_middle_152 (by omega) ?_
                        refine ab_iload C dX9_middle_153 rfl ?_
                        refine ab_iload C dX9_middle_155 rfl ?_
                        refine ab_aload_n C dX9_middle_157 rfl rfl ?_
                        refine gf_RX9_19 C s_t rfl dX9_middle_158 ?_
                        refine ab_iload_n C dX9_middle_161 rfl rfl ?_
                        refine ab_iaload C s_t_words (by omega) (by omega) dX9_middle_162 ?_
                        rw [v0_]
                        refine ab_imul C dX9_middle_163 (by omega) ?_
                        refine ab_iload C dX9_middle_164 rfl ?_
                        refine ab_iadd C dX9_middle_166 (by omega) ?_
                        refine ab_callV C cl_RX9_171 (m_X9_plainOf B_t (by assumption) (by omega) (by omega) (by omega) (by omega) (by omega) (by omega) (by rw [q8, q9]; exact hE1)) (by decide) rfl s_t rfl rfl (Nat.le_of_ble_eq_true rfl) dX9_middle_167 (ab_kI (fun r_167 M_167 h_167 => ?_))
                        obtain ⟨rfl, rfl⟩ := h_167
                        rw [q8, q9]
                        have i1 := RM_in (n := n) (A := M_19 (m + 8)) (Z := M_19 (m + 9)) p1 (d := d + 1) (j := x * pw n d + u) (u := t)
                        refine ab_aload_n C dX9_middle_170 rfl rfl ?_
                        refine gf_RX9_13 C s_t rfl dX9_middle_171 ?_
                        rw [sp_]
                        refine ab_iadd C dX9_middle_174 (by omega) ?_
                        refine ab_aload_n C dX9_middle_175 rfl rfl ?_
                        refine ab_iload_n C dX9_middle_176 rfl rfl ?_
                        refine ab_iconst C dX9_middle_177 (by decide) ?_
                        refine ab_iadd C dX9_middle_178 (by omega) ?_
                        refine ab_iload C dX9_middle_179 rfl ?_
                        refine ab_aload_n C dX9_middle_181 rfl rfl ?_
                        refine gf_RX9_7 C s_t rfl dX9_middle_182 ?_
                        rw [sn_]
                        refine ab_iload C dX9_middle_185 rfl ?_
                        refine ab_imul C dX9_middle_187 (by omega) ?_
                        refine ab_iload C dX9_middle_188 rfl ?_
                        refine ab_iadd C dX9_middle_190 (by omega) ?_
                        refine ab_callV C cl_RX9_171 (m_X9_plainOf B_t (by assumption) (by omega) (by omega) (by omega) (by omega) (by omega) (by omega) (by rw [q8, q9]; exact hE1)) (by decide) rfl s_t rfl rfl (Nat.le_of_ble_eq_true rfl) dX9_middle_191 (ab_kI (fun r_191 M_191 h_191 => ?_))
                        obtain ⟨rfl, rfl⟩ := h_191
                        rw [q8, q9]
                        have i2 := RM_in (n := n) (A := M_19 (m + 8)) (Z := M_19 (m + 9)) p1 (d := d + 1) (j := n * u + x) (u := t)
                        refine ab_isub C dX9_middle_194 (by omega) ?_
                        refine ab_aload_n C dX9_middle_195 rfl rfl ?_
                        refine gf_RX9_13 C s_t rfl dX9_middle_196 ?_
                        rw [sp_]
                        refine ab_irem C dX9_middle_199 (by omega) (by omega) ?_
                        refine ab_iastore C s_t_row (by omega) (by omega) dX9_middle_200 ?_
                        refine ab_iinc6 (lv := []) C rfl dX9_middle_201 (by omega) ?_
                        refine ab_iinc7 (lv := []) C rfl dX9_middle_204 (by omega) ?_
                        refine ab_goto (tgt := 115) C dX9_middle_207 rfl ?_
                        first
                        | (have z := cntF_s (f := nlA (ldq n d (M_19 (m + 9)))) u0
                           rw [if_pos (show nlA (ldq n d (M_19 (m + 9))) u = 0 from if_neg h_140), Int.add_zero] at z
                           rw [z] at ihu
                           exact ab_mem (upA_ext (fun j => rwE_s0 u0 h_140 j)) (ihu () (by omega) (by omega)))
                        | (rw [z1] at ihu
                           refine ab_mem ?_ (ihu () (by omega) (by omega))
                           rw [up_upA]
                           exact upA_ext (fun j => rwE_s1 u0 (by omega) h_140 j))
        · intro i j a e f z
          exfalso
          dsimp only at z
          rw [upA_s, if_pos (by omega)] at z
          exact z rfl
        · intro i a e
          dsimp only
          rw [upA_s, if_pos (by omega)]
          rfl
        · intro i j a e f z
          exfalso
          dsimp only at z
          rw [upA_s, if_pos (by omega)] at z
          exact z rfl
      · skip
        refine ab_aload_n C dX9_middle_44 rfl rfl ?_
        refine gf_RX9_61 C s_t rfl dX9_middle_45 ?_
        refine ab_iload C dX9_middle_48 rfl ?_
        refine ab_iconst C dX9_middle_50 (by decide) ?_
        refine ab_bastore C s_t_firsts (by omega) (by omega) (by omega) dX9_middle_51 ?_
        refine ab_iinc4 (lv := []) C rfl dX9_middle_52 (by omega) ?_
        refine ab_goto (tgt := 37) C dX9_middle_55 rfl ?_
        refine ab_mem (M2 := (upA M_19 (m + 14) (fun j => if 0 ≤ j ∧ j < (i + 1) then 0 else M_19 (m + 14) j))) ?_ (ih () (by omega) (by omega))
        rw [up_upA]
        exact upA_ext (fun j => by
          by_cases q1 : j = i
          · rw [if_pos q1, if_pos (by omega)]
          · rw [if_neg q1]
            by_cases q2 : 0 ≤ j ∧ j < i
            · rw [if_pos q2, if_pos (by omega)]
            · rw [if_neg q2, if_neg (by omega)])
  · skip
    have hq := b01_eq h_13
    refine ab_iconst C dX9_middle_16 (by decide) ?_
    refine ab_iret (st := []) C r dX9_middle_17 ?_
    refine ⟨_, rfl, KeepM.rf hR, ?_⟩
    rw [if_neg]
    omega
set_option maxRecDepth 100000 in
set_option maxHeartbeats 4000000 in
theorem m_X9_least {D : va_G} {cA : Nat → ClassId} {S : List AbS} {M : AbM} {m : Nat} {n p : Int} (B_t : shMo S m) (A_t : MoA M m n p) (hL : LawsM n p M m) (hR : MRd n p M m) {i y : Int} : Meth yX9_least cX9_least 6 (some .int) rmX9_least D cA S [vP m, vI i, vI y] M (qI fun q M2 => KeepM n p M M2 m ∧ ((0 ≤ i ∧ 0 ≤ y ∧ y ≤ 2) → LeastR n (fun e => lsA n e (sld n p (M m 6) (M (m + 4)) (M (m + 5)) (e - 1)) (sld n p (M m 6) (M (m + 4)) (M (m + 5)) e)) (fun e x => cntF (srh n p (M m 6) (M (m + 4)) (M (m + 5)) e x) (x + 1)) i y q) ∧ (¬ (0 ≤ i ∧ 0 ≤ y ∧ y ≤ 2) → q = -1)) := by
  refine ab_intro (lv := [vP m, vI i, vI y, vU, vU, vU]) (by decide +kernel) rfl (Nat.le_of_ble_eq_true rfl) ?_
  intro hO hargs K hKD hKA C r
  have C : Cx K cX9_least RX9 rmX9_least := C
  have i_i : inI i := hargs _ (List.mem_cons_of_mem _ (List.mem_cons_self))
  have i_y : inI y := hargs _ (List.mem_cons_of_mem _ (List.mem_cons_of_mem _ (List.mem_cons_self)))
  obtain ⟨s_t, s_t_words, s_t_begins, s_t_squares, s_t_lengths, s_t_numbers, s_t_made, s_t_tape, s_t_rows, s_t_leads, s_t_otherRows, s_t_otherLeads, s_t_row, s_t_equations, s_t_firsts, s_t_sum, s_t_lanes, s_t_sizes, s_t_items⟩ := id B_t
  obtain ⟨⟨n1, n2, hPr⟩, m_n, m_p, m_L, m_w⟩ := id A_t
  obtain ⟨p1, p2, -⟩ := id hPr
  have hLB := Lg_B n
  refine ab_iload_n C dX9_least_0 rfl rfl ?_
  refine ab_if_lt (tgt := 16) C dX9_least_1 rfl (fun h_1 => ?_) (fun h_1 => ?_)
  · skip
    refine ab_iconst C dX9_least_16 (by decide) ?_
    refine ab_iret (st := []) C r dX9_least_17 ?_
    refine ⟨_, rfl, KeepM.rf hR, fun z => by omega, fun _ => rfl⟩
  · skip
    refine ab_iload_n C dX9_least_4 rfl rfl ?_
    refine ab_i2l C dX9_least_5 ?_
    refine ab_lconst (n := 0) C dX9_least_6 (by decide) (by decide +kernel) ?_
    refine ab_ldc2 (n := 2) C gw808 dX9_least_7 (by decide) (by decide +kernel) ?_
    refine ab_callS C cl_RX9_90 (m_X9_in) (by decide) rfl rfl (Nat.le_of_ble_eq_true rfl) dX9_least_10 (ab_kI (fun r_10 M_10 h_10 => ?_))
    obtain ⟨rfl, rfl⟩ := h_10
    refine ab_if_ne (tgt := 18) C dX9_least_13 rfl (fun h_13 => ?_) (fun h_13 => ?_)
    · skip
      have hq := b01_ne h_13
      refine ab_aload_n C dX9_least_18 rfl rfl ?_
      refine ab_callV C cl_RX9_153 (m_X9_find B_t A_t hL hR) (by decide) rfl s_t rfl rfl (Nat.le_of_ble_eq_true rfl) dX9_least_19 (ab_kV (fun M_19 h_19 => ?_))
      obtain ⟨hs1, hm1, h13, hR1⟩ := h_19
      have hMd := (hR1 h13).1
      rw [hm1 6 (by decide) (by decide), hs1 (m + 4) (by simp), hs1 (m + 5) (by simp)] at hMd
      have hK : KeepM n p M M_19 m := KeepM.find hs1 hm1 hR1
      have A_t : MoA M_19 m n p := A_t.of (hm1 0 (by decide) (by decide)) (hm1 1 (by decide) (by decide)) (hm1 2 (by decide) (by decide)) (hs1 _ (by simp)) (hs1 _ (by simp)) (hs1 _ (by simp))
      obtain ⟨-, m_n, m_p, m_L, m_w⟩ := id A_t
      clear hs1 hm1 h13 hR1
      have hz := ls01 p1 n1 hMd (fun i a b => (hL.2.2 i a b).1)
      refine ab_iconst C dX9_least_22 (by decide) ?_
      refine ab_istore3 (lv := []) C rfl dX9_least_23 ?_
      refine ab_iconst C dX9_least_24 (by decide) ?_
      refine ab_istore4 (lv := []) C rfl dX9_least_25 ?_
      have hi2 : sumF (fun e => lsC n e (M_19 (m + 9))) 2 = 0 := by
        rw [show (2 : Int) = 1 + 1 from rfl, sumF_s (by decide), show (1 : Int) = 0 + 1 from rfl, sumF_s (by decide), sumF_0]
        have := hz.1
        have := hz.2
        show (0 : Int) + lsC n 0 (M_19 (m + 9)) + lsC n 1 (M_19 (m + 9)) = 0
        omega
      refine ab_lvs (lv2 := [vP m, vI i, vI y, vI (sumF (fun e => lsC n e (M_19 (m + 9))) 2), vI 2, vU]) (by rw [hi2]) ?_
      refine ab_loop (fun d (y5 : AbV) => AJ K S 27 [vP m, vI i, vI y, vI (sumF (fun e => lsC n e (M_19 (m + 9))) d), vI d, y5] [] M_19) (fun d _ => 2 ≤ d ∧ 0 ≤ sumF (fun e => lsC n e (M_19 (m + 9))) d ∧ sumF (fun e => lsC n e (M_19 (m + 9))) d ≤ i) (Lg n + 1) ?_ 2 vU (by omega) ⟨by omega, by rw [hi2]; omega, by rw [hi2]; omega⟩
      · intro d y5 hd hI ih
        obtain ⟨d2, hc0, hc1⟩ := hI
        rw [sumF_s (by omega)] at ih
        refine ab_iload C dX9_least_27 rfl ?_
        refine ab_aload_n C dX9_least_29 rfl rfl ?_
        refine gf_RX9_16 C s_t rfl dX9_least_30 ?_
        rw [m_L]
        refine ab_icmp_gt (tgt := 134) C dX9_least_33 rfl (fun h_33 => ?_) (fun h_33 => ?_)
        · skip
          refine ab_iconst C dX9_least_134 (by decide) ?_
          refine ab_iret (st := []) C r dX9_least_135 ?_
          refine ⟨_, rfl, hK, fun _ => ?_, fun z => absurd ⟨by omega, hq⟩ z⟩
          refine LeastR_cg (LS := (fun e => lsF n e (M_19 (m + 9)))) (T := (fun e x => cntF (srh n p (M m 6) (M (m + 4)) (M (m + 5)) e x) (x + 1))) (fun e e0 e1 x x0 x1 => ⟨mod_ls p1 n1 e0 (fun e9 a b => hMd e9 a (by omega)) x0 x1, fun _ => rfl⟩) ?_
          right
          have ed : d = Lg n + 1 := by omega
          subst ed
          exact ⟨hc1, rfl⟩
        · skip
          obtain ⟨e_w, e_b, e_s⟩ := m_w d (by omega) (by omega)
          have hB := sz_B n1 n2 (show 0 ≤ d by omega) (show d ≤ Lg n by omega)
          have hQ := sq_B n1 n2 (show 0 ≤ d by omega) (show d ≤ Lg n by omega)
          refine ab_iconst C dX9_least_36 (by decide) ?_
          refine ab_istore5 (lv := []) C rfl dX9_least_37 ?_
          refine ab_lvs (lv2 := [vP m, vI i, vI y, vI (sumF (fun e => lsC n e (M_19 (m + 9))) d + cntF (lsF n d (M_19 (m + 9))) 0), vI d, vI 0]) (by rw [cntF_0, Int.add_zero]) ?_
          refine ab_loop (fun w (_ : Unit) => AJ K S 39 [vP m, vI i, vI y, vI (sumF (fun e => lsC n e (M_19 (m + 9))) d + cntF (lsF n d (M_19 (m + 9))) w), vI d, vI w] [] M_19) (fun w _ => 0 ≤ w ∧ sumF (fun e => lsC n e (M_19 (m + 9))) d + cntF (lsF n d (M_19 (m + 9))) w ≤ i) (pw n d) ?_ 0 () (by omega) ⟨by omega, by rw [cntF_0]; omega⟩
          · intro w _ hw hI2 ihw
            obtain ⟨w0, hci⟩ := hI2
            have cB := cntF_B (f := lsF n d (M_19 (m + 9))) w0
            rw [cntF_s w0, ← Int.add_assoc] at ihw
            refine ab_iload C dX9_least_39 rfl ?_
            refine ab_aload_n C dX9_least_41 rfl rfl ?_
            refine gf_RX9_19 C s_t rfl dX9_least_42 ?_
            refine ab_iload C dX9_least_45 rfl ?_
            refine ab_iaload C s_t_words (by omega) (by omega) dX9_least_47 ?_
            rw [e_w]
            refine ab_icmp_ge (tgt := 128) C dX9_least_48 rfl (fun h_48 => ?_) (fun h_48 => ?_)
            · skip
              refine ab_iinc4 (lv := []) C rfl dX9_least_128 (by omega) ?_
              refine ab_goto (tgt := 27) C dX9_least_131 rfl ?_
              have ew : w = pw n d := by omega
              subst ew
              exact ih _ (by omega) ⟨by omega, by show (0 : Int) ≤ _ + cntF (lsF n d (M_19 (m + 9))) (pw n d); omega, by show _ + cntF (lsF n d (M_19 (m + 9))) (pw n d) ≤ _; omega⟩
            · skip
              refine ab_aload_n C dX9_least_51 rfl rfl ?_
              refine ab_iload C dX9_least_52 rfl ?_
              refine ab_iload C dX9_least_54 rfl ?_
              refine ab_callV C cl_RX9_175 (m_X9_isLeast B_t A_t (by omega) (by omega) (by omega) (by omega)) (by decide) rfl s_t rfl rfl (Nat.le_of_ble_eq_true rfl) dX9_least_56 (ab_kI (fun r_56 M_56 h_56 => ?_))
              obtain ⟨rfl, rfl⟩ := h_56
              refine ab_if_eq (tgt := 122) C dX9_least_59 rfl (fun h_59 => ?_) (fun h_59 => ?_)
              · skip
                refine ab_iinc5 (lv := []) C rfl dX9_least_122 (by omega) ?_
                refine ab_goto (tgt := 39) C dX9_least_125 rfl ?_
                first
                | (rw [if_pos h_59, Int.add_zero] at ihw; exact ihw () (by omega) ⟨by omega, by omega⟩)
                | (rw [if_neg h_59] at ihw; exact ihw () (by omega) ⟨by omega, by omega⟩)
              · skip
                refine ab_iload_n C dX9_least_62 rfl rfl ?_
                refine ab_iload_n C dX9_least_63 rfl rfl ?_
                refine ab_icmp_ne (tgt := 119) C dX9_least_64 rfl (fun h_64 => ?_) (fun h_64 => ?_)
                · skip
                  refine ab_iinc3 (lv := []) C rfl dX9_least_119 (by omega) ?_
                  refine ab_iinc5 (lv := []) C rfl dX9_least_122 (by omega) ?_
                  refine ab_goto (tgt := 39) C dX9_least_125 rfl ?_
                  first
                  | (rw [if_pos h_59, Int.add_zero] at ihw; exact ihw () (by omega) ⟨by omega, by omega⟩)
                  | (rw [if_neg h_59] at ihw; exact ihw () (by omega) ⟨by omega, by omega⟩)
                · skip
                  refine ab_iload_n C dX9_least_67 rfl rfl ?_
                  refine ab_if_ne (tgt := 76) C dX9_least_68 rfl (fun h_68 => ?_) (fun h_68 => ?_)
                  · skip
                    refine ab_iload_n C dX9_least_76 rfl rfl ?_
                    refine ab_iconst C dX9_least_77 (by decide) ?_
                    refine ab_icmp_ne (tgt := 86) C dX9_least_78 rfl (fun h_78 => ?_) (fun h_78 => ?_)
                    · skip
                      refine ab_aload_n C dX9_least_86 rfl rfl ?_
                      refine gf_RX9_42 C s_t rfl dX9_least_87 ?_
                      refine ab_aload_n C dX9_least_90 rfl rfl ?_
                      refine gf_RX9_26 C s_t rfl dX9_least_91 ?_
                      refine ab_iload C dX9_least_94 rfl ?_
                      refine ab_iaload C s_t_squares (by omega) (by omega) dX9_least_96 ?_
                      rw [e_s]
                      refine ab_iload C dX9_least_97 rfl ?_
                      refine ab_aload_n C dX9_least_99 rfl rfl ?_
                      refine gf_RX9_19 C s_t rfl dX9_least_100 ?_
                      refine ab_iload C dX9_least_103 rfl ?_
                      refine ab_iaload C s_t_words (by omega) (by omega) dX9_least_105 ?_
                      rw [e_w]
                      have hwB := rwq_B n1 n2 (show 0 ≤ d by omega) (show d ≤ Lg n by omega) w0 (show w < pw n d by omega) (show 0 ≤ pw n d - 1 by omega) (show pw n d - 1 < pw n d by omega)
                      refine ab_imul C dX9_least_106 (by omega) ?_
                      refine ab_iadd C dX9_least_107 (by omega) ?_
                      refine ab_aload_n C dX9_least_108 rfl rfl ?_
                      refine gf_RX9_19 C s_t rfl dX9_least_109 ?_
                      refine ab_iload C dX9_least_112 rfl ?_
                      refine ab_iaload C s_t_words (by omega) (by omega) dX9_least_114 ?_
                      rw [e_w]
                      refine ab_callS C cl_RX9_178 (m_X9_termsOf s_t_rows (by omega) (by omega) (by omega) (by omega)) (by decide) rfl rfl (Nat.le_of_ble_eq_true rfl) dX9_least_115 (ab_kI (fun r_115 M_115 h_115 => ?_))
                      obtain ⟨rfl, rfl⟩ := h_115
                      refine ab_iret (st := []) C r dX9_least_118 ?_
                      refine ⟨_, rfl, hK, fun _ => ?_, fun z => absurd ⟨by omega, hq⟩ z⟩
                      refine LeastR_cg (LS := (fun e => lsF n e (M_19 (m + 9)))) (T := (fun e x => cntF (srh n p (M m 6) (M (m + 4)) (M (m + 5)) e x) (x + 1))) (fun e e0 e1 x x0 x1 => ⟨mod_ls p1 n1 e0 (fun e9 a b => hMd e9 a (by omega)) x0 x1, fun _ => rfl⟩) ?_
                      have hlead : ldq n d (M_19 (m + 9)) w ≠ 0 := fun z => h_59 (if_neg (fun z2 => z2.2.1 z))
                      left
                      refine ⟨d, w, by omega, by omega, w0, by omega, h_59, h_64, ?_⟩
                      first
                      | (rw [if_pos h_68])
                      | (rw [if_neg h_68, if_pos h_78])
                      | (rw [if_neg h_68, if_neg h_78, terms_row p1 (hMd d (by omega) (by omega)).1 w0 (by omega) hlead]
                         have s0 := mod_same p1 n1 (show (0 : Int) ≤ d by omega) (fun e e0 e1 => hMd e e0 (by omega))
                         have : cntF (RM n p d (M_19 (m + 8)) (M_19 (m + 9)) w) (w + 1) = cntF (srh n p (M m 6) (M (m + 4)) (M (m + 5)) d w) (w + 1) := cntF_congr (fun x a b => by rw [(s0 w w0 (by omega)).2 x])
                         rw [this])
                    · skip
                      refine ab_iload C dX9_least_81 rfl ?_
                      refine ab_goto (tgt := 118) C dX9_least_83 rfl ?_
                      refine ab_iret (st := []) C r dX9_least_118 ?_
                      refine ⟨_, rfl, hK, fun _ => ?_, fun z => absurd ⟨by omega, hq⟩ z⟩
                      refine LeastR_cg (LS := (fun e => lsF n e (M_19 (m + 9)))) (T := (fun e x => cntF (srh n p (M m 6) (M (m + 4)) (M (m + 5)) e x) (x + 1))) (fun e e0 e1 x x0 x1 => ⟨mod_ls p1 n1 e0 (fun e9 a b => hMd e9 a (by omega)) x0 x1, fun _ => rfl⟩) ?_
                      have hlead : ldq n d (M_19 (m + 9)) w ≠ 0 := fun z => h_59 (if_neg (fun z2 => z2.2.1 z))
                      left
                      refine ⟨d, w, by omega, by omega, w0, by omega, h_59, h_64, ?_⟩
                      first
                      | (rw [if_pos h_68])
                      | (rw [if_neg h_68, if_pos h_78])
                      | (rw [if_neg h_68, if_neg h_78, terms_row p1 (hMd d (by omega) (by omega)).1 w0 (by omega) hlead]
                         have s0 := mod_same p1 n1 (show (0 : Int) ≤ d by omega) (fun e e0 e1 => hMd e e0 (by omega))
                         have : cntF (RM n p d (M_19 (m + 8)) (M_19 (m + 9)) w) (w + 1) = cntF (srh n p (M m 6) (M (m + 4)) (M (m + 5)) d w) (w + 1) := cntF_congr (fun x a b => by rw [(s0 w w0 (by omega)).2 x])
                         rw [this])
                  · skip
                    refine ab_iload C dX9_least_71 rfl ?_
                    refine ab_goto (tgt := 118) C dX9_least_73 rfl ?_
                    refine ab_iret (st := []) C r dX9_least_118 ?_
                    refine ⟨_, rfl, hK, fun _ => ?_, fun z => absurd ⟨by omega, hq⟩ z⟩
                    refine LeastR_cg (LS := (fun e => lsF n e (M_19 (m + 9)))) (T := (fun e x => cntF (srh n p (M m 6) (M (m + 4)) (M (m + 5)) e x) (x + 1))) (fun e e0 e1 x x0 x1 => ⟨mod_ls p1 n1 e0 (fun e9 a b => hMd e9 a (by omega)) x0 x1, fun _ => rfl⟩) ?_
                    have hlead : ldq n d (M_19 (m + 9)) w ≠ 0 := fun z => h_59 (if_neg (fun z2 => z2.2.1 z))
                    left
                    refine ⟨d, w, by omega, by omega, w0, by omega, h_59, h_64, ?_⟩
                    first
                    | (rw [if_pos h_68])
                    | (rw [if_neg h_68, if_pos h_78])
                    | (rw [if_neg h_68, if_neg h_78, terms_row p1 (hMd d (by omega) (by omega)).1 w0 (by omega) hlead]
                       have s0 := mod_same p1 n1 (show (0 : Int) ≤ d by omega) (fun e e0 e1 => hMd e e0 (by omega))
                       have : cntF (RM n p d (M_19 (m + 8)) (M_19 (m + 9)) w) (w + 1) = cntF (srh n p (M m 6) (M (m + 4)) (M (m + 5)) d w) (w + 1) := cntF_congr (fun x a b => by rw [(s0 w w0 (by omega)).2 x])
                       rw [this])
    · skip
      have hq := b01_eq h_13
      refine ab_iconst C dX9_least_16 (by decide) ?_
      refine ab_iret (st := []) C r dX9_least_17 ?_
      refine ⟨_, rfl, KeepM.rf hR, fun z => by omega, fun _ => rfl⟩
set_option maxRecDepth 100000 in
set_option maxHeartbeats 4000000 in
theorem m_X9_other {D : va_G} {cA : Nat → ClassId} {S : List AbS} {M : AbM} {m : Nat} {n p : Int} (B_t : shMo S m) (A_t : MoA M m n p) (hL : LawsM n p M m) (hR : MRd n p M m) {d : Int} : Meth yX9_other cX9_other 2 (some .int) rmX9_other D cA S [vP m, vI d] M (qI fun q M2 => KeepM n p M M2 m ∧ (if (0 ≤ d ∧ d ≤ Lg n) then (if cntF (fun i => M (m + 4) i - 2) (M m 6) = 0 then sNm n p (sNm n p (M m 6) (M (m + 4)) (M (m + 5)) 2) (fun _ => 2) (oNum n p (M m 6) (M (m + 4)) (M (m + 5))) d else -2) else -1) = q) := by
  refine ab_intro (lv := [vP m, vI d]) (by decide +kernel) rfl (Nat.le_of_ble_eq_true rfl) ?_
  intro hO hargs K hKD hKA C r
  have C : Cx K cX9_other RX9 rmX9_other := C
  have i_d : inI d := hargs _ (List.mem_cons_of_mem _ (List.mem_cons_self))
  obtain ⟨s_t, s_t_words, s_t_begins, s_t_squares, s_t_lengths, s_t_numbers, s_t_made, s_t_tape, s_t_rows, s_t_leads, s_t_otherRows, s_t_otherLeads, s_t_row, s_t_equations, s_t_firsts, s_t_sum, s_t_lanes, s_t_sizes, s_t_items⟩ := id B_t
  obtain ⟨⟨n1, n2, hPr⟩, m_n, m_p, m_L, m_w⟩ := id A_t
  obtain ⟨p1, p2, -⟩ := id hPr
  have hLB := Lg_B n
  refine ab_aload_n C dX9_other_0 rfl rfl ?_
  refine ab_iload_n C dX9_other_1 rfl rfl ?_
  refine ab_callV C cl_RX9_156 (m_X9_isLength B_t A_t) (by decide) rfl s_t rfl rfl (Nat.le_of_ble_eq_true rfl) dX9_other_2 (ab_kI (fun r_2 M_2 h_2 => ?_))
  obtain ⟨rfl, rfl⟩ := h_2
  refine ab_if_ne (tgt := 10) C dX9_other_5 rfl (fun h_5 => ?_) (fun h_5 => ?_)
  · skip
    have hq := b01_ne h_5
    refine ab_aload_n C dX9_other_10 rfl rfl ?_
    refine ab_callV C cl_RX9_185 (m_X9_areShort B_t hL.1 hL.2.1) (by decide) rfl s_t rfl rfl (Nat.le_of_ble_eq_true rfl) dX9_other_11 (ab_kI (fun r_11 M_11 h_11 => ?_))
    obtain ⟨rfl, rfl⟩ := h_11
    refine ab_if_ne (tgt := 20) C dX9_other_14 rfl (fun h_14 => ?_) (fun h_14 => ?_)
    · skip
      have hq2 := b01_ne h_14
      refine ab_aload_n C dX9_other_20 rfl rfl ?_
      refine ab_callV C cl_RX9_188 (m_X9_findOther B_t A_t hL hR) (by decide) rfl s_t rfl rfl (Nat.le_of_ble_eq_true rfl) dX9_other_21 (ab_kV (fun M_21 h_21 => ?_))
      obtain ⟨hs1, hm1, h13, h14, hR1⟩ := h_21
      have hMd := (hR1 h13).1
      have hMo := (hR1 h13).2.2 h14
      rw [hm1 6 (by decide) (by decide), hs1 (m + 4) (by simp), hs1 (m + 5) (by simp)] at hMd hMo
      have hK : KeepM n p M M_21 m := KeepM.find hs1 hm1 hR1
      have A_t : MoA M_21 m n p := A_t.of (hm1 0 (by decide) (by decide)) (hm1 1 (by decide) (by decide)) (hm1 2 (by decide) (by decide)) (hs1 _ (by simp)) (hs1 _ (by simp)) (hs1 _ (by simp))
      obtain ⟨-, m_n, m_p, m_L, m_w⟩ := id A_t
      clear hs1 hm1 h13 h14 hR1
      refine ab_aload_n C dX9_other_24 rfl rfl ?_
      refine ab_aload_n C dX9_other_25 rfl rfl ?_
      refine gf_RX9_52 C s_t rfl dX9_other_26 ?_
      refine ab_iload_n C dX9_other_29 rfl rfl ?_
      refine ab_callV C cl_RX9_159 (m_X9_normalIn B_t A_t s_t_otherLeads (by omega) (by omega)) (by decide) rfl s_t rfl rfl (Nat.le_of_ble_eq_true rfl) dX9_other_30 (ab_kI (fun r_30 M_30 h_30 => ?_))
      obtain ⟨rfl, rfl⟩ := h_30
      refine ab_iret (st := []) C r dX9_other_33 ?_
      refine ⟨_, rfl, hK, ?_⟩
      rw [if_pos hq, if_pos hq2]
      exact (cntF_congr (fun w a b => by rw [mod_nl p1 n1 (show (0 : Int) ≤ d by omega) (fun e e0 e1 => hMo e e0 (by omega)) w a b])).symm
    · skip
      have hq2 := b01_eq h_14
      refine ab_bipush C dX9_other_17 (by decide) (by decide +kernel) ?_
      refine ab_iret (st := []) C r dX9_other_19 ?_
      refine ⟨_, rfl, KeepM.rf hR, ?_⟩
      rw [if_pos hq, if_neg hq2]
  · skip
    have hq := b01_eq h_5
    refine ab_iconst C dX9_other_8 (by decide) ?_
    refine ab_iret (st := []) C r dX9_other_9 ?_
    refine ⟨_, rfl, KeepM.rf hR, ?_⟩
    rw [if_neg]
    omega
set_option maxRecDepth 100000 in
set_option maxHeartbeats 4000000 in
theorem m_X9_fit {D : va_G} {cA : Nat → ClassId} {S : List AbS} {M : AbM} {m : Nat} {n p : Int} (B_t : shMo S m) (A_t : MoA M m n p) (hL : LawsM n p M m) (hR : MRd n p M m) : Meth yX9_fit cX9_fit 5 (some .int) rmX9_fit D cA S [vP m] M (qI fun q M2 => KeepM n p M M2 m ∧ (cntF (fun i => M (m + 4) i - 2) (M m 6) = 0 → FitR n (serF (fun d => sNm n p (M m 6) (M (m + 4)) (M (m + 5)) d) (fun d => sNm n p (sNm n p (M m 6) (M (m + 4)) (M (m + 5)) 2) (fun _ => 2) (oNum n p (M m 6) (M (m + 4)) (M (m + 5))) d)) q) ∧ (¬ (cntF (fun i => M (m + 4) i - 2) (M m 6) = 0) → q = -2)) := by
  refine ab_intro (lv := [vP m, vU, vU, vU, vU]) (by decide +kernel) rfl (Nat.le_of_ble_eq_true rfl) ?_
  intro hO hargs K hKD hKA C r
  have C : Cx K cX9_fit RX9 rmX9_fit := C
  obtain ⟨s_t, s_t_words, s_t_begins, s_t_squares, s_t_lengths, s_t_numbers, s_t_made, s_t_tape, s_t_rows, s_t_leads, s_t_otherRows, s_t_otherLeads, s_t_row, s_t_equations, s_t_firsts, s_t_sum, s_t_lanes, s_t_sizes, s_t_items⟩ := id B_t
  obtain ⟨⟨n1, n2, hPr⟩, m_n, m_p, m_L, m_w⟩ := id A_t
  obtain ⟨p1, p2, -⟩ := id hPr
  have hLB := Lg_B n
  refine ab_aload_n C dX9_fit_0 rfl rfl ?_
  refine ab_callV C cl_RX9_185 (m_X9_areShort B_t hL.1 hL.2.1) (by decide) rfl s_t rfl rfl (Nat.le_of_ble_eq_true rfl) dX9_fit_1 (ab_kI (fun r_1 M_1 h_1 => ?_))
  obtain ⟨rfl, rfl⟩ := h_1
  refine ab_if_ne (tgt := 10) C dX9_fit_4 rfl (fun h_4 => ?_) (fun h_4 => ?_)
  · skip
    have hq2 := b01_ne h_4
    refine ab_aload_n C dX9_fit_10 rfl rfl ?_
    refine ab_callV C cl_RX9_188 (m_X9_findOther B_t A_t hL hR) (by decide) rfl s_t rfl rfl (Nat.le_of_ble_eq_true rfl) dX9_fit_11 (ab_kV (fun M_11 h_11 => ?_))
    obtain ⟨hs1, hm1, h13, h14, hR1⟩ := h_11
    have hMd := (hR1 h13).1
    have hMo := (hR1 h13).2.2 h14
    rw [hm1 6 (by decide) (by decide), hs1 (m + 4) (by simp), hs1 (m + 5) (by simp)] at hMd hMo
    have hK : KeepM n p M M_11 m := KeepM.find hs1 hm1 hR1
    have A_t : MoA M_11 m n p := A_t.of (hm1 0 (by decide) (by decide)) (hm1 1 (by decide) (by decide)) (hm1 2 (by decide) (by decide)) (hs1 _ (by simp)) (hs1 _ (by simp)) (hs1 _ (by simp))
    obtain ⟨-, m_n, m_p, m_L, m_w⟩ := id A_t
    clear hs1 hm1 h13 h14 hR1
    refine ab_iconst C dX9_fit_14 (by decide) ?_
    refine ab_istore1 (lv := []) C rfl dX9_fit_15 ?_
    refine ab_loop (fun d (y : AbV × AbV × AbV) => AJ K S 16 [vP m, vI d, y.1, y.2.1, y.2.2] [] M_11) (fun d _ => 1 ≤ d ∧ ∀ e, 1 ≤ e → e < d → serF (fun e => nmC n e (M_11 (m + 9))) (fun e => nmC n e (M_11 (m + 11))) e = 0) (Lg n + 1) ?_ 1 (vU, vU, vU) (by omega) ⟨by omega, fun e a b => by omega⟩
    · intro d y hd hI ih
      obtain ⟨y2, y3, y4⟩ := y
      obtain ⟨d1, hz⟩ := hI
      dsimp only at ih ⊢
      refine ab_iload_n C dX9_fit_16 rfl rfl ?_
      refine ab_aload_n C dX9_fit_17 rfl rfl ?_
      refine gf_RX9_16 C s_t rfl dX9_fit_18 ?_
      rw [m_L]
      refine ab_icmp_gt (tgt := 91) C dX9_fit_21 rfl (fun h_21 => ?_) (fun h_21 => ?_)
      · skip
        refine ab_bipush C dX9_fit_91 (by decide) (by decide +kernel) ?_
        refine ab_iret (st := []) C r dX9_fit_93 ?_
        refine ⟨_, rfl, hK, fun _ => FitR_cg (F := serF (fun e => nmC n e (M_11 (m + 9))) (fun e => nmC n e (M_11 (m + 11)))) (fun e e0 e1 => serF_cg (by omega) (fun e9 a b => ⟨(cntF_congr (fun w a b => by rw [mod_nl p1 n1 (show (0 : Int) ≤ e9 by omega) (fun e e0 e1 => hMd e e0 (by omega)) w a b])), (cntF_congr (fun w a b => by rw [mod_nl p1 n1 (show (0 : Int) ≤ e9 by omega) (fun e e0 e1 => hMo e e0 (by omega)) w a b]))⟩)) (Or.inr ⟨rfl, fun e a b => hz e a (by omega)⟩), fun z => absurd hq2 z⟩
      · skip
        refine ab_iconst C dX9_fit_24 (by decide) ?_
        refine ab_istore2 (lv := []) C rfl dX9_fit_25 ?_
        refine ab_iconst C dX9_fit_26 (by decide) ?_
        refine ab_istore3 (lv := []) C rfl dX9_fit_27 ?_
        refine ab_lvs (lv2 := [vP m, vI d, vI (sumF (fun i => if i % 2 = 0 then nmC n (d - i) (M_11 (m + 9)) * nmC n i (M_11 (m + 11)) else -(nmC n (d - i) (M_11 (m + 9)) * nmC n i (M_11 (m + 11)))) 0), vI 0, y4]) (by rw [sumF_0]) ?_
        refine ab_loop (fun i (y4 : AbV) => AJ K S 28 [vP m, vI d, vI (sumF (fun i => if i % 2 = 0 then nmC n (d - i) (M_11 (m + 9)) * nmC n i (M_11 (m + 11)) else -(nmC n (d - i) (M_11 (m + 9)) * nmC n i (M_11 (m + 11)))) i), vI i, y4] [] M_11) (fun i _ => 0 ≤ i ∧ -60000 * i ≤ sumF (fun i => if i % 2 = 0 then nmC n (d - i) (M_11 (m + 9)) * nmC n i (M_11 (m + 11)) else -(nmC n (d - i) (M_11 (m + 9)) * nmC n i (M_11 (m + 11)))) i ∧ sumF (fun i => if i % 2 = 0 then nmC n (d - i) (M_11 (m + 9)) * nmC n i (M_11 (m + 11)) else -(nmC n (d - i) (M_11 (m + 9)) * nmC n i (M_11 (m + 11)))) i ≤ 60000 * i) (d + 1) ?_ 0 y4 (by omega) ⟨by omega, by rw [sumF_0]; omega, by rw [sumF_0]; omega⟩
        · intro i y4 hi hI2 ihi
          obtain ⟨i0, ha, hb⟩ := hI2
          rw [sumF_s i0] at ihi
          refine ab_iload_n C dX9_fit_28 rfl rfl ?_
          refine ab_iload_n C dX9_fit_29 rfl rfl ?_
          refine ab_icmp_gt (tgt := 79) C dX9_fit_30 rfl (fun h_30 => ?_) (fun h_30 => ?_)
          · skip
            refine ab_iload_n C dX9_fit_79 rfl rfl ?_
            refine ab_if_eq (tgt := 85) C dX9_fit_80 rfl (fun h_80 => ?_) (fun h_80 => ?_)
            · skip
              refine ab_iinc1 (lv := []) C rfl dX9_fit_85 (by omega) ?_
              refine ab_goto (tgt := 16) C dX9_fit_88 rfl ?_
              have ei : i = d + 1 := by omega
              subst ei
              refine ih (_, _, _) (by omega) ⟨by omega, fun e a b => ?_⟩
              rcases (show e < d ∨ e = d by omega) with q | q
              · exact hz e a q
              · rw [q]; exact h_80
            · skip
              refine ab_iload_n C dX9_fit_83 rfl rfl ?_
              refine ab_iret (st := []) C r dX9_fit_84 ?_
              have ei : i = d + 1 := by omega
              subst ei
              refine ⟨_, rfl, hK, fun _ => FitR_cg (F := serF (fun e => nmC n e (M_11 (m + 9))) (fun e => nmC n e (M_11 (m + 11)))) (fun e e0 e1 => serF_cg (by omega) (fun e9 a b => ⟨(cntF_congr (fun w a b => by rw [mod_nl p1 n1 (show (0 : Int) ≤ e9 by omega) (fun e e0 e1 => hMd e e0 (by omega)) w a b])), (cntF_congr (fun w a b => by rw [mod_nl p1 n1 (show (0 : Int) ≤ e9 by omega) (fun e e0 e1 => hMo e e0 (by omega)) w a b]))⟩)) (Or.inl ⟨d1, by omega, h_80, hz⟩), fun z => absurd hq2 z⟩
          · skip
            refine ab_aload_n C dX9_fit_33 rfl rfl ?_
            refine ab_aload_n C dX9_fit_34 rfl rfl ?_
            refine gf_RX9_45 C s_t rfl dX9_fit_35 ?_
            refine ab_iload_n C dX9_fit_38 rfl rfl ?_
            refine ab_iload_n C dX9_fit_39 rfl rfl ?_
            refine ab_isub C dX9_fit_40 (by omega) ?_
            refine ab_callV C cl_RX9_159 (m_X9_normalIn B_t A_t s_t_leads (by omega) (by omega)) (by decide) rfl s_t rfl rfl (Nat.le_of_ble_eq_true rfl) dX9_fit_41 (ab_kI (fun r_41 M_41 h_41 => ?_))
            obtain ⟨rfl, rfl⟩ := h_41
            refine ab_aload_n C dX9_fit_44 rfl rfl ?_
            refine ab_aload_n C dX9_fit_45 rfl rfl ?_
            refine gf_RX9_52 C s_t rfl dX9_fit_46 ?_
            refine ab_iload_n C dX9_fit_49 rfl rfl ?_
            refine ab_callV C cl_RX9_159 (m_X9_normalIn B_t A_t s_t_otherLeads (by omega) (by omega)) (by decide) rfl s_t rfl rfl (Nat.le_of_ble_eq_true rfl) dX9_fit_50 (ab_kI (fun r_50 M_50 h_50 => ?_))
            obtain ⟨rfl, rfl⟩ := h_50
            have b1 := cntF_B (f := nlF n (d - i) (M_11 (m + 9))) (N := pw n (d - i)) (by have := pw_pos (d := d - i) n1; omega)
            have b2 := cntF_B (f := nlF n i (M_11 (m + 11))) (N := pw n i) (by have := pw_pos (d := i) n1; omega)
            have hB1 := sz_B n1 n2 (show 0 ≤ d - i by omega) (show d - i ≤ Lg n by omega)
            have hB2 := sz_B n1 n2 (show 0 ≤ i by omega) (show i ≤ Lg n by omega)
            obtain ⟨N9, hN9⟩ : ∃ N9, nmC n (d - i) (M_11 (m + 9)) = N9 := ⟨_, rfl⟩
            obtain ⟨O9, hO9⟩ : ∃ O9, nmC n i (M_11 (m + 11)) = O9 := ⟨_, rfl⟩
            have b1 : 0 ≤ N9 ∧ N9 ≤ 243 := by
              rw [← hN9]
              show 0 ≤ cntF (nlF n (d - i) (M_11 (m + 9))) (pw n (d - i)) ∧ cntF (nlF n (d - i) (M_11 (m + 9))) (pw n (d - i)) ≤ 243
              omega
            have b2 : 0 ≤ O9 ∧ O9 ≤ 243 := by
              rw [← hO9]
              show 0 ≤ cntF (nlF n i (M_11 (m + 11))) (pw n i) ∧ cntF (nlF n i (M_11 (m + 11))) (pw n i) ≤ 243
              omega
            rw [hN9, hO9] at ihi ⊢
            have hm : 0 ≤ N9 * O9 ∧ N9 * O9 ≤ 243 * 243 := ⟨Int.mul_nonneg b1.1 b2.1, Int.mul_le_mul b1.2 b2.2 b2.1 (by omega)⟩
            refine ab_imul C dX9_fit_53 (by omega) ?_
            refine ab_istore4 (lv := []) C rfl dX9_fit_54 ?_
            refine ab_iload_n C dX9_fit_56 rfl rfl ?_
            refine ab_iload_n C dX9_fit_57 rfl rfl ?_
            refine ab_iconst C dX9_fit_58 (by decide) ?_
            refine ab_irem C dX9_fit_59 (by omega) (by omega) ?_
            refine ab_if_ne (tgt := 68) C dX9_fit_60 rfl (fun h_60 => ?_) (fun h_60 => ?_)
            · skip
              refine ab_iload C dX9_fit_68 rfl ?_
              refine ab_ineg C dX9_fit_70 (by omega) ?_
              refine ab_iadd C dX9_fit_71 (by omega) ?_
              refine ab_istore2 (lv := []) C rfl dX9_fit_72 ?_
              refine ab_iinc3 (lv := []) C rfl dX9_fit_73 (by omega) ?_
              refine ab_goto (tgt := 28) C dX9_fit_76 rfl ?_
              first
              | (rw [if_pos h_60] at ihi; exact ihi _ (by omega) ⟨by omega, by omega, by omega⟩)
              | (rw [if_neg h_60] at ihi; exact ihi _ (by omega) ⟨by omega, by omega, by omega⟩)
            · skip
              refine ab_iload C dX9_fit_63 rfl ?_
              refine ab_goto (tgt := 71) C dX9_fit_65 rfl ?_
              refine ab_iadd C dX9_fit_71 (by omega) ?_
              refine ab_istore2 (lv := []) C rfl dX9_fit_72 ?_
              refine ab_iinc3 (lv := []) C rfl dX9_fit_73 (by omega) ?_
              refine ab_goto (tgt := 28) C dX9_fit_76 rfl ?_
              first
              | (rw [if_pos h_60] at ihi; exact ihi _ (by omega) ⟨by omega, by omega, by omega⟩)
              | (rw [if_neg h_60] at ihi; exact ihi _ (by omega) ⟨by omega, by omega, by omega⟩)
  · skip
    have hq2 := b01_eq h_4
    refine ab_bipush C dX9_fit_7 (by decide) (by decide +kernel) ?_
    refine ab_iret (st := []) C r dX9_fit_9 ?_
    exact ⟨_, rfl, KeepM.rf hR, fun z => absurd z hq2, fun _ => rfl⟩
set_option maxRecDepth 100000 in
set_option maxHeartbeats 4000000 in
theorem m_X9_count {D : va_G} {cA : Nat → ClassId} {S : List AbS} {M : AbM} {m : Nat} {n p : Int} (B_t : shMo S m) (A_t : MoA M m n p) (hL : LawsM n p M m) (hR : MRd n p M m) {h : Int} : Meth yX9_count cX9_count 2 (some .int) rmX9_count D cA S [vP m, vI h] M (qI fun q M2 => KeepM n p M M2 m ∧ (if h = 0 then n else if h = 1 then p else if h = 2 then Lg n else if h = 3 then M m 6 else if h = 4 then sumF (sLs n p (M m 6) (M (m + 4)) (M (m + 5))) (Lg n + 1) else if h = 5 then cntF (M (m + 15)) 400 else -1) = q) := by
  refine ab_intro (lv := [vP m, vI h]) (by decide +kernel) rfl (Nat.le_of_ble_eq_true rfl) ?_
  intro hO hargs K hKD hKA C r
  have C : Cx K cX9_count RX9 rmX9_count := C
  have i_h : inI h := hargs _ (List.mem_cons_of_mem _ (List.mem_cons_self))
  obtain ⟨s_t, s_t_words, s_t_begins, s_t_squares, s_t_lengths, s_t_numbers, s_t_made, s_t_tape, s_t_rows, s_t_leads, s_t_otherRows, s_t_otherLeads, s_t_row, s_t_equations, s_t_firsts, s_t_sum, s_t_lanes, s_t_sizes, s_t_items⟩ := id B_t
  obtain ⟨⟨n1, n2, hPr⟩, m_n, m_p, m_L, m_w⟩ := id A_t
  obtain ⟨p1, p2, -⟩ := id hPr
  have hLB := Lg_B n
  refine ab_iload_n C dX9_count_0 rfl rfl ?_
  by_cases h_1 : 0 ≤ h ∧ h ≤ 5
  · have h_1b : h = 0 ∨ h = 1 ∨ h = 2 ∨ h = 3 ∨ h = 4 ∨ h = 5 := by omega
    rcases h_1b with h_1b | h_1b | h_1b | h_1b | h_1b | h_1b
    · refine ab_tableIn (off := 39) (tgt := 40) C dX9_count_1 (by omega) (by omega) (by rw [h_1b]; rfl) rfl ?_
      refine ab_aload_n C dX9_count_40 rfl rfl ?_
      refine gf_RX9_7 C s_t rfl dX9_count_41 ?_
      refine ab_iret (st := []) C r dX9_count_44 ?_
      refine ⟨_, rfl, KeepM.rf hR, ?_⟩
      rw [h_1b]
      first | exact m_n.symm | exact m_p.symm | exact m_L.symm | rfl
    · refine ab_tableIn (off := 44) (tgt := 45) C dX9_count_1 (by omega) (by omega) (by rw [h_1b]; rfl) rfl ?_
      refine ab_aload_n C dX9_count_45 rfl rfl ?_
      refine gf_RX9_13 C s_t rfl dX9_count_46 ?_
      refine ab_iret (st := []) C r dX9_count_49 ?_
      refine ⟨_, rfl, KeepM.rf hR, ?_⟩
      rw [h_1b]
      first | exact m_n.symm | exact m_p.symm | exact m_L.symm | rfl
    · refine ab_tableIn (off := 49) (tgt := 50) C dX9_count_1 (by omega) (by omega) (by rw [h_1b]; rfl) rfl ?_
      refine ab_aload_n C dX9_count_50 rfl rfl ?_
      refine gf_RX9_16 C s_t rfl dX9_count_51 ?_
      refine ab_iret (st := []) C r dX9_count_54 ?_
      refine ⟨_, rfl, KeepM.rf hR, ?_⟩
      rw [h_1b]
      first | exact m_n.symm | exact m_p.symm | exact m_L.symm | rfl
    · refine ab_tableIn (off := 54) (tgt := 55) C dX9_count_1 (by omega) (by omega) (by rw [h_1b]; rfl) rfl ?_
      refine ab_aload_n C dX9_count_55 rfl rfl ?_
      refine gf_RX9_79 C s_t rfl dX9_count_56 ?_
      refine ab_iret (st := []) C r dX9_count_59 ?_
      refine ⟨_, rfl, KeepM.rf hR, ?_⟩
      rw [h_1b]
      first | exact m_n.symm | exact m_p.symm | exact m_L.symm | rfl
    · refine ab_tableIn (off := 59) (tgt := 60) C dX9_count_1 (by omega) (by omega) (by rw [h_1b]; rfl) rfl ?_
      refine ab_aload_n C dX9_count_60 rfl rfl ?_
      refine ab_callV C cl_RX9_153 (m_X9_find B_t A_t hL hR) (by decide) rfl s_t rfl rfl (Nat.le_of_ble_eq_true rfl) dX9_count_61 (ab_kV (fun M_61 h_61 => ?_))
      obtain ⟨hs1, hm1, h13, hR1⟩ := h_61
      have hMd := (hR1 h13).1
      rw [hm1 6 (by decide) (by decide), hs1 (m + 4) (by simp), hs1 (m + 5) (by simp)] at hMd
      have hK : KeepM n p M M_61 m := KeepM.find hs1 hm1 hR1
      have A_t : MoA M_61 m n p := A_t.of (hm1 0 (by decide) (by decide)) (hm1 1 (by decide) (by decide)) (hm1 2 (by decide) (by decide)) (hs1 _ (by simp)) (hs1 _ (by simp)) (hs1 _ (by simp))
      obtain ⟨-, m_n, m_p, m_L, m_w⟩ := id A_t
      clear hs1 hm1 h13 hR1
      have hz := ls01 p1 n1 hMd (fun i a b => (hL.2.2 i a b).1)
      refine ab_aload_n C dX9_count_64 rfl rfl ?_
      refine ab_callV C cl_RX9_191 (m_X9_leastMany B_t A_t hz) (by decide) rfl s_t rfl rfl (Nat.le_of_ble_eq_true rfl) dX9_count_65 (ab_kI (fun r_65 M_65 h_65 => ?_))
      obtain ⟨rfl, rfl⟩ := h_65
      refine ab_iret (st := []) C r dX9_count_68 ?_
      refine ⟨_, rfl, hK, ?_⟩
      rw [h_1b]
      show sumF (sLs n p (M m 6) (M (m + 4)) (M (m + 5))) (Lg n + 1) = _
      refine sumF_congr (fun e e0 e1 => ?_)
      unfold sLs lsC
      exact (cntF_congr (fun w a b => by rw [mod_ls p1 n1 e0 (fun e9 a b => hMd e9 a (by omega)) a b])).symm
    · refine ab_tableIn (off := 68) (tgt := 69) C dX9_count_1 (by omega) (by omega) (by rw [h_1b]; rfl) rfl ?_
      refine ab_aload_n C dX9_count_69 rfl rfl ?_
      refine gf_RX9_64 C s_t rfl dX9_count_70 ?_
      refine ab_iconst C dX9_count_73 (by decide) ?_
      refine ab_sipush C dX9_count_74 (by decide) (by decide +kernel) ?_
      refine ab_callS C cl_RX9_178 (m_X9_termsOf s_t_sum (by omega) (by omega) (by omega) (by omega)) (by decide) rfl rfl (Nat.le_of_ble_eq_true rfl) dX9_count_77 (ab_kI (fun r_77 M_77 h_77 => ?_))
      obtain ⟨rfl, rfl⟩ := h_77
      refine ab_iret (st := []) C r dX9_count_80 ?_
      refine ⟨_, rfl, KeepM.rf hR, ?_⟩
      rw [h_1b]
      show cntF (M (m + 15)) 400 = _
      exact (cntF_congr (fun x a b => by rw [Int.zero_add])).symm
  · refine ab_tableOut (tgt := 81) C dX9_count_1 (by omega) rfl ?_
    refine ab_iconst C dX9_count_81 (by decide) ?_
    refine ab_iret (st := []) C r dX9_count_82 ?_
    refine ⟨_, rfl, KeepM.rf hR, ?_⟩
    rw [if_neg (by omega), if_neg (by omega), if_neg (by omega), if_neg (by omega), if_neg (by omega), if_neg (by omega)]
