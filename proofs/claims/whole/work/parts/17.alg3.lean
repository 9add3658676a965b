set_option maxRecDepth 100000 in
set_option maxHeartbeats 4000000 in
theorem m_X0_replaceLead {D : va_G} {cA : Nat → ClassId} {S : List AbS} {M : AbM} {b a g : Nat} {n p : Int} (B_t : shAg S b a g) (A_t_alphabet : Al M a n p) (hba : a + 3 < b) (hbg : g + 2 < b) {d w k : Int} (h0 : 0 ≤ d) (h1 : d ≤ Lg n) (k0 : 0 ≤ k) (k1 : k < w) (w1 : w < pw n d) (hR : ldq n d (M (b + 2)) w ≠ 0 → ∀ v, 0 ≤ v → v ≤ w → 0 ≤ fmq n d (M (b + 1)) w v ∧ fmq n d (M (b + 1)) w v < p) (hG : ∀ v, 0 ≤ v → v < k → 0 ≤ M (b + 6) v ∧ M (b + 6) v < p) : Meth yX0_replaceLead cX0_replaceLead 7 none rmX0_replaceLead D cA S [vP b, vI d, vI w, vI k] M (qV fun M2 => ∃ F, M2 = upA M (b + 1) F ∧ (∀ w2 v, 0 ≤ v → v ≤ w2 → fmq n d F w2 v = if w2 = w ∧ ldq n d (M (b + 2)) w ≠ 0 then replF p k (fmq n d (M (b + 1)) w) (M (b + 6)) v else fmq n d (M (b + 1)) w2 v) ∧ ∀ x, x < fsm n d → F x = M (b + 1) x) := by
  refine ab_intro (lv := [vP b, vI d, vI w, vI k, vU, vU, vU]) (by decide +kernel) rfl (Nat.le_of_ble_eq_true rfl) ?_
  intro hO hargs K hKD hKA C r
  have C : Cx K cX0_replaceLead RX0 rmX0_replaceLead := C
  have i_d : inI d := hargs _ (List.mem_cons_of_mem _ (List.mem_cons_self))
  have i_w : inI w := hargs _ (List.mem_cons_of_mem _ (List.mem_cons_of_mem _ (List.mem_cons_self)))
  have i_k : inI k := hargs _ (List.mem_cons_of_mem _ (List.mem_cons_of_mem _ (List.mem_cons_of_mem _ (List.mem_cons_self))))
  obtain ⟨s_t, s_t_forms, s_t_leading, s_t_normals, s_t_leasts, s_t_middles, s_t_form, B_t_alphabet, B_t_lawList⟩ := id B_t
  obtain ⟨s_t_alphabet, -⟩ := id B_t_alphabet
  obtain ⟨s_t_lawList, -⟩ := id B_t_lawList
  obtain ⟨⟨n1, n2, hPr⟩, -⟩ := id A_t_alphabet
  obtain ⟨p1, p2, -⟩ := id hPr
  have hLB := Lg_B n
  have hB := sz_B n1 n2 h0 h1
  have htri := tri_lt (show 0 ≤ w by omega) w1
  have htn := tri_nn (show 0 ≤ w by omega)
  have w0 : 0 ≤ w := by omega
  have ek : M (b + 1) ((fsm n d + w * (w + 1) / 2) + k) = fmq n d (M (b + 1)) w k := rfl
  refine ab_aload_n C dX0_replaceLead_0 rfl rfl ?_
  refine gf_RX0_16 C s_t rfl dX0_replaceLead_1 ?_
  refine ab_aload_n C dX0_replaceLead_4 rfl rfl ?_
  refine gf_RX0_36 C s_t rfl dX0_replaceLead_5 ?_
  refine ab_iload_n C dX0_replaceLead_8 rfl rfl ?_
  refine ab_iload_n C dX0_replaceLead_9 rfl rfl ?_
  refine ab_callV C cl_RX0_54 (m_X1_placeOf B_t_alphabet A_t_alphabet (by omega) (by omega) (by omega) (by omega)) (by decide) rfl s_t_alphabet rfl rfl (Nat.le_of_ble_eq_true rfl) dX0_replaceLead_10 (ab_kI (fun r_10 M_10 h_10 => ?_))
  obtain ⟨rfl, rfl⟩ := h_10
  refine ab_baload C s_t_leading (by omega) (by omega) dX0_replaceLead_13 ?_
  refine ab_if_ne (tgt := 18) C dX0_replaceLead_14 rfl (fun h_14 => ?_) (fun h_14 => ?_)
  · skip
    have hl : ldq n d (M (b + 2)) w ≠ 0 := h_14
    have hr := hR hl
    refine ab_aload_n C dX0_replaceLead_18 rfl rfl ?_
    refine gf_RX0_36 C s_t rfl dX0_replaceLead_19 ?_
    refine ab_iload_n C dX0_replaceLead_22 rfl rfl ?_
    refine ab_iload_n C dX0_replaceLead_23 rfl rfl ?_
    refine ab_callV C cl_RX0_106 (m_X1_formAt B_t_alphabet A_t_alphabet (by omega) (by omega) (by omega) (by omega)) (by decide) rfl s_t_alphabet rfl rfl (Nat.le_of_ble_eq_true rfl) dX0_replaceLead_24 (ab_kI (fun r_24 M_24 h_24 => ?_))
    obtain ⟨rfl, rfl⟩ := h_24
    refine ab_istore4 (lv := []) C rfl dX0_replaceLead_27 ?_
    refine ab_aload_n C dX0_replaceLead_29 rfl rfl ?_
    refine gf_RX0_10 C s_t rfl dX0_replaceLead_30 ?_
    refine ab_iload C dX0_replaceLead_33 rfl ?_
    refine ab_iload_n C dX0_replaceLead_35 rfl rfl ?_
    refine ab_iadd C dX0_replaceLead_36 (by omega) ?_
    refine ab_iaload C s_t_forms (by omega) (by omega) dX0_replaceLead_37 ?_
    refine ab_istore5 (lv := []) C rfl dX0_replaceLead_38 ?_
    rw [ek]
    refine ab_iload C dX0_replaceLead_40 rfl ?_
    refine ab_if_ne (tgt := 46) C dX0_replaceLead_42 rfl (fun h_42 => ?_) (fun h_42 => ?_)
    · skip
      refine ab_aload_n C dX0_replaceLead_46 rfl rfl ?_
      refine gf_RX0_10 C s_t rfl dX0_replaceLead_47 ?_
      refine ab_iload C dX0_replaceLead_50 rfl ?_
      refine ab_iload_n C dX0_replaceLead_52 rfl rfl ?_
      refine ab_iadd C dX0_replaceLead_53 (by omega) ?_
      refine ab_iconst C dX0_replaceLead_54 (by decide) ?_
      refine ab_iastore C s_t_forms (by omega) (by omega) dX0_replaceLead_55 ?_
      refine ab_iconst C dX0_replaceLead_56 (by decide) ?_
      refine ab_istore6 (lv := []) C rfl dX0_replaceLead_57 ?_
      refine ab_mem (M2 := upA M (b + 1) (fun x => if x = (fsm n d + w * (w + 1) / 2) + k then 0 else if (fsm n d + w * (w + 1) / 2) ≤ x ∧ x < (fsm n d + w * (w + 1) / 2) + 0 then (M (b + 1) x + fmq n d (M (b + 1)) w k * M (b + 6) (x - (fsm n d + w * (w + 1) / 2))) % p else M (b + 1) x)) (by rw [up_eq_upA]; exact upA_ext (fun x => by by_cases q : x = (fsm n d + w * (w + 1) / 2) + k <;> simp [q] <;> (intro z1 z2; omega))) ?_
      refine ab_loop (fun i (_ : Unit) => AJ K S 59 [vP b, vI d, vI w, vI k, vI (fsm n d + w * (w + 1) / 2), vI (fmq n d (M (b + 1)) w k), vI i] [] (upA M (b + 1) (fun x => if x = (fsm n d + w * (w + 1) / 2) + k then 0 else if (fsm n d + w * (w + 1) / 2) ≤ x ∧ x < (fsm n d + w * (w + 1) / 2) + i then (M (b + 1) x + fmq n d (M (b + 1)) w k * M (b + 6) (x - (fsm n d + w * (w + 1) / 2))) % p else M (b + 1) x))) (fun i _ => 0 ≤ i) k ?_ 0 () (by omega) (by omega)
      · intro i _ hi i0 ih
        have A_t_alphabet := A_t_alphabet.upA (k := b + 1) (f := (fun x => if x = (fsm n d + w * (w + 1) / 2) + k then 0 else if (fsm n d + w * (w + 1) / 2) ≤ x ∧ x < (fsm n d + w * (w + 1) / 2) + i then (M (b + 1) x + fmq n d (M (b + 1)) w k * M (b + 6) (x - (fsm n d + w * (w + 1) / 2))) % p else M (b + 1) x)) (by omega)
        have e6 : upA M (b + 1) (fun x => if x = (fsm n d + w * (w + 1) / 2) + k then 0 else if (fsm n d + w * (w + 1) / 2) ≤ x ∧ x < (fsm n d + w * (w + 1) / 2) + i then (M (b + 1) x + fmq n d (M (b + 1)) w k * M (b + 6) (x - (fsm n d + w * (w + 1) / 2))) % p else M (b + 1) x) (b + 6) i = M (b + 6) i := upA_k (by omega)
        refine ab_iload C dX0_replaceLead_59 rfl ?_
        refine ab_iload_n C dX0_replaceLead_61 rfl rfl ?_
        refine ab_icmp_ge (tgt := 122) C dX0_replaceLead_62 rfl (fun h_62 => ?_) (fun h_62 => ?_)
        · skip
          refine ab_vret (st := []) C r dX0_replaceLead_122 ?_
          have e9 : i = k := by omega
          subst e9
          refine ⟨rfl, _, rfl, fun w2 v a c => ?_, fun x hx => ?_⟩
          · by_cases q : w2 = w
            · subst q
              rw [if_pos ⟨rfl, hl⟩]
              unfold fmq replF
              dsimp only
              by_cases z : v = i
              · subst z
                rw [if_pos rfl, if_pos rfl]
              · rw [if_neg (by omega), if_neg z]
                by_cases z2 : v < i
                · rw [if_pos (by omega), if_pos z2, show fsm n d + w2 * (w2 + 1) / 2 + v - (fsm n d + w2 * (w2 + 1) / 2) = v by omega]
                · rw [if_neg (by omega), if_neg z2]
            · rw [if_neg (fun z => q z.1)]
              have t1 := tri_in a c k0 (show i ≤ w by omega) q
              unfold fmq
              dsimp only
              rw [if_neg (by omega), if_neg]
              intro z
              have t2 := tri_in a c (show 0 ≤ w2 * (w2 + 1) / 2 + v - w * (w + 1) / 2 by omega) (show w2 * (w2 + 1) / 2 + v - w * (w + 1) / 2 ≤ w by omega) q
              omega
          · show (if _ then _ else _) = _
            rw [if_neg (by omega), if_neg (by omega)]
        · skip
          refine ab_aload_n C dX0_replaceLead_65 rfl rfl ?_
          refine gf_RX0_29 C s_t rfl dX0_replaceLead_66 ?_
          refine ab_iload C dX0_replaceLead_69 rfl ?_
          refine ab_iaload C s_t_form (by omega) (by omega) dX0_replaceLead_71 ?_
          refine ab_if_eq (tgt := 116) C dX0_replaceLead_72 rfl (fun h_72 => ?_) (fun h_72 => ?_)
          · skip
            refine ab_iinc6 (lv := []) C rfl dX0_replaceLead_116 (by omega) ?_
            refine ab_goto (tgt := 59) C dX0_replaceLead_119 rfl ?_
            refine ab_mem (M2 := upA M (b + 1) (fun x => if x = (fsm n d + w * (w + 1) / 2) + k then 0 else if (fsm n d + w * (w + 1) / 2) ≤ x ∧ x < (fsm n d + w * (w + 1) / 2) + (i + 1) then (M (b + 1) x + fmq n d (M (b + 1)) w k * M (b + 6) (x - (fsm n d + w * (w + 1) / 2))) % p else M (b + 1) x)) ?_ (ih () (by omega) (by omega))
            (try rw [up_upA])
            exact upA_ext (fun x => by
              by_cases q1 : x = (fsm n d + w * (w + 1) / 2) + i
              · subst q1
                first
                | rw [if_pos rfl, if_neg (by omega), if_pos (by omega), show (fsm n d + w * (w + 1) / 2) + i - (fsm n d + w * (w + 1) / 2) = i by omega, ei]
                | (rw [e6] at h_72
                   have hi1 := hr i i0 (by omega)
                   rw [if_neg (by omega), if_neg (by omega), if_neg (by omega), if_pos (by omega), show (fsm n d + w * (w + 1) / 2) + i - (fsm n d + w * (w + 1) / 2) = i by omega, h_72, Int.mul_zero, Int.add_zero]
                   exact (emod_id hi1.1 hi1.2).symm)
              · (try rw [if_neg q1])
                by_cases q0 : x = (fsm n d + w * (w + 1) / 2) + k
                · rw [if_pos q0, if_pos q0]
                · rw [if_neg q0, if_neg q0]
                  by_cases q2 : (fsm n d + w * (w + 1) / 2) ≤ x ∧ x < (fsm n d + w * (w + 1) / 2) + i
                  · rw [if_pos q2, if_pos (by omega)]
                  · rw [if_neg q2, if_neg (by omega)])
          · skip
            refine ab_aload_n C dX0_replaceLead_75 rfl rfl ?_
            refine gf_RX0_10 C s_t rfl dX0_replaceLead_76 ?_
            refine ab_iload C dX0_replaceLead_79 rfl ?_
            refine ab_iload C dX0_replaceLead_81 rfl ?_
            refine ab_iadd C dX0_replaceLead_83 (by omega) ?_
            refine ab_aload_n C dX0_replaceLead_84 rfl rfl ?_
            refine gf_RX0_36 C s_t rfl dX0_replaceLead_85 ?_
            refine ab_aload_n C dX0_replaceLead_88 rfl rfl ?_
            refine gf_RX0_10 C s_t rfl dX0_replaceLead_89 ?_
            refine ab_iload C dX0_replaceLead_92 rfl ?_
            refine ab_iload C dX0_replaceLead_94 rfl ?_
            refine ab_iadd C dX0_replaceLead_96 (by omega) ?_
            refine ab_iaload C s_t_forms (by omega) (by omega) dX0_replaceLead_97 ?_
            rw [upA_s, if_neg (show ¬ ((fsm n d + w * (w + 1) / 2) + i = (fsm n d + w * (w + 1) / 2) + k) by omega), if_neg (show ¬ ((fsm n d + w * (w + 1) / 2) ≤ (fsm n d + w * (w + 1) / 2) + i ∧ (fsm n d + w * (w + 1) / 2) + i < (fsm n d + w * (w + 1) / 2) + i) by omega)]
            refine ab_i2l C dX0_replaceLead_98 ?_
            refine ab_iload C dX0_replaceLead_99 rfl ?_
            refine ab_i2l C dX0_replaceLead_101 ?_
            refine ab_aload_n C dX0_replaceLead_102 rfl rfl ?_
            refine gf_RX0_29 C s_t rfl dX0_replaceLead_103 ?_
            refine ab_iload C dX0_replaceLead_106 rfl ?_
            refine ab_iaload C s_t_form (by omega) (by omega) dX0_replaceLead_108 ?_
            rw [upA_k (show b + 6 ≠ b + 1 by omega)]
            have hg := hG i i0 (by omega)
            have hi1 := hr i i0 (by omega)
            have hk1 := hr k k0 (by omega)
            have ei : M (b + 1) ((fsm n d + w * (w + 1) / 2) + i) = fmq n d (M (b + 1)) w i := rfl
            rw [ei]
            have hm : 0 ≤ fmq n d (M (b + 1)) w k * M (b + 6) i ∧ fmq n d (M (b + 1)) w k * M (b + 6) i ≤ 97 * 97 := ⟨Int.mul_nonneg (by omega) (by omega), Int.mul_le_mul (by omega) (by omega) (by omega) (by omega)⟩
            refine ab_i2l C dX0_replaceLead_109 ?_
            refine ab_lmul C dX0_replaceLead_110 (by omega) ?_
            refine ab_ladd C dX0_replaceLead_111 (by omega) ?_
            refine ab_callV C cl_RX0_169 (m_X1_rest B_t_alphabet A_t_alphabet) (by decide) rfl s_t_alphabet rfl rfl (Nat.le_of_ble_eq_true rfl) dX0_replaceLead_112 (ab_kI (fun r_112 M_112 h_112 => ?_))
            obtain ⟨rfl, rfl⟩ := h_112
            refine ab_iastore C s_t_forms (by omega) (by omega) dX0_replaceLead_115 ?_
            refine ab_iinc6 (lv := []) C rfl dX0_replaceLead_116 (by omega) ?_
            refine ab_goto (tgt := 59) C dX0_replaceLead_119 rfl ?_
            refine ab_mem (M2 := upA M (b + 1) (fun x => if x = (fsm n d + w * (w + 1) / 2) + k then 0 else if (fsm n d + w * (w + 1) / 2) ≤ x ∧ x < (fsm n d + w * (w + 1) / 2) + (i + 1) then (M (b + 1) x + fmq n d (M (b + 1)) w k * M (b + 6) (x - (fsm n d + w * (w + 1) / 2))) % p else M (b + 1) x)) ?_ (ih () (by omega) (by omega))
            (try rw [up_upA])
            exact upA_ext (fun x => by
              by_cases q1 : x = (fsm n d + w * (w + 1) / 2) + i
              · subst q1
                first
                | rw [if_pos rfl, if_neg (by omega), if_pos (by omega), show (fsm n d + w * (w + 1) / 2) + i - (fsm n d + w * (w + 1) / 2) = i by omega, ei]
                | (rw [e6] at h_72
                   have hi1 := hr i i0 (by omega)
                   rw [if_neg (by omega), if_neg (by omega), if_neg (by omega), if_pos (by omega), show (fsm n d + w * (w + 1) / 2) + i - (fsm n d + w * (w + 1) / 2) = i by omega, h_72, Int.mul_zero, Int.add_zero]
                   exact (emod_id hi1.1 hi1.2).symm)
              · (try rw [if_neg q1])
                by_cases q0 : x = (fsm n d + w * (w + 1) / 2) + k
                · rw [if_pos q0, if_pos q0]
                · rw [if_neg q0, if_neg q0]
                  by_cases q2 : (fsm n d + w * (w + 1) / 2) ≤ x ∧ x < (fsm n d + w * (w + 1) / 2) + i
                  · rw [if_pos q2, if_pos (by omega)]
                  · rw [if_neg q2, if_neg (by omega)])
    · skip
      refine ab_vret (st := []) C r dX0_replaceLead_45 ?_
      refine ⟨rfl, M (b + 1), (upA_self M (b + 1)).symm, fun w2 v a c => ?_, fun x _ => rfl⟩
      by_cases q : w2 = w ∧ ldq n d (M (b + 2)) w ≠ 0
      · obtain ⟨q1, q2⟩ := q
        subst q1
        rw [if_pos ⟨rfl, q2⟩]
        unfold replF
        by_cases z : v = k
        · rw [if_pos z, z]; exact h_42
        · rw [if_neg z, h_42, Int.zero_mul, Int.add_zero]
          have := hr v a (by omega)
          split
          · exact (emod_id this.1 this.2).symm
          · rfl
      · rw [if_neg q]
  · skip
    have hl : ldq n d (M (b + 2)) w = 0 := h_14
    refine ab_vret (st := []) C r dX0_replaceLead_17 ?_
    refine ⟨rfl, M (b + 1), (upA_self M (b + 1)).symm, fun w2 v a c => ?_, fun x _ => rfl⟩
    rw [if_neg (fun z => z.2 hl)]
set_option maxRecDepth 100000 in
set_option maxHeartbeats 4000000 in
theorem m_X0_takeNought {D : va_G} {cA : Nat → ClassId} {S : List AbS} {M : AbM} {b a g : Nat} {n p : Int} (B_t : shAg S b a g) (A_t_alphabet : Al M a n p) (hba : a + 3 < b) (hbg : g + 2 < b) {d u : Int} (h0 : 0 ≤ d) (h1 : d ≤ Lg n) (u0 : 0 ≤ u) (u1 : u ≤ pw n d) (hG : ∀ v, 0 ≤ v → v < u → 0 ≤ M (b + 6) v ∧ M (b + 6) v < p) (hW : ∀ w, 0 ≤ w → w < u → ldq n d (M (b + 2)) w ≠ 0 → ∀ v, 0 ≤ v → v ≤ w → 0 ≤ fmq n d (M (b + 1)) w v ∧ fmq n d (M (b + 1)) w v < p) : Meth yX0_takeNought cX0_takeNought 6 none rmX0_takeNought D cA S [vP b, vI d, vI u] M (qV fun M2 => ((∀ v, 0 ≤ v → v < u → M (b + 6) v = 0) ∧ M2 = M) ∨ ∃ k F, 0 ≤ k ∧ k < u ∧ M (b + 6) k ≠ 0 ∧ (∀ v, k < v → v < u → M (b + 6) v = 0) ∧ M2 = up (upA (upA M (b + 6) (nrI p k k (M (b + 6)))) (b + 1) F) (b + 2) (wsm n d + k) 1 ∧ (∀ w v, 0 ≤ v → v ≤ w → w < pw n d → fmq n d F w v = newFm n p d k u (M (b + 1)) (M (b + 2)) (M (b + 6)) w v) ∧ ∀ x, x < fsm n d → F x = M (b + 1) x) := by
  refine ab_intro (lv := [vP b, vI d, vI u, vU, vU, vU]) (by decide +kernel) rfl (Nat.le_of_ble_eq_true rfl) ?_
  intro hO hargs K hKD hKA C r
  have C : Cx K cX0_takeNought RX0 rmX0_takeNought := C
  have i_d : inI d := hargs _ (List.mem_cons_of_mem _ (List.mem_cons_self))
  have i_u : inI u := hargs _ (List.mem_cons_of_mem _ (List.mem_cons_of_mem _ (List.mem_cons_self)))
  obtain ⟨s_t, s_t_forms, s_t_leading, s_t_normals, s_t_leasts, s_t_middles, s_t_form, B_t_alphabet, B_t_lawList⟩ := id B_t
  obtain ⟨s_t_alphabet, -⟩ := id B_t_alphabet
  obtain ⟨s_t_lawList, -⟩ := id B_t_lawList
  obtain ⟨⟨n1, n2, hPr⟩, -⟩ := id A_t_alphabet
  obtain ⟨p1, p2, -⟩ := id hPr
  have hLB := Lg_B n
  have hB := sz_B n1 n2 h0 h1
  refine ab_iload_n C dX0_takeNought_0 rfl rfl ?_
  refine ab_iconst C dX0_takeNought_1 (by decide) ?_
  refine ab_isub C dX0_takeNought_2 (by omega) ?_
  refine ab_istore3 (lv := []) C rfl dX0_takeNought_3 ?_
  refine ab_loopM (fun (k : Int) => AJ K S 4 [vP b, vI d, vI u, vI k, vU, vU] [] M) (fun k => -1 ≤ k ∧ k < u ∧ ∀ v, k < v → v < u → M (b + 6) v = 0) (fun k => (k + 1).toNat) ?_ (u - 1) ⟨by omega, by omega, fun v a c => by omega⟩
  · intro k hI ih
    obtain ⟨ka, kb, hz⟩ := hI
    refine ab_iload_n C dX0_takeNought_4 rfl rfl ?_
    refine ab_if_lt (tgt := 23) C dX0_takeNought_5 rfl (fun h_5 => ?_) (fun h_5 => ?_)
    · skip
      refine ab_iload_n C dX0_takeNought_23 rfl rfl ?_
      refine ab_if_ge (tgt := 28) C dX0_takeNought_24 rfl (fun h => absurd h (by omega)) (fun h => ?_)
      refine ab_vret (st := []) C r dX0_takeNought_27 ?_
      exact ⟨rfl, Or.inl ⟨fun v a c => hz v (by omega) c, rfl⟩⟩
    · skip
      refine ab_aload_n C dX0_takeNought_8 rfl rfl ?_
      refine gf_RX0_29 C s_t rfl dX0_takeNought_9 ?_
      refine ab_iload_n C dX0_takeNought_12 rfl rfl ?_
      refine ab_iaload C s_t_form (by omega) (by omega) dX0_takeNought_13 ?_
      refine ab_if_ne (tgt := 23) C dX0_takeNought_14 rfl (fun h_14 => ?_) (fun h_14 => ?_)
      · skip
        refine ab_iload_n C dX0_takeNought_23 rfl rfl ?_
        refine ab_if_ge (tgt := 28) C dX0_takeNought_24 rfl (fun h_24 => ?_) (fun h_24 => ?_)
        · skip
          have k0 : 0 ≤ k := by omega
          have hk1 : k < u := by omega
          have hgk : M (b + 6) k ≠ 0 := h_14
          have hgB := hG k k0 hk1
          obtain ⟨v1, v2, v3⟩ := ivf_ok (v := M (b + 6) k) hPr (by omega) (by omega)
          have htri := tri_lt k0 (show k < pw n d by omega)
          have htn := tri_nn k0
          refine ab_aload_n C dX0_takeNought_28 rfl rfl ?_
          refine gf_RX0_36 C s_t rfl dX0_takeNought_29 ?_
          refine ab_callV C cl_RX0_145 (m_X1_prime B_t_alphabet A_t_alphabet) (by decide) rfl s_t_alphabet rfl rfl (Nat.le_of_ble_eq_true rfl) dX0_takeNought_32 (ab_kI (fun r_32 M_32 h_32 => ?_))
          obtain ⟨rfl, rfl⟩ := h_32
          refine ab_aload_n C dX0_takeNought_35 rfl rfl ?_
          refine gf_RX0_36 C s_t rfl dX0_takeNought_36 ?_
          refine ab_aload_n C dX0_takeNought_39 rfl rfl ?_
          refine gf_RX0_29 C s_t rfl dX0_takeNought_40 ?_
          refine ab_iload_n C dX0_takeNought_43 rfl rfl ?_
          refine ab_iaload C s_t_form (by omega) (by omega) dX0_takeNought_44 ?_
          refine ab_callV C cl_RX0_166 (m_X1_inverse B_t_alphabet A_t_alphabet (by omega) (by omega)) (by decide) rfl s_t_alphabet rfl rfl (Nat.le_of_ble_eq_true rfl) dX0_takeNought_45 (ab_kI (fun r_45 M_45 h_45 => ?_))
          obtain ⟨rfl, rfl⟩ := h_45
          refine ab_isub C dX0_takeNought_48 (by omega) ?_
          refine ab_istore4 (lv := []) C rfl dX0_takeNought_49 ?_
          refine ab_aload_n C dX0_takeNought_51 rfl rfl ?_
          refine gf_RX0_29 C s_t rfl dX0_takeNought_52 ?_
          refine ab_iload_n C dX0_takeNought_55 rfl rfl ?_
          refine ab_iconst C dX0_takeNought_56 (by decide) ?_
          refine ab_iastore C s_t_form (by omega) (by omega) dX0_takeNought_57 ?_
          refine ab_iconst C dX0_takeNought_58 (by decide) ?_
          refine ab_istore5 (lv := []) C rfl dX0_takeNought_59 ?_
          refine ab_mem (M2 := upA M (b + 6) (nrI p k 0 (M (b + 6)))) (by rw [up_eq_upA]; exact upA_ext (fun x => by
            by_cases q : x = k
            · rw [if_pos q, q, nrI_k]
            · rw [if_neg q, nrI_ge q (by omega)])) ?_
          refine ab_loop (fun i (_ : Unit) => AJ K S 61 [vP b, vI d, vI u, vI k, vI (p - ivf p (M (b + 6) k)), vI i] [] (upA M (b + 6) (nrI p k i (M (b + 6))))) (fun i _ => 0 ≤ i) k ?_ 0 () (by omega) (by omega)
          · intro i _ hi i0 ih
            have A_t_alphabet := A_t_alphabet.upA (k := b + 6) (f := (nrI p k i (M (b + 6)))) (by omega)
            have hm : i < k → 0 ≤ M (b + 6) i * (p - ivf p (M (b + 6) k)) ∧ M (b + 6) i * (p - ivf p (M (b + 6) k)) ≤ 97 * 97 := fun z => by
              have := hG i i0 (by omega)
              exact ⟨Int.mul_nonneg (by omega) (by omega), Int.mul_le_mul (by omega) (by omega) (by omega) (by omega)⟩
            refine ab_iload C dX0_takeNought_61 rfl ?_
            refine ab_iload_n C dX0_takeNought_63 rfl rfl ?_
            refine ab_icmp_ge (tgt := 99) C dX0_takeNought_64 rfl (fun h_64 => ?_) (fun h_64 => ?_)
            · skip
              have e9k : k = i := by omega
              subst e9k
              refine ab_aload_n C dX0_takeNought_99 rfl rfl ?_
              refine gf_RX0_29 C s_t rfl dX0_takeNought_100 ?_
              refine ab_iconst C dX0_takeNought_103 (by decide) ?_
              refine ab_aload_n C dX0_takeNought_104 rfl rfl ?_
              refine gf_RX0_10 C s_t rfl dX0_takeNought_105 ?_
              refine ab_aload_n C dX0_takeNought_108 rfl rfl ?_
              refine gf_RX0_36 C s_t rfl dX0_takeNought_109 ?_
              refine ab_iload_n C dX0_takeNought_112 rfl rfl ?_
              refine ab_iload_n C dX0_takeNought_113 rfl rfl ?_
              refine ab_callV C cl_RX0_106 (m_X1_formAt B_t_alphabet A_t_alphabet (by omega) (by omega) (by omega) (by omega)) (by decide) rfl s_t_alphabet rfl rfl (Nat.le_of_ble_eq_true rfl) dX0_takeNought_114 (ab_kI (fun r_114 M_114 h_114 => ?_))
              obtain ⟨rfl, rfl⟩ := h_114
              refine ab_iload_n C dX0_takeNought_117 rfl rfl ?_
              refine ab_iconst C dX0_takeNought_118 (by decide) ?_
              refine ab_iadd C dX0_takeNought_119 (by omega) ?_
              refine ab_copy C gw326 gw719 gw720 gw721 (by decide) (Nat.le_of_ble_eq_true rfl) s_t_form s_t_forms (by omega) (by omega) (by omega) (by omega) (by omega) dX0_takeNought_120 ?_
              refine ab_mem (M2 := upA (upA M (b + 6) (nrI p k k (M (b + 6)))) (b + 1) (cpF (fsm n d + k * (k + 1) / 2) (k + 1) (nrI p k k (M (b + 6))) (M (b + 1)))) (upA_ext (fun j => ?_)) ?_
              · unfold cpF
                rw [upA_s, upA_k (show b + 1 ≠ b + 6 by omega), Int.zero_add]
              have A_t_alphabet := A_t_alphabet.upA (k := b + 1) (f := (cpF (fsm n d + k * (k + 1) / 2) (k + 1) (nrI p k k (M (b + 6))) (M (b + 1)))) (by omega)
              refine ab_aload_n C dX0_takeNought_123 rfl rfl ?_
              refine gf_RX0_16 C s_t rfl dX0_takeNought_124 ?_
              refine ab_aload_n C dX0_takeNought_127 rfl rfl ?_
              refine gf_RX0_36 C s_t rfl dX0_takeNought_128 ?_
              refine ab_iload_n C dX0_takeNought_131 rfl rfl ?_
              refine ab_iload_n C dX0_takeNought_132 rfl rfl ?_
              refine ab_callV C cl_RX0_54 (m_X1_placeOf B_t_alphabet A_t_alphabet (by omega) (by omega) (by omega) (by omega)) (by decide) rfl s_t_alphabet rfl rfl (Nat.le_of_ble_eq_true rfl) dX0_takeNought_133 (ab_kI (fun r_133 M_133 h_133 => ?_))
              obtain ⟨rfl, rfl⟩ := h_133
              refine ab_iconst C dX0_takeNought_136 (by decide) ?_
              refine ab_bastore C s_t_leading (by omega) (by omega) (by omega) dX0_takeNought_137 ?_
              refine ab_iload_n C dX0_takeNought_138 rfl rfl ?_
              refine ab_iconst C dX0_takeNought_139 (by decide) ?_
              refine ab_iadd C dX0_takeNought_140 (by omega) ?_
              refine ab_istore5 (lv := []) C rfl dX0_takeNought_141 ?_
              refine ab_mem (M2 := upA (up (upA (upA M (b + 6) (nrI p k k (M (b + 6)))) (b + 1) (cpF (fsm n d + k * (k + 1) / 2) (k + 1) (nrI p k k (M (b + 6))) (M (b + 1)))) (b + 2) (wsm n d + k) 1) (b + 1) (cpF (fsm n d + k * (k + 1) / 2) (k + 1) (nrI p k k (M (b + 6))) (M (b + 1)))) (upA_id (fun j => by rw [up_k (by omega), upA_s])) ?_
              refine ab_loop (fun i (F : Int → Int) => AJ K S 143 [vP b, vI d, vI u, vI k, vI (p - ivf p (M (b + 6) k)), vI i] [] (upA (up (upA (upA M (b + 6) (nrI p k k (M (b + 6)))) (b + 1) (cpF (fsm n d + k * (k + 1) / 2) (k + 1) (nrI p k k (M (b + 6))) (M (b + 1)))) (b + 2) (wsm n d + k) 1) (b + 1) F)) (fun i F => k < i ∧ (∀ w v, 0 ≤ v → v ≤ w → w < pw n d → fmq n d F w v = newFm n p d k i (M (b + 1)) (M (b + 2)) (M (b + 6)) w v) ∧ ∀ x, x < fsm n d → F x = M (b + 1) x) u ?_ (k + 1) (cpF (fsm n d + k * (k + 1) / 2) (k + 1) (nrI p k k (M (b + 6))) (M (b + 1))) (by omega) ⟨by omega, fun w v a c e => ?_, fun x hx => cpF_out (by omega)⟩
              · intro i F hi hI ih
                obtain ⟨ki, hF, hlo⟩ := hI
                have r1 : upA (up (upA (upA M (b + 6) (nrI p k k (M (b + 6)))) (b + 1) (cpF (fsm n d + k * (k + 1) / 2) (k + 1) (nrI p k k (M (b + 6))) (M (b + 1)))) (b + 2) (wsm n d + k) 1) (b + 1) F (b + 1) = F := by funext x; exact upA_s
                have r2 : ∀ w, k < w → ldq n d (upA (up (upA (upA M (b + 6) (nrI p k k (M (b + 6)))) (b + 1) (cpF (fsm n d + k * (k + 1) / 2) (k + 1) (nrI p k k (M (b + 6))) (M (b + 1)))) (b + 2) (wsm n d + k) 1) (b + 1) F (b + 2)) w = ldq n d (M (b + 2)) w := fun w z => by
                  unfold ldq
                  rw [upA_k (by omega), up_i (by omega), upA_k (by omega), upA_k (by omega)]
                have r6 : upA (up (upA (upA M (b + 6) (nrI p k k (M (b + 6)))) (b + 1) (cpF (fsm n d + k * (k + 1) / 2) (k + 1) (nrI p k k (M (b + 6))) (M (b + 1)))) (b + 2) (wsm n d + k) 1) (b + 1) F (b + 6) = (nrI p k k (M (b + 6))) := by
                  funext x
                  rw [upA_k (by omega), up_k (by omega), upA_k (by omega), upA_s]
                have A_t_alphabet : Al (upA (up (upA (upA M (b + 6) (nrI p k k (M (b + 6)))) (b + 1) (cpF (fsm n d + k * (k + 1) / 2) (k + 1) (nrI p k k (M (b + 6))) (M (b + 1)))) (b + 2) (wsm n d + k) 1) (b + 1) F) a n p := (A_t_alphabet.up (by omega)).upA (by omega)
                refine ab_iload C dX0_takeNought_143 rfl ?_
                refine ab_iload_n C dX0_takeNought_145 rfl rfl ?_
                refine ab_icmp_ge (tgt := 163) C dX0_takeNought_146 rfl (fun h_146 => ?_) (fun h_146 => ?_)
                · skip
                  refine ab_vret (st := []) C r dX0_takeNought_163 ?_
                  have e9 : i = u := by omega
                  subst e9
                  refine ⟨rfl, Or.inr ⟨k, F, k0, hk1, hgk, hz, ?_, hF, hlo⟩⟩
                  rw [upA_up (by omega), upA_upA]
                · skip
                  refine ab_aload_n C dX0_takeNought_149 rfl rfl ?_
                  refine ab_iload_n C dX0_takeNought_150 rfl rfl ?_
                  refine ab_iload C dX0_takeNought_151 rfl ?_
                  refine ab_iload_n C dX0_takeNought_153 rfl rfl ?_
                  refine ab_callV C cl_RX0_173 (m_X0_replaceLead B_t (by assumption) (by omega) (by omega) (by omega) (by omega) (by omega) (by omega) (by omega) (by rw [r1, r2 i (by omega)]; intro hl v a c; rw [hF i v a c (by omega)]; unfold newFm; rw [if_neg (show ¬ i = k by omega), if_neg (fun z => absurd z.2.1 (by omega))]; exact hW i (by omega) (by omega) hl v a c) (by rw [r6]; intro v a c; rw [nrI_lt (by omega) a c]; exact emod_in p1)) (by decide) rfl s_t rfl rfl (Nat.le_of_ble_eq_true rfl) dX0_takeNought_154 (ab_kV (fun M_154 h_154 => ?_))
                  skip
                  refine ab_iinc5 (lv := []) C rfl dX0_takeNought_157 (by omega) ?_
                  refine ab_goto (tgt := 143) C dX0_takeNought_160 rfl ?_
                  obtain ⟨F2, rfl, hF2, hlo2⟩ := h_154
                  refine ab_mem (M2 := upA (up (upA (upA M (b + 6) (nrI p k k (M (b + 6)))) (b + 1) (cpF (fsm n d + k * (k + 1) / 2) (k + 1) (nrI p k k (M (b + 6))) (M (b + 1)))) (b + 2) (wsm n d + k) 1) (b + 1) F2) (upA_upA _ _ _ _) (ih F2 (by omega) ⟨by omega, fun w v a c e => ?_, fun x hx => ?_⟩)
                  · rw [hF2 w v a c, r1, r2 i (by omega), r6]
                    unfold newFm at *
                    by_cases q : w = i
                    · subst q
                      by_cases q2 : ldq n d (M (b + 2)) w = 0
                      · rw [if_neg (fun z => z.2 q2), hF w v a c e, if_neg (show ¬ w = k by omega), if_neg (fun z => z.2.2 q2), if_neg (show ¬ w = k by omega), if_neg (fun z => z.2.2 q2)]
                      · have ew : fmq n d F w v = fmq n d (M (b + 1)) w v := by rw [hF w v a c e, if_neg (show ¬ w = k by omega), if_neg (fun z => absurd z.2.1 (by omega))]
                        have ek : fmq n d F w k = fmq n d (M (b + 1)) w k := by rw [hF w k k0 (by omega) e, if_neg (show ¬ w = k by omega), if_neg (fun z => absurd z.2.1 (by omega))]
                        rw [if_pos ⟨rfl, q2⟩, if_neg (show ¬ w = k by omega), if_pos ⟨by omega, by omega, q2⟩]
                        unfold replF
                        rw [ew, ek]
                    · rw [if_neg (fun z => q z.1), hF w v a c e]
                      by_cases q1 : w = k
                      · rw [if_pos q1, if_pos q1]
                      · rw [if_neg q1, if_neg q1]
                        by_cases q2 : k < w ∧ w < i ∧ ldq n d (M (b + 2)) w ≠ 0
                        · rw [if_pos q2, if_pos ⟨q2.1, by omega, q2.2.2⟩]
                        · rw [if_neg q2, if_neg (fun z => q2 ⟨z.1, by omega, z.2.2⟩)]
                  · rw [hlo2 x hx, r1, hlo x hx]
              · unfold newFm
                by_cases q : w = k
                · rw [if_pos q, q]
                  unfold fmq
                  rw [cpF_in (by omega) (by omega)]
                  congr 1
                  omega
                · rw [if_neg q, if_neg (fun z => absurd z.2.1 (by omega))]
                  unfold fmq
                  rw [cpF_out]
                  intro z
                  have t2 := tri_in a c (show 0 ≤ w * (w + 1) / 2 + v - k * (k + 1) / 2 by omega) (show w * (w + 1) / 2 + v - k * (k + 1) / 2 ≤ k by omega) q
                  omega
            · skip
              refine ab_aload_n C dX0_takeNought_67 rfl rfl ?_
              refine gf_RX0_29 C s_t rfl dX0_takeNought_68 ?_
              refine ab_iload C dX0_takeNought_71 rfl ?_
              refine ab_aload_n C dX0_takeNought_73 rfl rfl ?_
              refine gf_RX0_36 C s_t rfl dX0_takeNought_74 ?_
              refine ab_aload_n C dX0_takeNought_77 rfl rfl ?_
              refine gf_RX0_29 C s_t rfl dX0_takeNought_78 ?_
              refine ab_iload C dX0_takeNought_81 rfl ?_
              refine ab_iaload C s_t_form (by omega) (by omega) dX0_takeNought_83 ?_
              rw [upA_s, nrI_ge (show i ≠ k by omega) (by omega)]
              refine ab_i2l C dX0_takeNought_84 ?_
              refine ab_iload C dX0_takeNought_85 rfl ?_
              refine ab_i2l C dX0_takeNought_87 ?_
              refine ab_lmul C dX0_takeNought_88 (by omega) ?_
              refine ab_callV C cl_RX0_169 (m_X1_rest B_t_alphabet A_t_alphabet) (by decide) rfl s_t_alphabet rfl rfl (Nat.le_of_ble_eq_true rfl) dX0_takeNought_89 (ab_kI (fun r_89 M_89 h_89 => ?_))
              obtain ⟨rfl, rfl⟩ := h_89
              refine ab_iastore C s_t_form (by omega) (by omega) dX0_takeNought_92 ?_
              refine ab_iinc5 (lv := []) C rfl dX0_takeNought_93 (by omega) ?_
              refine ab_goto (tgt := 61) C dX0_takeNought_96 rfl ?_
              refine ab_mem (M2 := upA M (b + 6) (nrI p k (i + 1) (M (b + 6)))) ?_ (ih () (by omega) (by omega))
              rw [up_upA]
              exact upA_ext (fun j => by
                by_cases q0 : j = k
                · rw [if_neg (by omega), q0, nrI_k, nrI_k]
                · by_cases q1 : j = i
                  · rw [if_pos q1, nrI_lt q0 (by omega) (by omega), q1]
                  · rw [if_neg q1]
                    by_cases q2 : 0 ≤ j ∧ j < i
                    · rw [nrI_lt q0 q2.1 q2.2, nrI_lt q0 q2.1 (by omega)]
                    · rw [nrI_ge q0 q2, nrI_ge q0 (by omega)])
        · skip
          exfalso; omega
      · skip
        refine ab_iinc3 (lv := []) C rfl dX0_takeNought_17 (by omega) ?_
        refine ab_goto (tgt := 4) C dX0_takeNought_20 rfl ?_
        exact ih _ (by omega) ⟨by omega, by omega, fun v a c => by
          rcases (show v = k ∨ k < v by omega) with z | z
          · rw [z]; exact h_14
          · exact hz v z c⟩
