set_option maxRecDepth 100000 in
set_option maxHeartbeats 4000000 in
theorem m_X8_type {D : va_G} {cA : Nat → ClassId} {S : List AbS} {M : AbM} {w al t rr u v g h b c k sh x0 x1 x2 x3 Bd : Nat} {a : St} (B_t : WL S w al t rr u v g h b c k sh x0 x1 x2 x3 Bd) (H : CRel a M w al t u g h b c x0 x1 x2 x3) {x m : Int} : Meth yX8_type cX8_type 6 (some .int) rmX8_type D cA S [vP w, vL x, vI m] M (qI fun q M2 => lo Bd M M2 ∧ ∃ b9, oType a x m q b9 ∧ CRel b9 M2 w al t u g h b c x0 x1 x2 x3) := by
  refine ab_intro (lv := [vP w, vL x, vU, vI m, vU, vU]) (by decide +kernel) rfl (Nat.le_of_ble_eq_true rfl) ?_
  intro hO hargs K hKD hKA C r
  have C : Cx K cX8_type RX8 rmX8_type := C
  have i_x : inL x := hargs _ (List.mem_cons_of_mem _ (List.mem_cons_self))
  have i_m : inI m := hargs _ (List.mem_cons_of_mem _ (List.mem_cons_of_mem _ (List.mem_cons_self)))
  obtain ⟨⟨s_t, B_t_alphabet, B_t_tape, B_t_reader, B_t_lookedAt, B_t_spare, B_t_lawList, B_t_otherList, B_t_algebra, B_t_otherAlgebra, B_t_echelon, s_t_sheets, B_x0, B_x1, B_x2, B_x3⟩, hPl⟩ := id B_t
  obtain ⟨s_t_alphabet, -⟩ := id B_t_alphabet
  obtain ⟨s_t_tape, -⟩ := id B_t_tape
  obtain ⟨s_t_reader, -⟩ := id B_t_reader
  obtain ⟨s_t_lookedAt, -⟩ := id B_t_lookedAt
  obtain ⟨s_t_spare, -⟩ := id B_t_spare
  obtain ⟨s_t_lawList, -⟩ := id B_t_lawList
  obtain ⟨s_t_otherList, -⟩ := id B_t_otherList
  obtain ⟨s_t_algebra, -⟩ := id B_t_algebra
  obtain ⟨s_t_otherAlgebra, -⟩ := id B_t_otherAlgebra
  obtain ⟨s_t_echelon, -⟩ := id B_t_echelon
  have A_t_alphabet := H.1
  obtain ⟨⟨n1, n2, hPr⟩, -⟩ := id A_t_alphabet
  obtain ⟨p1, p2, -⟩ := id hPr
  have hLB := Lg_B a.n
  have hLO : lo Bd M M := lo.rf Bd M
  obtain ⟨t11, tB, tV⟩ := id H.2.2.2.2.2.1
  refine ab_iload_n C dX8_type_0 rfl rfl ?_
  refine ab_iconst C dX8_type_1 (by decide) ?_
  refine ab_icmp_lt (tgt := 11) C dX8_type_2 rfl (fun h_2 => ?_) (fun h_2 => ?_)
  · skip
    refine ab_iconst C dX8_type_11 (by decide) ?_
    refine ab_iret (st := []) C r dX8_type_12 ?_
    exact ⟨_, rfl, hLO, a, Or.inl ⟨fun z => by have := z.1; have := z.2.1; omega, rfl, rfl⟩, H⟩
  · skip
    refine ab_iload_n C dX8_type_5 rfl rfl ?_
    refine ab_bipush C dX8_type_6 (by decide) (by decide +kernel) ?_
    refine ab_icmp_le (tgt := 13) C dX8_type_8 rfl (fun h_8 => ?_) (fun h_8 => ?_)
    · skip
      refine ab_iconst C dX8_type_13 (by decide) ?_
      refine ab_istore4 (lv := []) C rfl dX8_type_14 ?_
      refine ab_loop (fun i (y : AbV) => AJ K S 16 [vP w, vL x, vU, vI m, vI i, y] [] M) (fun i _ => 0 ≤ i ∧ ∀ j, 0 ≤ j → j < i → 32 ≤ bt x j ∧ bt x j ≤ 126) m ?_ 0 vU (by omega) ⟨by omega, fun j z1 z2 => by omega⟩
      · intro i y hi hI ih
        obtain ⟨i0, hv⟩ := hI
        refine ab_iload C dX8_type_16 rfl ?_
        refine ab_iload_n C dX8_type_18 rfl rfl ?_
        refine ab_icmp_ge (tgt := 52) C dX8_type_19 rfl (fun h_19 => ?_) (fun h_19 => ?_)
        · skip
          refine ab_aload_n C dX8_type_52 rfl rfl ?_
          refine gf_RX8_19 C s_t rfl dX8_type_53 ?_
          refine ab_callV C cl_RX8_106 (m_X7_size B_t_tape) (by decide) rfl s_t_tape rfl rfl (Nat.le_of_ble_eq_true rfl) dX8_type_56 (ab_kI (fun r_56 M_56 h_56 => ?_))
          obtain ⟨rfl, rfl⟩ := h_56
          rw [t11]
          refine ab_iload_n C dX8_type_59 rfl rfl ?_
          refine ab_iadd C dX8_type_60 (by omega) ?_
          refine ab_bipush C dX8_type_61 (by decide) (by decide +kernel) ?_
          refine ab_icmp_le (tgt := 69) C dX8_type_63 rfl (fun h_63 => ?_) (fun h_63 => ?_)
          · skip
            refine ab_iload_n C dX8_type_69 rfl rfl ?_
            refine ab_iconst C dX8_type_70 (by decide) ?_
            refine ab_isub C dX8_type_71 (by omega) ?_
            refine ab_istore4 (lv := []) C rfl dX8_type_72 ?_
            have hOK : btOK x m := ⟨by omega, by omega, fun j z1 z2 => hv j z1 (by omega)⟩
            refine ab_loopM (fun (z : Int × AbV × AbM) => AJ K S 74 [vP w, vL x, vU, vI m, vI z.1, z.2.1] [] z.2.2) (fun z => (-1 ≤ z.1 ∧ z.1 < m) ∧ (∀ q, q ≠ t → q ≠ t + 1 → z.2.2 q = M q) ∧ z.2.2 t 1 = a.tn + (m - 1 - z.1) ∧ ∀ j, 0 ≤ j → j < a.tn + (m - 1 - z.1) → z.2.2 (t + 1) j = if a.tn ≤ j then bt x (a.tn + m - 1 - j) else a.tp j) (fun z => (z.1 + 1).toNat) ?_ (m - 1, y, M) ⟨⟨by dsimp only; omega, by dsimp only; omega⟩, fun _ _ _ => rfl, by dsimp only; omega, fun j z1 z2 => by
              dsimp only at z2 ⊢
              rw [if_neg (by omega)]
              exact (tV j z1 (by omega)).1⟩
            · intro z hI ih
              obtain ⟨i, y5, M5⟩ := z
              obtain ⟨⟨ia, ib⟩, k1, k2, k3⟩ := hI
              dsimp only at ia ib k1 k2 k3 ih ⊢
              refine ab_iload C dX8_type_74 rfl ?_
              refine ab_if_lt (tgt := 98) C dX8_type_76 rfl (fun h_76 => ?_) (fun h_76 => ?_)
              · skip
                refine ab_aload_n C dX8_type_98 rfl rfl ?_
                refine gf_RX8_19 C s_t rfl dX8_type_99 ?_
                refine ab_callV C cl_RX8_106 (m_X7_size B_t_tape) (by decide) rfl s_t_tape rfl rfl (Nat.le_of_ble_eq_true rfl) dX8_type_102 (ab_kI (fun r_102 M_102 h_102 => ?_))
                obtain ⟨rfl, rfl⟩ := h_102
                rw [k2]
                refine ab_iret (st := []) C r dX8_type_105 ?_
                have ei : i = -1 := by omega
                subst ei
                obtain ⟨hC9, hl9⟩ := CRel.tapeU (N := a.tn + m) (tp := fun i => if a.tn ≤ i then bt x (a.tn + m - 1 - i) else a.tp i) H B_t (fun q z1 z2 => k1 q (by omega) (by omega)) ⟨by rw [k2]; show a.tn + (m - 1 - -1) = a.tn + m; omega, by show 0 ≤ a.tn + m ∧ a.tn + m ≤ 80; omega, fun i z1 z2 => by
                  have z2 : i < a.tn + m := z2
                  refine ⟨k3 i z1 (by omega), ?_⟩
                  show 32 ≤ (if a.tn ≤ i then bt x (a.tn + m - 1 - i) else a.tp i) ∧ (if a.tn ≤ i then bt x (a.tn + m - 1 - i) else a.tp i) ≤ 126
                  by_cases z : a.tn ≤ i
                  · rw [if_pos z]; exact hOK.2.2 _ (by omega) (by omega)
                  · rw [if_neg z]; exact (tV i z1 (by omega)).2⟩
                exact ⟨_, rfl, hl9, a.typ x m, Or.inr (Or.inr ⟨hOK, by omega, by omega, rfl⟩), hC9⟩
              · skip
                refine ab_aload_n C dX8_type_79 rfl rfl ?_
                refine gf_RX8_19 C s_t rfl dX8_type_80 ?_
                refine ab_lload_n C dX8_type_83 rfl rfl ?_
                refine ab_iload C dX8_type_84 rfl ?_
                refine ab_callS C cl_RX8_102 (m_X8_byteOf (by omega) (by omega)) (by decide) rfl rfl (Nat.le_of_ble_eq_true rfl) dX8_type_86 (ab_kI (fun r_86 M_86 h_86 => ?_))
                obtain ⟨rfl, rfl⟩ := h_86
                refine ab_callV C cl_RX8_109 (m_X7_add B_t_tape (by rw [k2]; omega) (by rw [k2]; omega)) (by decide) rfl s_t_tape rfl rfl (Nat.le_of_ble_eq_true rfl) dX8_type_89 (ab_kV (fun M_89 h_89 => ?_))
                rw [k2] at h_89
                subst h_89
                refine ab_iinc4 (lv := []) C rfl dX8_type_92 (by omega) ?_
                refine ab_goto (tgt := 74) C dX8_type_95 rfl ?_
                obtain ⟨M7, hM7⟩ : ∃ M7, up (up M5 (t + 1) (a.tn + (m - 1 - i)) (bt x i)) t 1 (a.tn + (m - 1 - i) + 1) = M7 := ⟨_, rfl⟩
                rw [hM7]
                have r1 : ∀ q, q ≠ t → q ≠ t + 1 → M7 q = M q := fun q z1 z2 => by rw [← hM7, up_row z1, up_row z2]; exact k1 q z1 z2
                have r2 : M7 t 1 = a.tn + (m - 1 - (i + -1)) := by rw [← hM7, up_s]; omega
                have r3 : ∀ j, 0 ≤ j → j < a.tn + (m - 1 - (i + -1)) → M7 (t + 1) j = if a.tn ≤ j then bt x (a.tn + m - 1 - j) else a.tp j := fun j z1 z2 => by
                  rw [← hM7, up_k (by omega)]
                  by_cases q : j = a.tn + (m - 1 - i)
                  · rw [q, up_s, if_pos (by omega), show a.tn + m - 1 - (a.tn + (m - 1 - i)) = i by omega]
                  · rw [up_i q]
                    exact k3 j z1 (by omega)
                exact ih (i + -1, y5, M7) (by dsimp only; omega) ⟨⟨by dsimp only; omega, by dsimp only; omega⟩, r1, r2, r3⟩
          · skip
            refine ab_bipush C dX8_type_66 (by decide) (by decide +kernel) ?_
            refine ab_iret (st := []) C r dX8_type_68 ?_
            exact ⟨_, rfl, hLO, a, Or.inr (Or.inl ⟨⟨by omega, by omega, fun j z1 z2 => hv j z1 (by omega)⟩, by omega, rfl, rfl⟩), H⟩
        · skip
          refine ab_lload_n C dX8_type_22 rfl rfl ?_
          refine ab_iload C dX8_type_23 rfl ?_
          refine ab_callS C cl_RX8_102 (m_X8_byteOf (by omega) (by omega)) (by decide) rfl rfl (Nat.le_of_ble_eq_true rfl) dX8_type_25 (ab_kI (fun r_25 M_25 h_25 => ?_))
          obtain ⟨rfl, rfl⟩ := h_25
          have hbt : 0 ≤ bt x i ∧ bt x i < 256 := ⟨Int.emod_nonneg _ (by decide), Int.emod_lt_of_pos _ (by decide)⟩
          refine ab_istore5 (lv := []) C rfl dX8_type_28 ?_
          refine ab_iload C dX8_type_30 rfl ?_
          refine ab_bipush C dX8_type_32 (by decide) (by decide +kernel) ?_
          refine ab_icmp_lt (tgt := 44) C dX8_type_34 rfl (fun h_34 => ?_) (fun h_34 => ?_)
          · skip
            refine ab_iconst C dX8_type_44 (by decide) ?_
            refine ab_iret (st := []) C r dX8_type_45 ?_
            exact ⟨_, rfl, hLO, a, Or.inl ⟨fun z => by have := z.2.2 i i0 (by omega); omega, rfl, rfl⟩, H⟩
          · skip
            refine ab_iload C dX8_type_37 rfl ?_
            refine ab_bipush C dX8_type_39 (by decide) (by decide +kernel) ?_
            refine ab_icmp_le (tgt := 46) C dX8_type_41 rfl (fun h_41 => ?_) (fun h_41 => ?_)
            · skip
              refine ab_iinc4 (lv := []) C rfl dX8_type_46 (by omega) ?_
              refine ab_goto (tgt := 16) C dX8_type_49 rfl ?_
              refine ih _ (by omega) ⟨by omega, fun j z1 z2 => ?_⟩
              rcases (show j < i ∨ j = i by omega) with q | q
              · exact hv j z1 q
              · rw [q]; omega
            · skip
              refine ab_iconst C dX8_type_44 (by decide) ?_
              refine ab_iret (st := []) C r dX8_type_45 ?_
              exact ⟨_, rfl, hLO, a, Or.inl ⟨fun z => by have := z.2.2 i i0 (by omega); omega, rfl, rfl⟩, H⟩
    · skip
      refine ab_iconst C dX8_type_11 (by decide) ?_
      refine ab_iret (st := []) C r dX8_type_12 ?_
      exact ⟨_, rfl, hLO, a, Or.inl ⟨fun z => by have := z.1; have := z.2.1; omega, rfl, rfl⟩, H⟩
set_option maxRecDepth 100000 in
set_option maxHeartbeats 4000000 in
theorem m_X8_times {D : va_G} {cA : Nat → ClassId} {S : List AbS} {M : AbM} {w al t rr u v g h b c k sh x0 x1 x2 x3 Bd : Nat} {a : St} (B_t : WL S w al t rr u v g h b c k sh x0 x1 x2 x3 Bd) (H : CRel a M w al t u g h b c x0 x1 x2 x3) {x : Int} : Meth yX8_times cX8_times 2 (some .int) rmX8_times D cA S [vP w, vI x] M (qI fun q M2 => lo Bd M M2 ∧ ∃ b9, oTimes a x q b9 ∧ CRel b9 M2 w al t u g h b c x0 x1 x2 x3) := by
  refine ab_intro (lv := [vP w, vI x]) (by decide +kernel) rfl (Nat.le_of_ble_eq_true rfl) ?_
  intro hO hargs K hKD hKA C r
  have C : Cx K cX8_times RX8 rmX8_times := C
  have i_x : inI x := hargs _ (List.mem_cons_of_mem _ (List.mem_cons_self))
  obtain ⟨⟨s_t, B_t_alphabet, B_t_tape, B_t_reader, B_t_lookedAt, B_t_spare, B_t_lawList, B_t_otherList, B_t_algebra, B_t_otherAlgebra, B_t_echelon, s_t_sheets, B_x0, B_x1, B_x2, B_x3⟩, hPl⟩ := id B_t
  obtain ⟨s_t_alphabet, -⟩ := id B_t_alphabet
  obtain ⟨s_t_tape, -⟩ := id B_t_tape
  obtain ⟨s_t_reader, -⟩ := id B_t_reader
  obtain ⟨s_t_lookedAt, -⟩ := id B_t_lookedAt
  obtain ⟨s_t_spare, -⟩ := id B_t_spare
  obtain ⟨s_t_lawList, -⟩ := id B_t_lawList
  obtain ⟨s_t_otherList, -⟩ := id B_t_otherList
  obtain ⟨s_t_algebra, -⟩ := id B_t_algebra
  obtain ⟨s_t_otherAlgebra, -⟩ := id B_t_otherAlgebra
  obtain ⟨s_t_echelon, -⟩ := id B_t_echelon
  have A_t_alphabet := H.1
  obtain ⟨⟨n1, n2, hPr⟩, -⟩ := id A_t_alphabet
  obtain ⟨p1, p2, -⟩ := id hPr
  have hLB := Lg_B a.n
  have hLO : lo Bd M M := lo.rf Bd M
  refine ab_iload_n C dX8_times_0 rfl rfl ?_
  refine ab_if_lt (tgt := 11) C dX8_times_1 rfl (fun h_1 => ?_) (fun h_1 => ?_)
  · skip
    refine ab_iconst C dX8_times_11 (by decide) ?_
    refine ab_iret (st := []) C r dX8_times_12 ?_
    exact ⟨_, rfl, hLO, a, Or.inl ⟨by omega, rfl, rfl⟩, H⟩
  · skip
    refine ab_iload_n C dX8_times_4 rfl rfl ?_
    refine ab_sipush C dX8_times_5 (by decide) (by decide +kernel) ?_
    refine ab_icmp_le (tgt := 13) C dX8_times_8 rfl (fun h_8 => ?_) (fun h_8 => ?_)
    · skip
      refine ab_aload_n C dX8_times_13 rfl rfl ?_
      refine gf_RX8_35 C s_t rfl dX8_times_14 ?_
      refine ab_iload_n C dX8_times_17 rfl rfl ?_
      refine ab_callV C cl_RX8_217 (m_X6_multiply B_t_lookedAt A_t_alphabet (by omega) (by omega) (by omega)) (by decide) rfl s_t_lookedAt rfl rfl (Nat.le_of_ble_eq_true rfl) dX8_times_18 (ab_kV (fun M_18 h_18 => ?_))
      subst h_18
      refine ab_aload_n C dX8_times_21 rfl rfl ?_
      refine gf_RX8_35 C s_t rfl dX8_times_22 ?_
      refine ab_callV C cl_RX8_149 (m_X6_terms B_t_lookedAt) (by decide) rfl s_t_lookedAt rfl rfl (Nat.le_of_ble_eq_true rfl) dX8_times_25 (ab_kI (fun r_25 M_25 h_25 => ?_))
      obtain ⟨rfl, rfl⟩ := h_25
      refine ab_iret (st := []) C r dX8_times_28 ?_
      obtain ⟨M9, hM9⟩ : ∃ M9, upA M (u + 1) (fun j => if 0 ≤ j ∧ j < 364 then M (u + 1) j * x % a.p else M (u + 1) j) = M9 := ⟨_, rfl⟩
      rw [hM9]
      have hS := H.2.2.2.2.1
      have hrow : ∀ j, 0 ≤ j → j < 364 → M9 (u + 1) j = a.sum j * x % a.p := fun j z1 z2 => by rw [← hM9, upA_s, if_pos ⟨z1, z2⟩, (hS.1 j z1 z2).1]
      have e : ∀ q, q ≠ u + 1 → M9 q = M q := fun q z => by rw [← hM9]; exact upA_row z
      obtain ⟨hC9, hl9⟩ := CRel.sumU (s := fun j => a.sum j * x % a.p) H B_t (fun q z => e q (by omega)) ⟨fun j z1 z2 => ⟨hrow j z1 z2, emod_in p1⟩, fun j z1 z2 => by
        show a.sum j * x % a.p = 0
        rw [hS.2 j z1 z2, Int.zero_mul, Int.zero_emod]⟩
      exact ⟨_, rfl, hl9, _, Or.inr ⟨by omega, cntF_congr (fun j z1 z2 => by rw [hrow j z1 z2]), rfl⟩, hC9⟩
    · skip
      refine ab_iconst C dX8_times_11 (by decide) ?_
      refine ab_iret (st := []) C r dX8_times_12 ?_
      exact ⟨_, rfl, hLO, a, Or.inl ⟨by omega, rfl, rfl⟩, H⟩
set_option maxRecDepth 100000 in
set_option maxHeartbeats 4000000 in
theorem m_X8_refuseRow {D : va_G} {cA : Nat → ClassId} {S : List AbS} {M : AbM} {x : Nat} {l f m : Int} (B_s : shSh S x) (h0 : 0 ≤ M x 2) (h1 : M x 2 ≤ 90) : Meth yX8_refuseRow cX8_refuseRow 4 (some .int) rmX8_refuseRow D cA S [vP x, vI l, vI f, vI m] M (qI fun q M2 => M = M2 ∧ (if M x 1 = -1 then -11 else if M x 1 = l then (if 0 ≤ f ∧ f ≤ M x 2 ∧ m ≤ M x 2 - f then 0 else -13) else -12) = q) := by
  refine ab_intro (lv := [vP x, vI l, vI f, vI m]) (by decide +kernel) rfl (Nat.le_of_ble_eq_true rfl) ?_
  intro hO hargs K hKD hKA C r
  have C : Cx K cX8_refuseRow RX8 rmX8_refuseRow := C
  have i_l : inI l := hargs _ (List.mem_cons_of_mem _ (List.mem_cons_self))
  have i_f : inI f := hargs _ (List.mem_cons_of_mem _ (List.mem_cons_of_mem _ (List.mem_cons_self)))
  have i_m : inI m := hargs _ (List.mem_cons_of_mem _ (List.mem_cons_of_mem _ (List.mem_cons_of_mem _ (List.mem_cons_self))))
  obtain ⟨s_s, -⟩ := id B_s
  refine ab_aload_n C dX8_refuseRow_0 rfl rfl ?_
  refine ab_callV C cl_RX8_229 (m_X5_isMissing B_s) (by decide) rfl s_s rfl rfl (Nat.le_of_ble_eq_true rfl) dX8_refuseRow_1 (ab_kI (fun r_1 M_1 h_1 => ?_))
  obtain ⟨rfl, rfl⟩ := h_1
  refine ab_if_eq (tgt := 10) C dX8_refuseRow_4 rfl (fun h_4 => ?_) (fun h_4 => ?_)
  · skip
    have hm := b01_eq h_4
    refine ab_aload_n C dX8_refuseRow_10 rfl rfl ?_
    refine ab_iload_n C dX8_refuseRow_11 rfl rfl ?_
    refine ab_callV C cl_RX8_257 (m_X5_isOf B_s) (by decide) rfl s_s rfl rfl (Nat.le_of_ble_eq_true rfl) dX8_refuseRow_12 (ab_kI (fun r_12 M_12 h_12 => ?_))
    obtain ⟨rfl, rfl⟩ := h_12
    refine ab_if_ne (tgt := 21) C dX8_refuseRow_15 rfl (fun h_15 => ?_) (fun h_15 => ?_)
    · skip
      have hl := b01_ne h_15
      refine ab_aload_n C dX8_refuseRow_21 rfl rfl ?_
      refine ab_iload_n C dX8_refuseRow_22 rfl rfl ?_
      refine ab_iload_n C dX8_refuseRow_23 rfl rfl ?_
      refine ab_callV C cl_RX8_260 (m_X5_has B_s (by omega) (by omega)) (by decide) rfl s_s rfl rfl (Nat.le_of_ble_eq_true rfl) dX8_refuseRow_24 (ab_kI (fun r_24 M_24 h_24 => ?_))
      obtain ⟨rfl, rfl⟩ := h_24
      refine ab_if_eq (tgt := 34) C dX8_refuseRow_27 rfl (fun h_27 => ?_) (fun h_27 => ?_)
      · skip
        have hf := b01_eq h_27
        refine ab_bipush C dX8_refuseRow_34 (by decide) (by decide +kernel) ?_
        refine ab_iret (st := []) C r dX8_refuseRow_36 ?_
        refine ⟨_, rfl, rfl, ?_⟩
        rw [if_neg hm, if_pos hl]
        first | exact if_pos hf | exact if_neg hf
      · skip
        have hf := b01_ne h_27
        refine ab_iconst C dX8_refuseRow_30 (by decide) ?_
        refine ab_goto (tgt := 36) C dX8_refuseRow_31 rfl ?_
        refine ab_iret (st := []) C r dX8_refuseRow_36 ?_
        refine ⟨_, rfl, rfl, ?_⟩
        rw [if_neg hm, if_pos hl]
        first | exact if_pos hf | exact if_neg hf
    · skip
      have hl := b01_eq h_15
      refine ab_bipush C dX8_refuseRow_18 (by decide) (by decide +kernel) ?_
      refine ab_iret (st := []) C r dX8_refuseRow_20 ?_
      exact ⟨_, rfl, rfl, by rw [if_neg hm, if_neg hl]⟩
  · skip
    have hm := b01_ne h_4
    refine ab_bipush C dX8_refuseRow_7 (by decide) (by decide +kernel) ?_
    refine ab_iret (st := []) C r dX8_refuseRow_9 ?_
    exact ⟨_, rfl, rfl, if_pos hm⟩
set_option maxRecDepth 100000 in
set_option maxHeartbeats 4000000 in
theorem m_X8_sheet {D : va_G} {cA : Nat → ClassId} {S : List AbS} {M : AbM} {w al t rr u v g h b c k sh x0 x1 x2 x3 Bd : Nat} {a : St} (B_t : WL S w al t rr u v g h b c k sh x0 x1 x2 x3 Bd) (H : CRel a M w al t u g h b c x0 x1 x2 x3) {s l m : Int} : Meth yX8_sheet cX8_sheet 4 (some .int) rmX8_sheet D cA S [vP w, vI s, vI l, vI m] M (qI fun q M2 => lo Bd M M2 ∧ ∃ b9, oSheet a s l m q b9 ∧ CRel b9 M2 w al t u g h b c x0 x1 x2 x3) := by
  refine ab_intro (lv := [vP w, vI s, vI l, vI m]) (by decide +kernel) rfl (Nat.le_of_ble_eq_true rfl) ?_
  intro hO hargs K hKD hKA C r
  have C : Cx K cX8_sheet RX8 rmX8_sheet := C
  have i_s : inI s := hargs _ (List.mem_cons_of_mem _ (List.mem_cons_self))
  have i_l : inI l := hargs _ (List.mem_cons_of_mem _ (List.mem_cons_of_mem _ (List.mem_cons_self)))
  have i_m : inI m := hargs _ (List.mem_cons_of_mem _ (List.mem_cons_of_mem _ (List.mem_cons_of_mem _ (List.mem_cons_self))))
  obtain ⟨⟨s_t, B_t_alphabet, B_t_tape, B_t_reader, B_t_lookedAt, B_t_spare, B_t_lawList, B_t_otherList, B_t_algebra, B_t_otherAlgebra, B_t_echelon, s_t_sheets, B_x0, B_x1, B_x2, B_x3⟩, hPl⟩ := id B_t
  obtain ⟨s_t_alphabet, -⟩ := id B_t_alphabet
  obtain ⟨s_t_tape, -⟩ := id B_t_tape
  obtain ⟨s_t_reader, -⟩ := id B_t_reader
  obtain ⟨s_t_lookedAt, -⟩ := id B_t_lookedAt
  obtain ⟨s_t_spare, -⟩ := id B_t_spare
  obtain ⟨s_t_lawList, -⟩ := id B_t_lawList
  obtain ⟨s_t_otherList, -⟩ := id B_t_otherList
  obtain ⟨s_t_algebra, -⟩ := id B_t_algebra
  obtain ⟨s_t_otherAlgebra, -⟩ := id B_t_otherAlgebra
  obtain ⟨s_t_echelon, -⟩ := id B_t_echelon
  have A_t_alphabet := H.1
  obtain ⟨⟨n1, n2, hPr⟩, -⟩ := id A_t_alphabet
  obtain ⟨p1, p2, -⟩ := id hPr
  have hLB := Lg_B a.n
  have hLO : lo Bd M M := lo.rf Bd M
  refine ab_iload_n C dX8_sheet_0 rfl rfl ?_
  refine ab_callS C cl_RX8_220 (m_X8_isSheet) (by decide) rfl rfl (Nat.le_of_ble_eq_true rfl) dX8_sheet_1 (ab_kI (fun r_1 M_1 h_1 => ?_))
  obtain ⟨rfl, rfl⟩ := h_1
  refine ab_if_eq (tgt := 20) C dX8_sheet_4 rfl (fun h_4 => ?_) (fun h_4 => ?_)
  · skip
    have hs := b01_eq h_4
    refine ab_iconst C dX8_sheet_20 (by decide) ?_
    refine ab_iret (st := []) C r dX8_sheet_21 ?_
    refine ⟨_, rfl, hLO, a, Or.inl ⟨fun z => ?_, rfl, rfl⟩, H⟩
    first
    | exact hs z.1.1
    | exact hl z.1.2
    | (have := z.2; omega)
  · skip
    have hs := b01_ne h_4
    refine ab_iload_n C dX8_sheet_7 rfl rfl ?_
    refine ab_callS C cl_RX8_223 (m_X8_isLane) (by decide) rfl rfl (Nat.le_of_ble_eq_true rfl) dX8_sheet_8 (ab_kI (fun r_8 M_8 h_8 => ?_))
    obtain ⟨rfl, rfl⟩ := h_8
    refine ab_if_eq (tgt := 20) C dX8_sheet_11 rfl (fun h_11 => ?_) (fun h_11 => ?_)
    · skip
      have hl := b01_eq h_11
      refine ab_iconst C dX8_sheet_20 (by decide) ?_
      refine ab_iret (st := []) C r dX8_sheet_21 ?_
      refine ⟨_, rfl, hLO, a, Or.inl ⟨fun z => ?_, rfl, rfl⟩, H⟩
      first
      | exact hs z.1.1
      | exact hl z.1.2
      | (have := z.2; omega)
    · skip
      have hl := b01_ne h_11
      refine ab_iload_n C dX8_sheet_14 rfl rfl ?_
      refine ab_bipush C dX8_sheet_15 (by decide) (by decide +kernel) ?_
      refine ab_icmp_le (tgt := 22) C dX8_sheet_17 rfl (fun h_17 => ?_) (fun h_17 => ?_)
      · skip
        refine ab_iload_n C dX8_sheet_22 rfl rfl ?_
        refine ab_if_ge (tgt := 29) C dX8_sheet_23 rfl (fun h_23 => ?_) (fun h_23 => ?_)
        · skip
          obtain ⟨x, hxa, hxl, B_s⟩ := sh_at B_t (s := s) (by omega) (by omega)
          obtain ⟨s_s, -⟩ := id B_s
          have hxx : x0 ≤ x ∧ x ≤ x3 := by
            rcases hxa with ⟨-, rfl⟩ | ⟨-, rfl⟩ | ⟨-, rfl⟩ | ⟨-, rfl⟩ <;> omega
          have hh := H.2.2.2.2.2.2.at hxa
          have hsz := hh.2.2.2.1
          have hln := hh.2.2.1
          have he1 := hh.1
          have he2 := hh.2.1
          refine ab_aload_n C dX8_sheet_29 rfl rfl ?_
          refine gf_RX8_73 C s_t rfl dX8_sheet_30 ?_
          refine ab_iload_n C dX8_sheet_33 rfl rfl ?_
          refine ab_aaload (q := x) C s_t_sheets (by omega) hxl dX8_sheet_34 ?_
          refine ab_iload_n C dX8_sheet_35 rfl rfl ?_
          refine ab_iload_n C dX8_sheet_36 rfl rfl ?_
          refine ab_callV C cl_RX8_226 (m_X5_hold B_s) (by decide) rfl s_s rfl rfl (Nat.le_of_ble_eq_true rfl) dX8_sheet_37 (ab_kV (fun M_37 h_37 => ?_))
          subst h_37
          refine ab_iload_n C dX8_sheet_40 rfl rfl ?_
          refine ab_iret (st := []) C r dX8_sheet_41 ?_
          obtain ⟨M9, hM9⟩ : ∃ M9, up (up (upA M (x + 1) (fun j => if 0 ≤ j ∧ j < 90 then 0 else M (x + 1) j)) x 1 l) x 2 m = M9 := ⟨_, rfl⟩
          rw [hM9]
          have e : ∀ q, q ≠ x → q ≠ x + 1 → M9 q = M q := fun q z1 z2 => by rw [← hM9, up_row z1, up_row z1, upA_row z2]
          have g1 : M9 x 1 = l := by rw [← hM9, up_i (by decide), up_s]
          have g2 : M9 x 2 = m := by rw [← hM9, up_s]
          have g3 : ∀ j, 0 ≤ j → j < 90 → M9 (x + 1) j = 0 := fun j z1 z2 => by rw [← hM9, up_k (by omega), up_k (by omega), upA_s, if_pos ⟨z1, z2⟩]
          obtain ⟨hC9, hl9⟩ := CRel.sheet (ln := fun i => if i = s then l else a.ln i) (sn := fun i => if i = s then m else a.sn i) (it := fun i => if 90 * s ≤ i ∧ i < 90 * s + 90 then 0 else a.it i) H B_t hxa e ⟨by rw [g1]; exact (if_pos rfl).symm, by rw [g2]; exact (if_pos rfl).symm, by
              show -1 ≤ (if s = s then l else a.ln s) ∧ (if s = s then l else a.ln s) ≤ 2
              rw [if_pos rfl]; omega, by
              show 0 ≤ (if s = s then m else a.sn s) ∧ (if s = s then m else a.sn s) ≤ 90
              rw [if_pos rfl]; omega, fun i i0 i1 => by
              show _ = (if 90 * s ≤ 90 * s + i ∧ 90 * s + i < 90 * s + 90 then 0 else a.it (90 * s + i)) ∧ -2147483648 ≤ (if 90 * s ≤ 90 * s + i ∧ 90 * s + i < 90 * s + 90 then 0 else a.it (90 * s + i)) ∧ (if 90 * s ≤ 90 * s + i ∧ 90 * s + i < 90 * s + 90 then 0 else a.it (90 * s + i)) ≤ 2147483647
              rw [if_pos (by omega)]
              exact ⟨g3 i i0 i1, by decide, by decide⟩⟩ (fun k9 z1 z2 z3 l9 z9 r9 z => sheetA.other z (if_neg z3) (if_neg z3) (fun i i0 i1 => if_neg (by omega)) (fun i i0 i1 => rfl))
          exact ⟨_, rfl, hl9, a.hold s l m, Or.inr (Or.inr ⟨⟨⟨hs, hl⟩, by omega⟩, by omega, rfl, rfl⟩), hC9⟩
        · skip
          refine ab_bipush C dX8_sheet_26 (by decide) (by decide +kernel) ?_
          refine ab_iret (st := []) C r dX8_sheet_28 ?_
          exact ⟨_, rfl, hLO, a, Or.inr (Or.inl ⟨⟨⟨hs, hl⟩, by omega⟩, by omega, rfl, rfl⟩), H⟩
      · skip
        refine ab_iconst C dX8_sheet_20 (by decide) ?_
        refine ab_iret (st := []) C r dX8_sheet_21 ?_
        refine ⟨_, rfl, hLO, a, Or.inl ⟨fun z => ?_, rfl, rfl⟩, H⟩
        first
        | exact hs z.1.1
        | exact hl z.1.2
        | (have := z.2; omega)
set_option maxRecDepth 100000 in
set_option maxHeartbeats 4000000 in
theorem m_X8_drop {D : va_G} {cA : Nat → ClassId} {S : List AbS} {M : AbM} {w al t rr u v g h b c k sh x0 x1 x2 x3 Bd : Nat} {a : St} (B_t : WL S w al t rr u v g h b c k sh x0 x1 x2 x3 Bd) (H : CRel a M w al t u g h b c x0 x1 x2 x3) {s : Int} : Meth yX8_drop cX8_drop 2 (some .int) rmX8_drop D cA S [vP w, vI s] M (qI fun q M2 => lo Bd M M2 ∧ ∃ b9, oDrop a s q b9 ∧ CRel b9 M2 w al t u g h b c x0 x1 x2 x3) := by
  refine ab_intro (lv := [vP w, vI s]) (by decide +kernel) rfl (Nat.le_of_ble_eq_true rfl) ?_
  intro hO hargs K hKD hKA C r
  have C : Cx K cX8_drop RX8 rmX8_drop := C
  have i_s : inI s := hargs _ (List.mem_cons_of_mem _ (List.mem_cons_self))
  obtain ⟨⟨s_t, B_t_alphabet, B_t_tape, B_t_reader, B_t_lookedAt, B_t_spare, B_t_lawList, B_t_otherList, B_t_algebra, B_t_otherAlgebra, B_t_echelon, s_t_sheets, B_x0, B_x1, B_x2, B_x3⟩, hPl⟩ := id B_t
  obtain ⟨s_t_alphabet, -⟩ := id B_t_alphabet
  obtain ⟨s_t_tape, -⟩ := id B_t_tape
  obtain ⟨s_t_reader, -⟩ := id B_t_reader
  obtain ⟨s_t_lookedAt, -⟩ := id B_t_lookedAt
  obtain ⟨s_t_spare, -⟩ := id B_t_spare
  obtain ⟨s_t_lawList, -⟩ := id B_t_lawList
  obtain ⟨s_t_otherList, -⟩ := id B_t_otherList
  obtain ⟨s_t_algebra, -⟩ := id B_t_algebra
  obtain ⟨s_t_otherAlgebra, -⟩ := id B_t_otherAlgebra
  obtain ⟨s_t_echelon, -⟩ := id B_t_echelon
  have A_t_alphabet := H.1
  obtain ⟨⟨n1, n2, hPr⟩, -⟩ := id A_t_alphabet
  obtain ⟨p1, p2, -⟩ := id hPr
  have hLB := Lg_B a.n
  have hLO : lo Bd M M := lo.rf Bd M
  refine ab_iload_n C dX8_drop_0 rfl rfl ?_
  refine ab_callS C cl_RX8_220 (m_X8_isSheet) (by decide) rfl rfl (Nat.le_of_ble_eq_true rfl) dX8_drop_1 (ab_kI (fun r_1 M_1 h_1 => ?_))
  obtain ⟨rfl, rfl⟩ := h_1
  refine ab_if_ne (tgt := 9) C dX8_drop_4 rfl (fun h_4 => ?_) (fun h_4 => ?_)
  · skip
    have hs := b01_ne h_4
    obtain ⟨x, hxa, hxl, B_s⟩ := sh_at B_t (s := s) (by omega) (by omega)
    obtain ⟨s_s, -⟩ := id B_s
    have hxx : x0 ≤ x ∧ x ≤ x3 := by
      rcases hxa with ⟨-, rfl⟩ | ⟨-, rfl⟩ | ⟨-, rfl⟩ | ⟨-, rfl⟩ <;> omega
    have hh := H.2.2.2.2.2.2.at hxa
    have hsz := hh.2.2.2.1
    have hln := hh.2.2.1
    have he1 := hh.1
    have he2 := hh.2.1
    refine ab_aload_n C dX8_drop_9 rfl rfl ?_
    refine gf_RX8_73 C s_t rfl dX8_drop_10 ?_
    refine ab_iload_n C dX8_drop_13 rfl rfl ?_
    refine ab_aaload (q := x) C s_t_sheets (by omega) hxl dX8_drop_14 ?_
    refine ab_callV C cl_RX8_229 (m_X5_isMissing B_s) (by decide) rfl s_s rfl rfl (Nat.le_of_ble_eq_true rfl) dX8_drop_15 (ab_kI (fun r_15 M_15 h_15 => ?_))
    obtain ⟨rfl, rfl⟩ := h_15
    refine ab_if_eq (tgt := 24) C dX8_drop_18 rfl (fun h_18 => ?_) (fun h_18 => ?_)
    · skip
      have hm := b01_eq h_18
      refine ab_aload_n C dX8_drop_24 rfl rfl ?_
      refine gf_RX8_73 C s_t rfl dX8_drop_25 ?_
      refine ab_iload_n C dX8_drop_28 rfl rfl ?_
      refine ab_aaload (q := x) C s_t_sheets (by omega) hxl dX8_drop_29 ?_
      refine ab_callV C cl_RX8_233 (m_X5_release B_s) (by decide) rfl s_s rfl rfl (Nat.le_of_ble_eq_true rfl) dX8_drop_30 (ab_kI (fun r_30 M_30 h_30 => ?_))
      obtain ⟨rfl, rfl⟩ := h_30
      refine ab_iret (st := []) C r dX8_drop_33 ?_
      obtain ⟨M9, hM9⟩ : ∃ M9, up M x 1 (-1) = M9 := ⟨_, rfl⟩
      rw [hM9]
      have e : ∀ q, q ≠ x → M9 q = M q := fun q z1 => by rw [← hM9, up_row z1]
      have g1 : M9 x 1 = -1 := by rw [← hM9, up_s]
      have g2 : M9 x 2 = M x 2 := by rw [← hM9, up_i (by decide)]
      obtain ⟨hC9, hl9⟩ := CRel.sheet (ln := fun i => if i = s then -1 else a.ln i) (sn := a.sn) (it := a.it) H B_t hxa (fun q z1 z2 => e q z1) ⟨by rw [g1]; exact (if_pos rfl).symm, by rw [g2]; exact hh.2.1, by
          show -1 ≤ (if s = s then -1 else a.ln s) ∧ (if s = s then -1 else a.ln s) ≤ 2
          rw [if_pos rfl]; omega, hsz, fun i i0 i1 => by
          rw [e (x + 1) (by omega)]
          exact hh.2.2.2.2 i i0 i1⟩ (fun k9 z1 z2 z3 l9 z9 r9 z => sheetA.other z (if_neg z3) rfl (fun i i0 i1 => rfl) (fun i i0 i1 => rfl))
      exact ⟨_, rfl, hl9, a.rel s, Or.inr (Or.inr ⟨hs, by omega, he2, rfl⟩), hC9⟩
    · skip
      have hm := b01_ne h_18
      refine ab_bipush C dX8_drop_21 (by decide) (by decide +kernel) ?_
      refine ab_iret (st := []) C r dX8_drop_23 ?_
      exact ⟨_, rfl, hLO, a, Or.inr (Or.inl ⟨hs, by omega, rfl, rfl⟩), H⟩
  · skip
    have hs := b01_eq h_4
    refine ab_iconst C dX8_drop_7 (by decide) ?_
    refine ab_iret (st := []) C r dX8_drop_8 ?_
    exact ⟨_, rfl, hLO, a, Or.inl ⟨hs, rfl, rfl⟩, H⟩
set_option maxRecDepth 100000 in
set_option maxHeartbeats 4000000 in
theorem m_X8_item {D : va_G} {cA : Nat → ClassId} {S : List AbS} {M : AbM} {w al t rr u v g h b c k sh x0 x1 x2 x3 Bd : Nat} {a : St} (B_t : WL S w al t rr u v g h b c k sh x0 x1 x2 x3 Bd) (H : CRel a M w al t u g h b c x0 x1 x2 x3) {s l f y : Int} : Meth yX8_item cX8_item 6 (some .int) rmX8_item D cA S [vP w, vI s, vI l, vI f, vI y] M (qI fun q M2 => lo Bd M M2 ∧ ∃ b9, oItem a s l f y q b9 ∧ CRel b9 M2 w al t u g h b c x0 x1 x2 x3) := by
  refine ab_intro (lv := [vP w, vI s, vI l, vI f, vI y, vU]) (by decide +kernel) rfl (Nat.le_of_ble_eq_true rfl) ?_
  intro hO hargs K hKD hKA C r
  have C : Cx K cX8_item RX8 rmX8_item := C
  have i_s : inI s := hargs _ (List.mem_cons_of_mem _ (List.mem_cons_self))
  have i_l : inI l := hargs _ (List.mem_cons_of_mem _ (List.mem_cons_of_mem _ (List.mem_cons_self)))
  have i_f : inI f := hargs _ (List.mem_cons_of_mem _ (List.mem_cons_of_mem _ (List.mem_cons_of_mem _ (List.mem_cons_self))))
  have i_y : inI y := hargs _ (List.mem_cons_of_mem _ (List.mem_cons_of_mem _ (List.mem_cons_of_mem _ (List.mem_cons_of_mem _ (List.mem_cons_self)))))
  obtain ⟨⟨s_t, B_t_alphabet, B_t_tape, B_t_reader, B_t_lookedAt, B_t_spare, B_t_lawList, B_t_otherList, B_t_algebra, B_t_otherAlgebra, B_t_echelon, s_t_sheets, B_x0, B_x1, B_x2, B_x3⟩, hPl⟩ := id B_t
  obtain ⟨s_t_alphabet, -⟩ := id B_t_alphabet
  obtain ⟨s_t_tape, -⟩ := id B_t_tape
  obtain ⟨s_t_reader, -⟩ := id B_t_reader
  obtain ⟨s_t_lookedAt, -⟩ := id B_t_lookedAt
  obtain ⟨s_t_spare, -⟩ := id B_t_spare
  obtain ⟨s_t_lawList, -⟩ := id B_t_lawList
  obtain ⟨s_t_otherList, -⟩ := id B_t_otherList
  obtain ⟨s_t_algebra, -⟩ := id B_t_algebra
  obtain ⟨s_t_otherAlgebra, -⟩ := id B_t_otherAlgebra
  obtain ⟨s_t_echelon, -⟩ := id B_t_echelon
  have A_t_alphabet := H.1
  obtain ⟨⟨n1, n2, hPr⟩, -⟩ := id A_t_alphabet
  obtain ⟨p1, p2, -⟩ := id hPr
  have hLB := Lg_B a.n
  have hLO : lo Bd M M := lo.rf Bd M
  refine ab_iload_n C dX8_item_0 rfl rfl ?_
  refine ab_callS C cl_RX8_220 (m_X8_isSheet) (by decide) rfl rfl (Nat.le_of_ble_eq_true rfl) dX8_item_1 (ab_kI (fun r_1 M_1 h_1 => ?_))
  obtain ⟨rfl, rfl⟩ := h_1
  refine ab_if_eq (tgt := 14) C dX8_item_4 rfl (fun h_4 => ?_) (fun h_4 => ?_)
  · skip
    have hs := b01_eq h_4
    refine ab_iconst C dX8_item_14 (by decide) ?_
    refine ab_iret (st := []) C r dX8_item_15 ?_
    refine ⟨_, rfl, hLO, a, Or.inl ⟨fun z => ?_, rfl, rfl⟩, H⟩
    first
    | exact hs z.1
    | exact hl z.2
  · skip
    have hs := b01_ne h_4
    refine ab_iload_n C dX8_item_7 rfl rfl ?_
    refine ab_callS C cl_RX8_223 (m_X8_isLane) (by decide) rfl rfl (Nat.le_of_ble_eq_true rfl) dX8_item_8 (ab_kI (fun r_8 M_8 h_8 => ?_))
    obtain ⟨rfl, rfl⟩ := h_8
    refine ab_if_ne (tgt := 16) C dX8_item_11 rfl (fun h_11 => ?_) (fun h_11 => ?_)
    · skip
      have hl := b01_ne h_11
      obtain ⟨x, hxa, hxl, B_s⟩ := sh_at B_t (s := s) (by omega) (by omega)
      obtain ⟨s_s, -⟩ := id B_s
      have hxx : x0 ≤ x ∧ x ≤ x3 := by
        rcases hxa with ⟨-, rfl⟩ | ⟨-, rfl⟩ | ⟨-, rfl⟩ | ⟨-, rfl⟩ <;> omega
      have hh := H.2.2.2.2.2.2.at hxa
      have hsz := hh.2.2.2.1
      have hln := hh.2.2.1
      have he1 := hh.1
      have he2 := hh.2.1
      refine ab_aload_n C dX8_item_16 rfl rfl ?_
      refine gf_RX8_73 C s_t rfl dX8_item_17 ?_
      refine ab_iload_n C dX8_item_20 rfl rfl ?_
      refine ab_aaload (q := x) C s_t_sheets (by omega) hxl dX8_item_21 ?_
      refine ab_iload_n C dX8_item_22 rfl rfl ?_
      refine ab_iload_n C dX8_item_23 rfl rfl ?_
      refine ab_iconst C dX8_item_24 (by decide) ?_
      refine ab_callS C cl_RX8_236 (m_X8_refuseRow B_s (by omega) (by omega)) (by decide) rfl rfl (Nat.le_of_ble_eq_true rfl) dX8_item_25 (ab_kI (fun r_25 M_25 h_25 => ?_))
      obtain ⟨rfl, rfl⟩ := h_25
      obtain ⟨rv, hrv⟩ : ∃ rv, (if M x 1 = -1 then -11 else if M x 1 = l then (if 0 ≤ f ∧ f ≤ M x 2 ∧ 1 ≤ M x 2 - f then 0 else -13) else -12) = rv := ⟨_, rfl⟩
      rw [hrv]
      refine ab_istore5 (lv := []) C rfl dX8_item_28 ?_
      refine ab_iload C dX8_item_30 rfl ?_
      refine ab_if_eq (tgt := 38) C dX8_item_32 rfl (fun h_32 => ?_) (fun h_32 => ?_)
      · skip
        have hrv2 : M x 1 ≠ -1 ∧ M x 1 = l ∧ 0 ≤ f ∧ f < M x 2 := by
          rw [h_32] at hrv
          by_cases c1 : M x 1 = -1
          · rw [if_pos c1] at hrv; exact absurd hrv (by decide)
          · rw [if_neg c1] at hrv
            by_cases c2 : M x 1 = l
            · rw [if_pos c2] at hrv
              by_cases c3 : 0 ≤ f ∧ f ≤ M x 2 ∧ 1 ≤ M x 2 - f
              · exact ⟨c1, c2, c3.1, by omega⟩
              · rw [if_neg c3] at hrv; exact absurd hrv (by decide)
            · rw [if_neg c2] at hrv; exact absurd hrv (by decide)
        refine ab_aload_n C dX8_item_38 rfl rfl ?_
        refine gf_RX8_73 C s_t rfl dX8_item_39 ?_
        refine ab_iload_n C dX8_item_42 rfl rfl ?_
        refine ab_aaload (q := x) C s_t_sheets (by omega) hxl dX8_item_43 ?_
        refine ab_iload_n C dX8_item_44 rfl rfl ?_
        refine ab_iload C dX8_item_45 rfl ?_
        refine ab_callV C cl_RX8_240 (m_X5_set B_s (by omega) (by omega) (by omega)) (by decide) rfl s_s rfl rfl (Nat.le_of_ble_eq_true rfl) dX8_item_47 (ab_kV (fun M_47 h_47 => ?_))
        subst h_47
        refine ab_iconst C dX8_item_50 (by decide) ?_
        refine ab_iret (st := []) C r dX8_item_51 ?_
        obtain ⟨M9, hM9⟩ : ∃ M9, up M (x + 1) f (if M x 1 = 0 then y.bmod 256 else y) = M9 := ⟨_, rfl⟩
        rw [hM9]
        have e : ∀ q, q ≠ x + 1 → M9 q = M q := fun q z1 => by rw [← hM9, up_row z1]
        have hbm : -128 ≤ y.bmod 256 ∧ y.bmod 256 < 128 := ⟨by have := Int.le_bmod (x := y) (m := 256) (by decide); omega, by have := Int.bmod_lt (x := y) (m := 256) (by decide); omega⟩
        have g3 : ∀ j, M9 (x + 1) j = if j = f then (if M x 1 = 0 then y.bmod 256 else y) else M (x + 1) j := fun j => by
          rw [← hM9]
          by_cases z : j = f
          · rw [z, up_s, if_pos rfl]
          · rw [up_i z, if_neg z]
        obtain ⟨hC9, hl9⟩ := CRel.sheet (ln := a.ln) (sn := a.sn) (it := fun z => if z = 90 * s + f then (if l = 0 then y.bmod 256 else y) else a.it z) H B_t hxa (fun q z1 z2 => e q z2) ⟨by rw [e x (by omega)]; exact hh.1, by rw [e x (by omega)]; exact hh.2.1, hln, hsz, fun i i0 i1 => by
            have a6 := hh.2.2.2.2 i i0 i1
            rw [g3]
            show _ = (if 90 * s + i = 90 * s + f then (if l = 0 then y.bmod 256 else y) else a.it (90 * s + i)) ∧ -2147483648 ≤ (if 90 * s + i = 90 * s + f then (if l = 0 then y.bmod 256 else y) else a.it (90 * s + i)) ∧ (if 90 * s + i = 90 * s + f then (if l = 0 then y.bmod 256 else y) else a.it (90 * s + i)) ≤ 2147483647
            by_cases z : i = f
            · rw [if_pos z, if_pos (show 90 * s + i = 90 * s + f by omega), hrv2.2.1]
              have := i_y.1
              have := i_y.2
              refine ⟨rfl, ?_, ?_⟩ <;> split <;> omega
            · rw [if_neg z, if_neg (by omega)]
              exact a6⟩ (fun k9 z1 z2 z3 l9 z9 r9 z => sheetA.other z rfl rfl (fun i i0 i1 => if_neg (by omega)) (fun i i0 i1 => rfl))
        exact ⟨_, rfl, hl9, a.putI s l f y, Or.inr (Or.inr (Or.inr ⟨⟨hs, hl⟩, by omega, by omega, rfl, rfl⟩)), hC9⟩
      · skip
        refine ab_iload C dX8_item_35 rfl ?_
        refine ab_iret (st := []) C r dX8_item_37 ?_
        refine ⟨_, rfl, hLO, a, ?_, H⟩
        rw [← hrv]
        by_cases c1 : M x 1 = -1
        · rw [if_pos c1]
          exact Or.inr (Or.inl ⟨⟨hs, hl⟩, by omega, by rw [if_pos (by omega)], rfl⟩)
        · rw [if_neg c1]
          by_cases c2 : M x 1 = l
          · rw [if_pos c2]
            by_cases c3 : 0 ≤ f ∧ f ≤ M x 2 ∧ 1 ≤ M x 2 - f
            · exfalso
              rw [if_neg c1, if_pos c2, if_pos c3] at hrv
              exact h_32 hrv.symm
            · rw [if_neg c3]
              exact Or.inr (Or.inr (Or.inl ⟨⟨hs, hl⟩, by omega, by omega, rfl, rfl⟩))
          · rw [if_neg c2]
            exact Or.inr (Or.inl ⟨⟨hs, hl⟩, by omega, by rw [if_neg (by omega)], rfl⟩)
    · skip
      have hl := b01_eq h_11
      refine ab_iconst C dX8_item_14 (by decide) ?_
      refine ab_iret (st := []) C r dX8_item_15 ?_
      refine ⟨_, rfl, hLO, a, Or.inl ⟨fun z => ?_, rfl, rfl⟩, H⟩
      first
      | exact hs z.1
      | exact hl z.2
set_option maxRecDepth 100000 in
set_option maxHeartbeats 4000000 in
theorem m_X8_readRow {D : va_G} {cA : Nat → ClassId} {S : List AbS} {M : AbM} {w al t rr u v g h b c k sh x0 x1 x2 x3 Bd : Nat} {a : St} (B_t : WL S w al t rr u v g h b c k sh x0 x1 x2 x3 Bd) (H : CRel a M w al t u g h b c x0 x1 x2 x3) {x : Nat} {f d : Int} (B_s : shSh S x) (hx : v + 1 < x) (d2 : 2 ≤ d) (d4 : d ≤ 4) (f0 : 0 ≤ f) (f1 : f + pw a.n d ≤ M x 2) (f2 : M x 2 ≤ 90) (hit : ∀ i, 0 ≤ i → i < 90 → -2147483648 ≤ M (x + 1) i ∧ M (x + 1) i ≤ 2147483647) : Meth yX8_readRow cX8_readRow 5 none rmX8_readRow D cA S [vP w, vP x, vI f, vI d] M (qV fun M2 => (∀ q, q ≠ v + 1 → M2 q = M q) ∧ ∀ z, 0 ≤ z → z < pw a.n d → M2 (v + 1) (wsm a.n d + z) = if z < pw a.n d then M (x + 1) (f + z) % a.p else 0) := by
  refine ab_intro (lv := [vP w, vP x, vI f, vI d, vU]) (by decide +kernel) rfl (Nat.le_of_ble_eq_true rfl) ?_
  intro hO hargs K hKD hKA C r
  have C : Cx K cX8_readRow RX8 rmX8_readRow := C
  have i_f : inI f := hargs _ (List.mem_cons_of_mem _ (List.mem_cons_of_mem _ (List.mem_cons_self)))
  have i_d : inI d := hargs _ (List.mem_cons_of_mem _ (List.mem_cons_of_mem _ (List.mem_cons_of_mem _ (List.mem_cons_self))))
  obtain ⟨⟨s_t, B_t_alphabet, B_t_tape, B_t_reader, B_t_lookedAt, B_t_spare, B_t_lawList, B_t_otherList, B_t_algebra, B_t_otherAlgebra, B_t_echelon, s_t_sheets, B_x0, B_x1, B_x2, B_x3⟩, hPl⟩ := id B_t
  obtain ⟨s_t_alphabet, -⟩ := id B_t_alphabet
  obtain ⟨s_t_tape, -⟩ := id B_t_tape
  obtain ⟨s_t_reader, -⟩ := id B_t_reader
  obtain ⟨s_t_lookedAt, -⟩ := id B_t_lookedAt
  obtain ⟨s_t_spare, -⟩ := id B_t_spare
  obtain ⟨s_t_lawList, -⟩ := id B_t_lawList
  obtain ⟨s_t_otherList, -⟩ := id B_t_otherList
  obtain ⟨s_t_algebra, -⟩ := id B_t_algebra
  obtain ⟨s_t_otherAlgebra, -⟩ := id B_t_otherAlgebra
  obtain ⟨s_t_echelon, -⟩ := id B_t_echelon
  have A_t_alphabet := H.1
  obtain ⟨⟨n1, n2, hPr⟩, -⟩ := id A_t_alphabet
  obtain ⟨p1, p2, -⟩ := id hPr
  have hLB := Lg_B a.n
  have hLO : lo Bd M M := lo.rf Bd M
  obtain ⟨s_s, -⟩ := id B_s
  have hB := sz_B n1 n2 (show 0 ≤ d by omega) (show d ≤ Lg a.n by omega)
  refine ab_aload_n C dX8_readRow_0 rfl rfl ?_
  refine gf_RX8_39 C s_t rfl dX8_readRow_1 ?_
  refine ab_callV C cl_RX8_93 (m_X6_clear B_t_spare) (by decide) rfl s_t_spare rfl rfl (Nat.le_of_ble_eq_true rfl) dX8_readRow_4 (ab_kV (fun M_4 h_4 => ?_))
  subst h_4
  refine ab_iconst C dX8_readRow_7 (by decide) ?_
  refine ab_istore4 (lv := []) C rfl dX8_readRow_8 ?_
  refine ab_loop (fun z (M5 : AbM) => AJ K S 10 [vP w, vP x, vI f, vI d, vI z] [] M5) (fun z M5 => 0 ≤ z ∧ (∀ q, q ≠ v + 1 → M5 q = M q) ∧ ∀ y, 0 ≤ y → y < pw a.n d → M5 (v + 1) (wsm a.n d + y) = if y < z then M (x + 1) (f + y) % a.p else 0) (pw a.n d) ?_ 0 _ (by omega) ⟨by omega, fun q hq => upA_row hq, fun y z1 z2 => by rw [upA_s, if_pos (by omega), if_neg (by omega)]⟩
  · intro z M5 hz hI ih
    obtain ⟨z0, k1, k3⟩ := hI
    have A5 := A_t_alphabet.rows (M2 := M5) (fun q z1 z2 => k1 q (by omega))
    refine ab_iload C dX8_readRow_10 rfl ?_
    refine ab_aload_n C dX8_readRow_12 rfl rfl ?_
    refine gf_RX8_10 C s_t rfl dX8_readRow_13 ?_
    refine ab_iload_n C dX8_readRow_16 rfl rfl ?_
    refine ab_callV C cl_RX8_198 (m_X1_words B_t_alphabet A5 (by omega) (by omega)) (by decide) rfl s_t_alphabet rfl rfl (Nat.le_of_ble_eq_true rfl) dX8_readRow_17 (ab_kI (fun r_17 M_17 h_17 => ?_))
    obtain ⟨rfl, rfl⟩ := h_17
    refine ab_icmp_ge (tgt := 47) C dX8_readRow_20 rfl (fun h_20 => ?_) (fun h_20 => ?_)
    · skip
      refine ab_vret (st := []) C r dX8_readRow_47 ?_
      exact ⟨rfl, k1, fun y z1 z2 => by rw [k3 y z1 z2, if_pos (by omega), if_pos z2]⟩
    · skip
      refine ab_aload_n C dX8_readRow_23 rfl rfl ?_
      refine gf_RX8_39 C s_t rfl dX8_readRow_24 ?_
      refine ab_iload_n C dX8_readRow_27 rfl rfl ?_
      refine ab_iload C dX8_readRow_28 rfl ?_
      refine ab_aload_n C dX8_readRow_30 rfl rfl ?_
      refine ab_iload_n C dX8_readRow_31 rfl rfl ?_
      refine ab_iload C dX8_readRow_32 rfl ?_
      refine ab_iadd C dX8_readRow_34 (by omega) ?_
      refine ab_callV C cl_RX8_263 (m_X5_at B_s (by omega) (by rw [k1 x (by omega)]; omega) (by rw [k1 x (by omega)]; omega)) (by decide) rfl s_s rfl rfl (Nat.le_of_ble_eq_true rfl) dX8_readRow_35 (ab_kL (fun r_35 M_35 h_35 => ?_))
      obtain ⟨rfl, rfl⟩ := h_35
      rw [k1 (x + 1) (by omega)]
      have hi9 := hit (f + z) (by omega) (by omega)
      refine ab_callV C cl_RX8_214 (m_X6_add B_t_spare A5 (by omega) (by omega) (by omega) (by omega) (by omega) (by omega) (by omega)) (by decide) rfl s_t_spare rfl rfl (Nat.le_of_ble_eq_true rfl) dX8_readRow_38 (ab_kV (fun M_38 h_38 => ?_))
      subst h_38
      refine ab_iinc4 (lv := []) C rfl dX8_readRow_41 (by omega) ?_
      refine ab_goto (tgt := 10) C dX8_readRow_44 rfl ?_
      refine ih _ (by omega) ⟨by omega, fun q hq => by rw [up_row hq]; exact k1 q hq, fun y z1 z2 => ?_⟩
      by_cases q : y = z
      · rw [q, up_s, if_pos (by omega), k3 z z0 (by omega), if_neg (by omega), Int.zero_add]
      · rw [up_i (by omega), k3 y z1 z2]
        by_cases q2 : y < z
        · rw [if_pos q2, if_pos (by omega)]
        · rw [if_neg q2, if_neg (by omega)]
set_option maxRecDepth 100000 in
set_option maxHeartbeats 4000000 in
theorem m_X8_laws {D : va_G} {cA : Nat → ClassId} {S : List AbS} {M : AbM} {w al t rr u v g h b c k sh x0 x1 x2 x3 Bd : Nat} {a : St} (B_t : WL S w al t rr u v g h b c k sh x0 x1 x2 x3 Bd) (H : CRel a M w al t u g h b c x0 x1 x2 x3) {s l f d : Int} : Meth yX8_laws cX8_laws 7 (some .int) rmX8_laws D cA S [vP w, vI s, vI l, vI f, vI d] M (qI fun q M2 => lo Bd M M2 ∧ ∃ b9, oLaws a s l f d q b9 ∧ CRel b9 M2 w al t u g h b c x0 x1 x2 x3) := by
  refine ab_intro (lv := [vP w, vI s, vI l, vI f, vI d, vU, vU]) (by decide +kernel) rfl (Nat.le_of_ble_eq_true rfl) ?_
  intro hO hargs K hKD hKA C r
  have C : Cx K cX8_laws RX8 rmX8_laws := C
  have i_s : inI s := hargs _ (List.mem_cons_of_mem _ (List.mem_cons_self))
  have i_l : inI l := hargs _ (List.mem_cons_of_mem _ (List.mem_cons_of_mem _ (List.mem_cons_self)))
  have i_f : inI f := hargs _ (List.mem_cons_of_mem _ (List.mem_cons_of_mem _ (List.mem_cons_of_mem _ (List.mem_cons_self))))
  have i_d : inI d := hargs _ (List.mem_cons_of_mem _ (List.mem_cons_of_mem _ (List.mem_cons_of_mem _ (List.mem_cons_of_mem _ (List.mem_cons_self)))))
  obtain ⟨⟨s_t, B_t_alphabet, B_t_tape, B_t_reader, B_t_lookedAt, B_t_spare, B_t_lawList, B_t_otherList, B_t_algebra, B_t_otherAlgebra, B_t_echelon, s_t_sheets, B_x0, B_x1, B_x2, B_x3⟩, hPl⟩ := id B_t
  obtain ⟨s_t_alphabet, -⟩ := id B_t_alphabet
  obtain ⟨s_t_tape, -⟩ := id B_t_tape
  obtain ⟨s_t_reader, -⟩ := id B_t_reader
  obtain ⟨s_t_lookedAt, -⟩ := id B_t_lookedAt
  obtain ⟨s_t_spare, -⟩ := id B_t_spare
  obtain ⟨s_t_lawList, -⟩ := id B_t_lawList
  obtain ⟨s_t_otherList, -⟩ := id B_t_otherList
  obtain ⟨s_t_algebra, -⟩ := id B_t_algebra
  obtain ⟨s_t_otherAlgebra, -⟩ := id B_t_otherAlgebra
  obtain ⟨s_t_echelon, -⟩ := id B_t_echelon
  have A_t_alphabet := H.1
  obtain ⟨⟨n1, n2, hPr⟩, -⟩ := id A_t_alphabet
  obtain ⟨p1, p2, -⟩ := id hPr
  have hLB := Lg_B a.n
  have hLO : lo Bd M M := lo.rf Bd M
  refine ab_iload_n C dX8_laws_0 rfl rfl ?_
  refine ab_callS C cl_RX8_220 (m_X8_isSheet) (by decide) rfl rfl (Nat.le_of_ble_eq_true rfl) dX8_laws_1 (ab_kI (fun r_1 M_1 h_1 => ?_))
  obtain ⟨rfl, rfl⟩ := h_1
  refine ab_if_eq (tgt := 22) C dX8_laws_4 rfl (fun h_4 => ?_) (fun h_4 => ?_)
  · skip
    have hs := b01_eq h_4
    refine ab_iconst C dX8_laws_22 (by decide) ?_
    refine ab_iret (st := []) C r dX8_laws_23 ?_
    refine ⟨_, rfl, hLO, a, Or.inl ⟨fun z => ?_, rfl, rfl⟩, H⟩
    first
    | exact hs z.1.1
    | exact hl z.1.2
    | exact hd z.2
  · skip
    have hs := b01_ne h_4
    refine ab_iload_n C dX8_laws_7 rfl rfl ?_
    refine ab_callS C cl_RX8_223 (m_X8_isLane) (by decide) rfl rfl (Nat.le_of_ble_eq_true rfl) dX8_laws_8 (ab_kI (fun r_8 M_8 h_8 => ?_))
    obtain ⟨rfl, rfl⟩ := h_8
    refine ab_if_eq (tgt := 22) C dX8_laws_11 rfl (fun h_11 => ?_) (fun h_11 => ?_)
    · skip
      have hl := b01_eq h_11
      refine ab_iconst C dX8_laws_22 (by decide) ?_
      refine ab_iret (st := []) C r dX8_laws_23 ?_
      refine ⟨_, rfl, hLO, a, Or.inl ⟨fun z => ?_, rfl, rfl⟩, H⟩
      first
      | exact hs z.1.1
      | exact hl z.1.2
      | exact hd z.2
    · skip
      have hl := b01_ne h_11
      refine ab_iload C dX8_laws_14 rfl ?_
      refine ab_callS C cl_RX8_118 (m_X8_isLawLength) (by decide) rfl rfl (Nat.le_of_ble_eq_true rfl) dX8_laws_16 (ab_kI (fun r_16 M_16 h_16 => ?_))
      obtain ⟨rfl, rfl⟩ := h_16
      refine ab_if_ne (tgt := 24) C dX8_laws_19 rfl (fun h_19 => ?_) (fun h_19 => ?_)
      · skip
        have hd := b01_ne h_19
        obtain ⟨x, hxa, hxl, B_s⟩ := sh_at B_t (s := s) (by omega) (by omega)
        obtain ⟨s_s, -⟩ := id B_s
        have hxx : x0 ≤ x ∧ x ≤ x3 := by
          rcases hxa with ⟨-, rfl⟩ | ⟨-, rfl⟩ | ⟨-, rfl⟩ | ⟨-, rfl⟩ <;> omega
        have hh := H.2.2.2.2.2.2.at hxa
        have hsz := hh.2.2.2.1
        have hln := hh.2.2.1
        have he1 := hh.1
        have he2 := hh.2.1
        have hB := sz_B n1 n2 (show 0 ≤ d by omega) (show d ≤ Lg a.n by omega)
        refine ab_aload_n C dX8_laws_24 rfl rfl ?_
        refine gf_RX8_10 C s_t rfl dX8_laws_25 ?_
        refine ab_iload C dX8_laws_28 rfl ?_
        refine ab_callV C cl_RX8_198 (m_X1_words B_t_alphabet A_t_alphabet (by omega) (by omega)) (by decide) rfl s_t_alphabet rfl rfl (Nat.le_of_ble_eq_true rfl) dX8_laws_30 (ab_kI (fun r_30 M_30 h_30 => ?_))
        obtain ⟨rfl, rfl⟩ := h_30
        refine ab_istore5 (lv := []) C rfl dX8_laws_33 ?_
        refine ab_aload_n C dX8_laws_35 rfl rfl ?_
        refine gf_RX8_73 C s_t rfl dX8_laws_36 ?_
        refine ab_iload_n C dX8_laws_39 rfl rfl ?_
        refine ab_aaload (q := x) C s_t_sheets (by omega) hxl dX8_laws_40 ?_
        refine ab_iload_n C dX8_laws_41 rfl rfl ?_
        refine ab_iload_n C dX8_laws_42 rfl rfl ?_
        refine ab_iload C dX8_laws_43 rfl ?_
        refine ab_callS C cl_RX8_236 (m_X8_refuseRow B_s (by omega) (by omega)) (by decide) rfl rfl (Nat.le_of_ble_eq_true rfl) dX8_laws_45 (ab_kI (fun r_45 M_45 h_45 => ?_))
        obtain ⟨rfl, rfl⟩ := h_45
        obtain ⟨rv, hrv⟩ : ∃ rv, (if M x 1 = -1 then -11 else if M x 1 = l then (if 0 ≤ f ∧ f ≤ M x 2 ∧ pw a.n d ≤ M x 2 - f then 0 else -13) else -12) = rv := ⟨_, rfl⟩
        rw [hrv]
        refine ab_istore6 (lv := []) C rfl dX8_laws_48 ?_
        refine ab_iload C dX8_laws_50 rfl ?_
        refine ab_if_eq (tgt := 58) C dX8_laws_52 rfl (fun h_52 => ?_) (fun h_52 => ?_)
        · skip
          have hrv2 : M x 1 ≠ -1 ∧ M x 1 = l ∧ 0 ≤ f ∧ f + pw a.n d ≤ M x 2 := by
            rw [h_52] at hrv
            by_cases c1 : M x 1 = -1
            · rw [if_pos c1] at hrv; exact absurd hrv (by decide)
            · rw [if_neg c1] at hrv
              by_cases c2 : M x 1 = l
              · rw [if_pos c2] at hrv
                by_cases c3 : 0 ≤ f ∧ f ≤ M x 2 ∧ pw a.n d ≤ M x 2 - f
                · exact ⟨c1, c2, c3.1, by omega⟩
                · rw [if_neg c3] at hrv; exact absurd hrv (by decide)
              · rw [if_neg c2] at hrv; exact absurd hrv (by decide)
          refine ab_aload_n C dX8_laws_58 rfl rfl ?_
          refine ab_aload_n C dX8_laws_59 rfl rfl ?_
          refine gf_RX8_73 C s_t rfl dX8_laws_60 ?_
          refine ab_iload_n C dX8_laws_63 rfl rfl ?_
          refine ab_aaload (q := x) C s_t_sheets (by omega) hxl dX8_laws_64 ?_
          refine ab_iload_n C dX8_laws_65 rfl rfl ?_
          refine ab_iload C dX8_laws_66 rfl ?_
          refine ab_callV C cl_RX8_243 (m_X8_readRow B_t H B_s (by omega) (by omega) (by omega) (by omega) (by omega) (by omega) (fun i i0 i1 => by have := hh.2.2.2.2 i i0 i1; rw [this.1]; exact this.2)) (by decide) rfl s_t rfl rfl (Nat.le_of_ble_eq_true rfl) dX8_laws_68 (ab_kV (fun M_68 h_68 => ?_))
          obtain ⟨k1, k3⟩ := h_68
          have esv : ∀ y, 0 ≤ y → y < pw a.n d → M_68 (v + 1) (wsm a.n d + y) = shV a s f d (wsm a.n d + y) := fun y z1 z2 => by
            rw [k3 y z1 z2, if_pos z2, (hh.2.2.2.2 (f + y) (by omega) (by omega)).1]
            unfold shV
            rw [show 90 * s + f + (wsm a.n d + y - wsm a.n d) = 90 * s + (f + y) by omega]
          have ecn : cntF (fun w => M_68 (v + 1) (wsm a.n d + w)) (pw a.n d) = cntF (fun w => shV a s f d (wsm a.n d + w)) (pw a.n d) := cntF_congr (fun y z1 z2 => by rw [esv y z1 z2])
          obtain ⟨H1, hl1⟩ := CRel.sumU (s := a.sum) H B_t (M2 := M_68) (fun q z => k1 q (by omega)) (by rw [k1 (u + 1) (by omega)]; exact H.2.2.2.2.1)
          have H1 : CRel a M_68 w al t u g h b c x0 x1 x2 x3 := H1
          refine ab_aload_n C dX8_laws_71 rfl rfl ?_
          refine gf_RX8_39 C s_t rfl dX8_laws_72 ?_
          refine ab_iload C dX8_laws_75 rfl ?_
          refine ab_callV C cl_RX8_205 (m_X6_hasTermsOf B_t_spare H1.1 (by omega) (by omega) (by omega)) (by decide) rfl s_t_spare rfl rfl (Nat.le_of_ble_eq_true rfl) dX8_laws_77 (ab_kI (fun r_77 M_77 h_77 => ?_))
          obtain ⟨rfl, rfl⟩ := h_77
          rw [ecn]
          refine ab_if_ne (tgt := 86) C dX8_laws_80 rfl (fun h_80 => ?_) (fun h_80 => ?_)
          · skip
            refine ab_aload_n C dX8_laws_86 rfl rfl ?_
            refine gf_RX8_45 C s_t rfl dX8_laws_87 ?_
            refine ab_callV C cl_RX8_121 (m_X3_size B_t_lawList) (by decide) rfl s_t_lawList rfl rfl (Nat.le_of_ble_eq_true rfl) dX8_laws_90 (ab_kI (fun r_90 M_90 h_90 => ?_))
            obtain ⟨rfl, rfl⟩ := h_90
            refine ab_bipush C dX8_laws_93 (by decide) (by decide +kernel) ?_
            rw [H1.2.1.1]
            refine ab_icmp_lt (tgt := 101) C dX8_laws_95 rfl (fun h_95 => ?_) (fun h_95 => ?_)
            · skip
              refine ab_aload_n C dX8_laws_101 rfl rfl ?_
              refine ab_iload C dX8_laws_102 rfl ?_
              refine ab_callV C cl_RX8_122 (m_X8_addLaw (V := shV a s f d) B_t H1 hd.1 hd.2 (by omega) (fun y z1 z2 => ⟨esv y z1 z2, emod_in p1⟩)) (by decide) rfl s_t rfl rfl (Nat.le_of_ble_eq_true rfl) dX8_laws_104 (ab_kI (fun r_104 M_104 h_104 => ?_))
              obtain ⟨hl2, H2, hq2⟩ := h_104
              refine ab_iret (st := []) C r dX8_laws_107 ?_
              exact ⟨_, rfl, hl1.tr hl2, _, Or.inr (Or.inr (Or.inr (Or.inr ⟨⟨⟨hs, hl⟩, hd⟩, by omega, by omega, fun z => by rw [if_pos z] at h_80; exact absurd rfl h_80, Or.inr ⟨by omega, hq2, rfl⟩⟩))), H2⟩
            · skip
              refine ab_bipush C dX8_laws_98 (by decide) (by decide +kernel) ?_
              refine ab_iret (st := []) C r dX8_laws_100 ?_
              exact ⟨_, rfl, hl1, a, Or.inr (Or.inr (Or.inr (Or.inr ⟨⟨⟨hs, hl⟩, hd⟩, by omega, by omega, fun z => by rw [if_pos z] at h_80; exact absurd rfl h_80, Or.inl ⟨by have := H.2.1.2.1; omega, rfl, rfl⟩⟩))), H1⟩
          · skip
            refine ab_bipush C dX8_laws_83 (by decide) (by decide +kernel) ?_
            refine ab_iret (st := []) C r dX8_laws_85 ?_
            refine ⟨_, rfl, hl1, a, Or.inr (Or.inr (Or.inr (Or.inl ⟨⟨⟨hs, hl⟩, hd⟩, by omega, by omega, ?_, rfl, rfl⟩))), H1⟩
            by_cases z : cntF (fun w => shV a s f d (wsm a.n d + w)) (pw a.n d) = 0
            · exact z
            · exfalso; rw [if_neg z] at h_80; exact absurd h_80 (by decide)
        · skip
          refine ab_iload C dX8_laws_55 rfl ?_
          refine ab_iret (st := []) C r dX8_laws_57 ?_
          refine ⟨_, rfl, hLO, a, ?_, H⟩
          rw [← hrv]
          by_cases c1 : M x 1 = -1
          · rw [if_pos c1]
            exact Or.inr (Or.inl ⟨⟨⟨hs, hl⟩, hd⟩, by omega, by rw [if_pos (by omega)], rfl⟩)
          · rw [if_neg c1]
            by_cases c2 : M x 1 = l
            · rw [if_pos c2]
              by_cases c3 : 0 ≤ f ∧ f ≤ M x 2 ∧ pw a.n d ≤ M x 2 - f
              · exfalso
                rw [if_neg c1, if_pos c2, if_pos c3] at hrv
                exact h_52 hrv.symm
              · rw [if_neg c3]
                exact Or.inr (Or.inr (Or.inl ⟨⟨⟨hs, hl⟩, hd⟩, by omega, by omega, rfl, rfl⟩))
            · rw [if_neg c2]
              exact Or.inr (Or.inl ⟨⟨⟨hs, hl⟩, hd⟩, by omega, by rw [if_neg (by omega)], rfl⟩)
      · skip
        have hd := b01_eq h_19
        refine ab_iconst C dX8_laws_22 (by decide) ?_
        refine ab_iret (st := []) C r dX8_laws_23 ?_
        refine ⟨_, rfl, hLO, a, Or.inl ⟨fun z => ?_, rfl, rfl⟩, H⟩
        first
        | exact hs z.1.1
        | exact hl z.1.2
        | exact hd z.2
