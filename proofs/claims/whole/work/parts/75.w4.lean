set_option maxRecDepth 100000 in
set_option maxHeartbeats 4000000 in
theorem m_X8_renewOther {D : va_G} {cA : Nat → ClassId} {S : List AbS} {M : AbM} {w al t rr u v g h b c k sh x0 x1 x2 x3 Bd : Nat} {a : St} (B_t : WL S w al t rr u v g h b c k sh x0 x1 x2 x3 Bd) (H : CRel a M w al t u g h b c x0 x1 x2 x3) : Meth yX8_renewOther cX8_renewOther 4 none rmX8_renewOther D cA S [vP w] M (qV fun M2 => lo Bd M M2 ∧ CRel a M2 w al t u g h b c x0 x1 x2 x3 ∧ M2 w 11 = 0) := by
  refine ab_intro (lv := [vP w, vU, vU, vU]) (by decide +kernel) rfl (Nat.le_of_ble_eq_true rfl) ?_
  intro hO hargs K hKD hKA C r
  have C : Cx K cX8_renewOther RX8 rmX8_renewOther := C
  obtain ⟨⟨s_t, B_t_alphabet, B_t_tape, B_t_reader, B_t_lookedAt, B_t_spare, B_t_lawList, B_t_otherList, B_t_algebra, B_t_otherAlgebra, B_t_echelon, s_t_sheets, B_x0, B_x1, B_x2, B_x3⟩, hPl⟩ := id B_t
  obtain ⟨s_t_alphabet, -⟩ := id B_t_alphabet
  obtain ⟨s_t_tape, -⟩ := id B_t_tape
  obtain ⟨s_t_reader, -⟩ := id B_t_reader
  obtain ⟨s_t_lookedAt, -⟩ := id B_t_lookedAt
  obtain ⟨s_t_spare, -⟩ := id B_t_spare
  obtain ⟨s_t_lawList, -⟩ := id B_t_lawList
  obtain ⟨s_t_otherList, -⟩ := id B_t_otherList
  obtain ⟨s_t_algebra, -⟩ := id B_t_algebra
  obtain ⟨s_t_otherAlgebra, -⟩ := id B_t_otherAlgebra
  obtain ⟨s_t_echelon, -⟩ := id B_t_echelon
  have A_t_alphabet := H.1
  obtain ⟨⟨n1, n2, hPr⟩, -⟩ := id A_t_alphabet
  obtain ⟨p1, p2, -⟩ := id hPr
  have hLB := Lg_B a.n
  have hLO : lo Bd M M := lo.rf Bd M
  have hp29 := pw2_9 n1 n2
  have hpp2 := pw_pos (d := 2) n1
  have hNB := sNm_B (p := a.p) (sz := a.sz) (len := a.len) (num := a.num) (d := 2) n1
  have hB2 := sz_B n1 n2 (show (0 : Int) ≤ 2 by omega) (show 2 ≤ Lg a.n by omega)
  refine ab_aload_n C dX8_renewOther_0 rfl rfl ?_
  refine gf_RX8_78 C s_t rfl dX8_renewOther_1 ?_
  refine ab_if_ne (tgt := 8) C dX8_renewOther_4 rfl (fun h_4 => ?_) (fun h_4 => ?_)
  · skip
    have hw1 : M w 11 = 1 := by have := H.2.2.2.1.1; omega
    refine ab_aload_n C dX8_renewOther_8 rfl rfl ?_
    refine gf_RX8_49 C s_t rfl dX8_renewOther_9 ?_
    refine ab_callV C cl_RX8_90 (m_X3_clear B_t_otherList) (by decide) rfl s_t_otherList rfl rfl (Nat.le_of_ble_eq_true rfl) dX8_renewOther_12 (ab_kV (fun M_12 h_12 => ?_))
    subst h_12
    obtain ⟨hC0, hl0, hw0⟩ := CRel.othU (M2 := up M h 2 0) H B_t (fun q hq => up_row (by omega)) hw1
    refine ab_iconst C dX8_renewOther_15 (by decide) ?_
    refine ab_istore1 (lv := []) C rfl dX8_renewOther_16 ?_
    refine ab_loop (fun i (z : AbV × AbV × AbM) => AJ K S 17 [vP w, vI i, z.1, z.2.1] [] z.2.2) (fun i z => (0 ≤ i ∧ i ≤ (sNm a.n a.p a.sz a.len a.num 2)) ∧ lo Bd M z.2.2 ∧ CRel a z.2.2 w al t u g h b c x0 x1 x2 x3 ∧ z.2.2 w 11 = 1 ∧ z.2.2 h 2 = i ∧ OLr a z.2.2 h i) (sNm a.n a.p a.sz a.len a.num 2) ?_ 0 (vU, vU, up M h 2 0) (by omega) ⟨⟨by omega, by omega⟩, hl0, hC0, hw0, up_s, fun j z1 z2 => by omega⟩
    · intro i z hi hI ih
      obtain ⟨y1, y2, M5⟩ := z
      obtain ⟨⟨i0, iN⟩, hLO5, H5, hw5, k2, kO⟩ := hI
      dsimp only at hLO5 H5 hw5 k2 kO ih ⊢
      refine ab_iload_n C dX8_renewOther_17 rfl rfl ?_
      refine ab_aload_n C dX8_renewOther_18 rfl rfl ?_
      refine gf_RX8_57 C s_t rfl dX8_renewOther_19 ?_
      refine ab_iconst C dX8_renewOther_22 (by decide) ?_
      refine ab_callV C cl_RX8_155 (m_X0_normalsOf B_t_algebra H5.1 (by omega) (by omega) H5.2.1.ok H5.2.2.1 (by omega) (by omega)) (by decide) rfl s_t_algebra rfl rfl (Nat.le_of_ble_eq_true rfl) dX8_renewOther_23 (ab_kI (fun r_23 M_23 h_23 => ?_))
      obtain ⟨hs1, hA1, hd1, hv1⟩ := h_23
      have e1 : ∀ q, (q < b ∨ b + 6 < q) → M_23 q = M5 q := fun q hq => hs1 q (by simp; omega)
      obtain ⟨z1, z2, z3, z4, z5, z6⟩ := H5.2.1.eq
      rw [z3] at hv1
      subst hv1
      obtain ⟨hC1, hl1⟩ := H5.alg B_t hs1 hA1
      have hLO5 := hLO5.tr hl1
      have k2' : M_23 h 2 = i := by rw [e1 h (by omega)]; exact k2
      have kO' : OLr a M_23 h i := kO.rows (e1 _ (by omega)) (e1 _ (by omega))
      have hw5' : M_23 w 11 = 1 := by rw [e1 w (by omega)]; exact hw5
      clear hs1 hA1 hd1 z1 z2 z3 z4 z5 z6 e1
      refine ab_icmp_ge (tgt := 91) C dX8_renewOther_26 rfl (fun h_26 => ?_) (fun h_26 => ?_)
      · skip
        refine ab_aload_n C dX8_renewOther_91 rfl rfl ?_
        refine gf_RX8_61 C s_t rfl dX8_renewOther_92 ?_
        refine ab_iconst C dX8_renewOther_95 (by decide) ?_
        refine ab_callV C cl_RX8_247 (m_X0_forgetFrom B_t_otherAlgebra hC1.1 (by omega) (by omega) (by omega) (by omega)) (by decide) rfl s_t_otherAlgebra rfl rfl (Nat.le_of_ble_eq_true rfl) dX8_renewOther_96 (ab_kV (fun M_96 h_96 => ?_))
        subst h_96
        refine ab_aload_n C dX8_renewOther_99 rfl rfl ?_
        refine ab_iconst C dX8_renewOther_100 (by decide) ?_
        refine pf_RX8_78 C (by omega) s_t rfl dX8_renewOther_101 ?_
        refine ab_vret (st := []) C r dX8_renewOther_104 ?_
        have ei : i = (sNm a.n a.p a.sz a.len a.num 2) := by omega
        obtain ⟨M9, hM9⟩ : ∃ M9, up (up M_23 c 8 (min (M_23 c 8) (0 - 1))) w 11 0 = M9 := ⟨_, rfl⟩
        rw [hM9]
        have hc8 := hC1.2.2.2.1.2.1
        obtain ⟨hC9, hl9⟩ := CRel.othF (M2 := M9) hC1 B_t (fun q z1 z2 => by rw [← hM9, up_row z1, up_row z2]) (by rw [← hM9, up_s]) (by rw [← hM9, up_k (by omega), up_s]; omega) (by rw [k2', ei]) (by omega) (by rw [k2']; exact kO')
        exact ⟨rfl, hLO5.tr hl9, hC9, by rw [← hM9, up_s]⟩
      · skip
        refine ab_aload_n C dX8_renewOther_29 rfl rfl ?_
        refine gf_RX8_57 C s_t rfl dX8_renewOther_30 ?_
        refine ab_iconst C dX8_renewOther_33 (by decide) ?_
        refine ab_iload_n C dX8_renewOther_34 rfl rfl ?_
        refine ab_callV C cl_RX8_161 (m_X0_normalWord B_t_algebra hC1.1 (by omega) (by omega) hC1.2.1.ok hC1.2.2.1 (by omega) (by omega) (by omega)) (by decide) rfl s_t_algebra rfl rfl (Nat.le_of_ble_eq_true rfl) dX8_renewOther_35 (ab_kI (fun r_35 M_35 h_35 => ?_))
        obtain ⟨hs1, hA1, hd1, hv1⟩ := h_35
        have e1 : ∀ q, (q < b ∨ b + 6 < q) → M_35 q = M_23 q := fun q hq => hs1 q (by simp; omega)
        obtain ⟨z1, z2, z3, z4, z5, z6⟩ := hC1.2.1.eq
        rw [z1] at hv1
        subst hv1
        obtain ⟨hC2, hl2⟩ := hC1.alg B_t hs1 hA1
        have hLO5 := hLO5.tr hl2
        have k2'' : M_35 h 2 = i := by rw [e1 h (by omega)]; exact k2'
        have kO'' : OLr a M_35 h i := kO'.rows (e1 _ (by omega)) (e1 _ (by omega))
        have hw5'' : M_35 w 11 = 1 := by rw [e1 w (by omega)]; exact hw5'
        obtain ⟨nw0, nw1, -⟩ := nthF_in (f := nlA (sld a.n a.p a.sz a.len a.num 2)) (N := pw a.n 2) (j := i) (by omega) (by omega) (show i < sNm a.n a.p a.sz a.len a.num 2 by omega)
        clear hs1 hA1 hd1 z1 z2 z3 z4 z5 z6 e1
        refine ab_istore2 (lv := []) C rfl dX8_renewOther_38 ?_
        refine ab_aload_n C dX8_renewOther_39 rfl rfl ?_
        refine gf_RX8_49 C s_t rfl dX8_renewOther_40 ?_
        refine ab_iconst C dX8_renewOther_43 (by decide) ?_
        refine ab_callV C cl_RX8_253 (m_X3_open B_t_otherList (by omega) (by omega)) (by decide) rfl s_t_otherList rfl rfl (Nat.le_of_ble_eq_true rfl) dX8_renewOther_44 (ab_kV (fun M_44 h_44 => ?_))
        rw [k2''] at h_44
        obtain ⟨hC3, hl3, hw3⟩ := CRel.othU (M2 := M_44) hC2 B_t (fun q hq => by rw [← h_44, up_row (by omega), up_row (by omega)]) hw5''
        have hLO6 := hLO5.tr hl3
        have j2 : M_44 h 2 = i + 1 := by rw [← h_44, up_s]
        have j1 : M_44 (h + 1) i = 2 := by rw [← h_44, up_k (by omega), up_s]
        have jO : OLr a M_44 h i := fun j z1 z2 => by
          have := kO'' j z1 z2
          rw [← h_44, up_k (by omega), up_i (by omega), up_row (by omega), up_row (by omega)]
          exact this
        refine ab_iconst C dX8_renewOther_47 (by decide) ?_
        refine ab_istore3 (lv := []) C rfl dX8_renewOther_48 ?_
        refine ab_loop (fun z (M6 : AbM) => AJ K S 49 [vP w, vI i, vI (nthF (nlA (sld a.n a.p a.sz a.len a.num 2)) (pw a.n 2) i), vI z] [] M6) (fun z M6 => 0 ≤ z ∧ lo Bd M M6 ∧ CRel a M6 w al t u g h b c x0 x1 x2 x3 ∧ M6 w 11 = 1 ∧ M6 h 2 = i + 1 ∧ M6 (h + 1) i = 2 ∧ OLr a M6 h i ∧ ∀ y, 0 ≤ y → y < z → M6 (h + 2) (i * 81 + y) = oNum a.n a.p a.sz a.len a.num (i * 81 + y) ∧ 0 ≤ M6 (h + 2) (i * 81 + y) ∧ M6 (h + 2) (i * 81 + y) < a.p) (pw a.n 2) ?_ 0 M_44 (by omega) ⟨by omega, hLO6, hC3, hw3, j2, j1, jO, fun y z1 z2 => by omega⟩
        · intro z M6 hz hI ihz
          obtain ⟨z0, hLO6, H6, gw, g2, g1, gO, g3⟩ := hI
          refine ab_iload_n C dX8_renewOther_49 rfl rfl ?_
          refine ab_aload_n C dX8_renewOther_50 rfl rfl ?_
          refine gf_RX8_10 C s_t rfl dX8_renewOther_51 ?_
          refine ab_iconst C dX8_renewOther_54 (by decide) ?_
          refine ab_callV C cl_RX8_198 (m_X1_words B_t_alphabet H6.1 (by omega) (by omega)) (by decide) rfl s_t_alphabet rfl rfl (Nat.le_of_ble_eq_true rfl) dX8_renewOther_55 (ab_kI (fun r_55 M_55 h_55 => ?_))
          obtain ⟨rfl, rfl⟩ := h_55
          refine ab_icmp_ge (tgt := 85) C dX8_renewOther_58 rfl (fun h_58 => ?_) (fun h_58 => ?_)
          · skip
            refine ab_iinc1 (lv := []) C rfl dX8_renewOther_85 (by omega) ?_
            refine ab_goto (tgt := 17) C dX8_renewOther_88 rfl ?_
            have ez : z = pw a.n 2 := by omega
            subst ez
            refine ih (_, _, M6) (by omega) ⟨⟨by omega, by omega⟩, hLO6, H6, gw, g2, fun j z1 z2 => ?_⟩
            rcases (show j < i ∨ j = i by omega) with q | q
            · exact gO j z1 q
            · subst q
              exact ⟨g1, g3⟩
          · skip
            refine ab_aload_n C dX8_renewOther_61 rfl rfl ?_
            refine gf_RX8_49 C s_t rfl dX8_renewOther_62 ?_
            refine ab_iload_n C dX8_renewOther_65 rfl rfl ?_
            refine ab_aload_n C dX8_renewOther_66 rfl rfl ?_
            refine gf_RX8_57 C s_t rfl dX8_renewOther_67 ?_
            refine ab_iconst C dX8_renewOther_70 (by decide) ?_
            refine ab_iload_n C dX8_renewOther_71 rfl rfl ?_
            refine ab_iload_n C dX8_renewOther_72 rfl rfl ?_
            refine ab_callV C cl_RX8_164 (m_X0_numberInForm B_t_algebra H6.1 (by omega) (by omega) H6.2.1.ok H6.2.2.1 (by omega) (by omega) nw0 nw1 (by omega) (by omega)) (by decide) rfl s_t_algebra rfl rfl (Nat.le_of_ble_eq_true rfl) dX8_renewOther_73 (ab_kI (fun r_73 M_73 h_73 => ?_))
            obtain ⟨hs1, hA1, hd1, hv1⟩ := h_73
            have e1 : ∀ q, (q < b ∨ b + 6 < q) → M_73 q = M6 q := fun q hq => hs1 q (by simp; omega)
            obtain ⟨z1, z2, z3, z4, z5, z6⟩ := H6.2.1.eq
            rw [z2] at hv1
            have hrg := (alg_srh p1 n1 hA1 (show (0 : Int) ≤ 2 by omega) hd1 z z0 (by omega) (nthF (nlA (sld a.n a.p a.sz a.len a.num 2)) (pw a.n 2) i)).1
            rw [e1 g (by omega), e1 (g + 1) (by omega), e1 (g + 2) (by omega), z2] at hrg
            subst hv1
            obtain ⟨hC1, hl1⟩ := H6.alg B_t hs1 hA1
            have hLO6 := hLO6.tr hl1
            have g2' : M_73 h 2 = i + 1 := by rw [e1 h (by omega)]; exact g2
            have g1' : M_73 (h + 1) = M6 (h + 1) := e1 _ (by omega)
            have g3' : M_73 (h + 2) = M6 (h + 2) := e1 _ (by omega)
            have gw' : M_73 w 11 = 1 := by rw [e1 w (by omega)]; exact gw
            clear hs1 hA1 hd1 z1 z2 z3 z4 z5 z6 e1
            refine ab_callV C cl_RX8_256 (m_X3_set B_t_otherList (by omega) (by omega) (by omega) (by omega)) (by decide) rfl s_t_otherList rfl rfl (Nat.le_of_ble_eq_true rfl) dX8_renewOther_76 (ab_kV (fun M_76 h_76 => ?_))
            rw [g2'] at h_76
            refine ab_iinc3 (lv := []) C rfl dX8_renewOther_79 (by omega) ?_
            refine ab_goto (tgt := 49) C dX8_renewOther_82 rfl ?_
            obtain ⟨hC7, hl7, hw7⟩ := CRel.othU (M2 := M_76) hC1 B_t (fun q hq => by rw [← h_76, up_row (by omega)]) gw'
            refine ihz M_76 (by omega) ⟨by omega, hLO6.tr hl7, hC7, hw7, by rw [← h_76, up_k (by omega)]; exact g2', by rw [← h_76, up_k (by omega), g1']; exact g1, fun j z1 z2 => ?_, fun y z1 z2 => ?_⟩
            · have := gO j z1 z2
              rw [← h_76, up_row (show h + 1 ≠ h + 2 by omega), g1']
              refine ⟨this.1, fun y y0 y1 => ?_⟩
              rw [up_i (by omega), g3']
              exact this.2 y y0 y1
            · rw [← h_76]
              by_cases q : y = z
              · rw [q, show (i + 1 - 1) * 81 + z = i * 81 + z by omega, up_s, oNum_at z0 (by omega)]
                exact ⟨rfl, hrg⟩
              · rw [up_i (by omega), g3']
                exact g3 y z1 (by omega)
  · skip
    refine ab_vret (st := []) C r dX8_renewOther_7 ?_
    exact ⟨rfl, hLO, H, h_4⟩
set_option maxRecDepth 100000 in
set_option maxHeartbeats 4000000 in
theorem m_X8_other {D : va_G} {cA : Nat → ClassId} {S : List AbS} {M : AbM} {w al t rr u v g h b c k sh x0 x1 x2 x3 Bd : Nat} {a : St} (B_t : WL S w al t rr u v g h b c k sh x0 x1 x2 x3 Bd) (H : CRel a M w al t u g h b c x0 x1 x2 x3) {d : Int} : Meth yX8_other cX8_other 2 (some .int) rmX8_other D cA S [vP w, vI d] M (qI fun q M2 => lo Bd M M2 ∧ CRel a M2 w al t u g h b c x0 x1 x2 x3 ∧ q = aOther a d) := by
  refine ab_intro (lv := [vP w, vI d]) (by decide +kernel) rfl (Nat.le_of_ble_eq_true rfl) ?_
  intro hO hargs K hKD hKA C r
  have C : Cx K cX8_other RX8 rmX8_other := C
  have i_d : inI d := hargs _ (List.mem_cons_of_mem _ (List.mem_cons_self))
  obtain ⟨⟨s_t, B_t_alphabet, B_t_tape, B_t_reader, B_t_lookedAt, B_t_spare, B_t_lawList, B_t_otherList, B_t_algebra, B_t_otherAlgebra, B_t_echelon, s_t_sheets, B_x0, B_x1, B_x2, B_x3⟩, hPl⟩ := id B_t
  obtain ⟨s_t_alphabet, -⟩ := id B_t_alphabet
  obtain ⟨s_t_tape, -⟩ := id B_t_tape
  obtain ⟨s_t_reader, -⟩ := id B_t_reader
  obtain ⟨s_t_lookedAt, -⟩ := id B_t_lookedAt
  obtain ⟨s_t_spare, -⟩ := id B_t_spare
  obtain ⟨s_t_lawList, -⟩ := id B_t_lawList
  obtain ⟨s_t_otherList, -⟩ := id B_t_otherList
  obtain ⟨s_t_algebra, -⟩ := id B_t_algebra
  obtain ⟨s_t_otherAlgebra, -⟩ := id B_t_otherAlgebra
  obtain ⟨s_t_echelon, -⟩ := id B_t_echelon
  have A_t_alphabet := H.1
  obtain ⟨⟨n1, n2, hPr⟩, -⟩ := id A_t_alphabet
  obtain ⟨p1, p2, -⟩ := id hPr
  have hLB := Lg_B a.n
  have hLO : lo Bd M M := lo.rf Bd M
  refine ab_aload_n C dX8_other_0 rfl rfl ?_
  refine gf_RX8_10 C s_t rfl dX8_other_1 ?_
  refine ab_iload_n C dX8_other_4 rfl rfl ?_
  refine ab_callV C cl_RX8_152 (m_X1_hasLength B_t_alphabet A_t_alphabet) (by decide) rfl s_t_alphabet rfl rfl (Nat.le_of_ble_eq_true rfl) dX8_other_5 (ab_kI (fun r_5 M_5 h_5 => ?_))
  obtain ⟨rfl, rfl⟩ := h_5
  refine ab_if_ne (tgt := 13) C dX8_other_8 rfl (fun h_8 => ?_) (fun h_8 => ?_)
  · skip
    have hq := b01_ne h_8
    refine ab_aload_n C dX8_other_13 rfl rfl ?_
    refine gf_RX8_45 C s_t rfl dX8_other_14 ?_
    refine ab_iconst C dX8_other_17 (by decide) ?_
    refine ab_callV C cl_RX8_184 (m_X3_allHaveLength B_t_lawList (by have := H.2.1.1; have := H.2.1.2.1; omega) (by have := H.2.1.1; have := H.2.1.2.1; omega)) (by decide) rfl s_t_lawList rfl rfl (Nat.le_of_ble_eq_true rfl) dX8_other_18 (ab_kI (fun r_18 M_18 h_18 => ?_))
    obtain ⟨rfl, rfl⟩ := h_18
    have hsh := short_eq H.2.1
    refine ab_if_ne (tgt := 27) C dX8_other_21 rfl (fun h_21 => ?_) (fun h_21 => ?_)
    · skip
      have hs := b01_ne h_21
      refine ab_aload_n C dX8_other_27 rfl rfl ?_
      refine ab_callV C cl_RX8_187 (m_X8_renewOther B_t H) (by decide) rfl s_t rfl rfl (Nat.le_of_ble_eq_true rfl) dX8_other_28 (ab_kV (fun M_28 h_28 => ?_))
      obtain ⟨hl1, H1, hw1⟩ := h_28
      obtain ⟨hA9, hO9⟩ := H1.2.2.2.1.2.2 hw1
      refine ab_aload_n C dX8_other_31 rfl rfl ?_
      refine gf_RX8_61 C s_t rfl dX8_other_32 ?_
      refine ab_iload_n C dX8_other_35 rfl rfl ?_
      refine ab_callV C cl_RX8_155 (m_X0_normalsOf B_t_otherAlgebra H1.1 (by omega) (by omega) hO9.1 hA9 (by omega) (by omega)) (by decide) rfl s_t_otherAlgebra rfl rfl (Nat.le_of_ble_eq_true rfl) dX8_other_36 (ab_kI (fun r_36 M_36 h_36 => ?_))
      obtain ⟨hs2, hA2, hd2, hv2⟩ := h_36
      rw [oth_eq hO9] at hv2
      obtain ⟨H2, hl2, -⟩ := H1.alg2 B_t hs2 hA2
      refine ab_iret (st := []) C r dX8_other_39 ?_
      refine ⟨_, rfl, hl1.tr hl2, H2, ?_⟩
      unfold aOther
      rw [if_pos hq, if_pos (show cntF (fun i => a.len i - 2) a.sz = 0 from hsh.mp hs)]
      exact hv2.symm
    · skip
      have hs := b01_eq h_21
      refine ab_bipush C dX8_other_24 (by decide) (by decide +kernel) ?_
      refine ab_iret (st := []) C r dX8_other_26 ?_
      refine ⟨_, rfl, hLO, H, ?_⟩
      unfold aOther
      rw [if_pos hq, if_neg (show ¬ cntF (fun i => a.len i - 2) a.sz = 0 from fun z => hs (hsh.mpr z))]
  · skip
    have hq := b01_eq h_8
    refine ab_iconst C dX8_other_11 (by decide) ?_
    refine ab_iret (st := []) C r dX8_other_12 ?_
    refine ⟨_, rfl, hLO, H, ?_⟩
    unfold aOther
    rw [if_neg hq]
set_option maxRecDepth 100000 in
set_option maxHeartbeats 4000000 in
theorem m_X8_seriesAt {D : va_G} {cA : Nat → ClassId} {S : List AbS} {M : AbM} {w al t rr u v g h b c k sh x0 x1 x2 x3 Bd : Nat} {a : St} (B_t : WL S w al t rr u v g h b c k sh x0 x1 x2 x3 Bd) (H : CRel a M w al t u g h b c x0 x1 x2 x3) {d : Int} (hw : M w 11 = 0) (d0 : 0 ≤ d) (d1 : d ≤ Lg a.n) : Meth yX8_seriesAt cX8_seriesAt 5 (some .int) rmX8_seriesAt D cA S [vP w, vI d] M (qI fun q M2 => lo Bd M M2 ∧ CRel a M2 w al t u g h b c x0 x1 x2 x3 ∧ M2 w 11 = 0 ∧ q = serF (fun d => sNm a.n a.p a.sz a.len a.num d) (aO a) d) := by
  refine ab_intro (lv := [vP w, vI d, vU, vU, vU]) (by decide +kernel) rfl (Nat.le_of_ble_eq_true rfl) ?_
  intro hO hargs K hKD hKA C r
  have C : Cx K cX8_seriesAt RX8 rmX8_seriesAt := C
  have i_d : inI d := hargs _ (List.mem_cons_of_mem _ (List.mem_cons_self))
  obtain ⟨⟨s_t, B_t_alphabet, B_t_tape, B_t_reader, B_t_lookedAt, B_t_spare, B_t_lawList, B_t_otherList, B_t_algebra, B_t_otherAlgebra, B_t_echelon, s_t_sheets, B_x0, B_x1, B_x2, B_x3⟩, hPl⟩ := id B_t
  obtain ⟨s_t_alphabet, -⟩ := id B_t_alphabet
  obtain ⟨s_t_tape, -⟩ := id B_t_tape
  obtain ⟨s_t_reader, -⟩ := id B_t_reader
  obtain ⟨s_t_lookedAt, -⟩ := id B_t_lookedAt
  obtain ⟨s_t_spare, -⟩ := id B_t_spare
  obtain ⟨s_t_lawList, -⟩ := id B_t_lawList
  obtain ⟨s_t_otherList, -⟩ := id B_t_otherList
  obtain ⟨s_t_algebra, -⟩ := id B_t_algebra
  obtain ⟨s_t_otherAlgebra, -⟩ := id B_t_otherAlgebra
  obtain ⟨s_t_echelon, -⟩ := id B_t_echelon
  have A_t_alphabet := H.1
  obtain ⟨⟨n1, n2, hPr⟩, -⟩ := id A_t_alphabet
  obtain ⟨p1, p2, -⟩ := id hPr
  have hLB := Lg_B a.n
  have hLO : lo Bd M M := lo.rf Bd M
  refine ab_iconst C dX8_seriesAt_0 (by decide) ?_
  refine ab_istore2 (lv := []) C rfl dX8_seriesAt_1 ?_
  refine ab_iconst C dX8_seriesAt_2 (by decide) ?_
  refine ab_istore3 (lv := []) C rfl dX8_seriesAt_3 ?_
  refine ab_lvs (lv2 := [vP w, vI d, vI (sumF (fun i => if i % 2 = 0 then sNm a.n a.p a.sz a.len a.num (d - i) * aO a i else -(sNm a.n a.p a.sz a.len a.num (d - i) * aO a i)) 0), vI 0, vU]) (by rw [sumF_0]) ?_
  refine ab_loop (fun i (z : AbV × AbM) => AJ K S 4 [vP w, vI d, vI (sumF (fun i => if i % 2 = 0 then sNm a.n a.p a.sz a.len a.num (d - i) * aO a i else -(sNm a.n a.p a.sz a.len a.num (d - i) * aO a i)) i), vI i, z.1] [] z.2) (fun i z => (0 ≤ i ∧ -60000 * i ≤ sumF (fun i => if i % 2 = 0 then sNm a.n a.p a.sz a.len a.num (d - i) * aO a i else -(sNm a.n a.p a.sz a.len a.num (d - i) * aO a i)) i ∧ sumF (fun i => if i % 2 = 0 then sNm a.n a.p a.sz a.len a.num (d - i) * aO a i else -(sNm a.n a.p a.sz a.len a.num (d - i) * aO a i)) i ≤ 60000 * i) ∧ lo Bd M z.2 ∧ CRel a z.2 w al t u g h b c x0 x1 x2 x3 ∧ z.2 w 11 = 0) (d + 1) ?_ 0 (vU, M) (by omega) ⟨⟨by omega, by rw [sumF_0]; omega, by rw [sumF_0]; omega⟩, hLO, H, hw⟩
  · intro i z hi hI ih
    obtain ⟨y4, M5⟩ := z
    obtain ⟨⟨i0, ha, hb⟩, hLO5, H5, hw5⟩ := hI
    dsimp only at hLO5 H5 hw5 ih ⊢
    rw [sumF_s i0] at ih
    refine ab_iload_n C dX8_seriesAt_4 rfl rfl ?_
    refine ab_iload_n C dX8_seriesAt_5 rfl rfl ?_
    refine ab_icmp_gt (tgt := 53) C dX8_seriesAt_6 rfl (fun h_6 => ?_) (fun h_6 => ?_)
    · skip
      refine ab_iload_n C dX8_seriesAt_53 rfl rfl ?_
      refine ab_iret (st := []) C r dX8_seriesAt_54 ?_
      have ei : i = d + 1 := by omega
      subst ei
      exact ⟨_, rfl, hLO5, H5, hw5, rfl⟩
    · skip
      refine ab_aload_n C dX8_seriesAt_9 rfl rfl ?_
      refine gf_RX8_57 C s_t rfl dX8_seriesAt_10 ?_
      refine ab_iload_n C dX8_seriesAt_13 rfl rfl ?_
      refine ab_iload_n C dX8_seriesAt_14 rfl rfl ?_
      refine ab_isub C dX8_seriesAt_15 (by omega) ?_
      refine ab_callV C cl_RX8_155 (m_X0_normalsOf B_t_algebra H5.1 (by omega) (by omega) H5.2.1.ok H5.2.2.1 (by omega) (by omega)) (by decide) rfl s_t_algebra rfl rfl (Nat.le_of_ble_eq_true rfl) dX8_seriesAt_16 (ab_kI (fun r_16 M_16 h_16 => ?_))
      obtain ⟨hs1, hA1, hd1, hv1⟩ := h_16
      have e1 : ∀ q, (q < b ∨ b + 6 < q) → M_16 q = M5 q := fun q hq => hs1 q (by simp; omega)
      obtain ⟨z1, z2, z3, z4, z5, z6⟩ := H5.2.1.eq
      rw [z3] at hv1
      subst hv1
      obtain ⟨hC1, hl1⟩ := H5.alg B_t hs1 hA1
      have hLO5 := hLO5.tr hl1
      have hw5' : M_16 w 11 = 0 := by rw [e1 w (by omega)]; exact hw5
      obtain ⟨hA9, hO9⟩ := hC1.2.2.2.1.2.2 hw5'
      refine ab_aload_n C dX8_seriesAt_19 rfl rfl ?_
      refine gf_RX8_61 C s_t rfl dX8_seriesAt_20 ?_
      refine ab_iload_n C dX8_seriesAt_23 rfl rfl ?_
      refine ab_callV C cl_RX8_155 (m_X0_normalsOf B_t_otherAlgebra hC1.1 (by omega) (by omega) hO9.1 hA9 (by omega) (by omega)) (by decide) rfl s_t_otherAlgebra rfl rfl (Nat.le_of_ble_eq_true rfl) dX8_seriesAt_24 (ab_kI (fun r_24 M_24 h_24 => ?_))
      obtain ⟨hs2, hA2, hd2, hv2⟩ := h_24
      rw [oth_eq hO9] at hv2
      subst hv2
      obtain ⟨H2, hl2, hw2⟩ := hC1.alg2 B_t hs2 hA2
      rw [hw5'] at hw2
      have hLO5 := hLO5.tr hl2
      have hB1 := sz_B n1 n2 (show 0 ≤ d - i by omega) (show d - i ≤ Lg a.n by omega)
      have hB2 := sz_B n1 n2 (show 0 ≤ i by omega) (show i ≤ Lg a.n by omega)
      have b1 := sNm_B (p := a.p) (sz := a.sz) (len := a.len) (num := a.num) (d := d - i) n1
      have b2 : 0 ≤ aO a i ∧ aO a i ≤ pw a.n i := sNm_B n1
      obtain ⟨N9, hN9⟩ : ∃ N9, sNm a.n a.p a.sz a.len a.num (d - i) = N9 := ⟨_, rfl⟩
      obtain ⟨O9, hO9'⟩ : ∃ O9, aO a i = O9 := ⟨_, rfl⟩
      rw [hN9, hO9'] at ih
      rw [hN9] at b1 ⊢
      rw [hO9'] at b2 ⊢
      have hm : 0 ≤ N9 * O9 ∧ N9 * O9 ≤ 243 * 243 := ⟨Int.mul_nonneg b1.1 b2.1, Int.mul_le_mul (by omega) (by omega) b2.1 (by omega)⟩
      refine ab_imul C dX8_seriesAt_27 (by omega) ?_
      refine ab_istore4 (lv := []) C rfl dX8_seriesAt_28 ?_
      refine ab_iload_n C dX8_seriesAt_30 rfl rfl ?_
      refine ab_iload_n C dX8_seriesAt_31 rfl rfl ?_
      refine ab_iconst C dX8_seriesAt_32 (by decide) ?_
      refine ab_irem C dX8_seriesAt_33 (by omega) (by omega) ?_
      refine ab_if_ne (tgt := 42) C dX8_seriesAt_34 rfl (fun h_34 => ?_) (fun h_34 => ?_)
      · skip
        refine ab_iload C dX8_seriesAt_42 rfl ?_
        refine ab_ineg C dX8_seriesAt_44 (by omega) ?_
        refine ab_iadd C dX8_seriesAt_45 (by omega) ?_
        refine ab_istore2 (lv := []) C rfl dX8_seriesAt_46 ?_
        refine ab_iinc3 (lv := []) C rfl dX8_seriesAt_47 (by omega) ?_
        refine ab_goto (tgt := 4) C dX8_seriesAt_50 rfl ?_
        first
        | (rw [if_pos h_34] at ih; exact ih (_, _) (by omega) ⟨⟨by omega, by omega, by omega⟩, hLO5, H2, hw2⟩)
        | (rw [if_neg h_34] at ih; exact ih (_, _) (by omega) ⟨⟨by omega, by omega, by omega⟩, hLO5, H2, hw2⟩)
      · skip
        refine ab_iload C dX8_seriesAt_37 rfl ?_
        refine ab_goto (tgt := 45) C dX8_seriesAt_39 rfl ?_
        refine ab_iadd C dX8_seriesAt_45 (by omega) ?_
        refine ab_istore2 (lv := []) C rfl dX8_seriesAt_46 ?_
        refine ab_iinc3 (lv := []) C rfl dX8_seriesAt_47 (by omega) ?_
        refine ab_goto (tgt := 4) C dX8_seriesAt_50 rfl ?_
        first
        | (rw [if_pos h_34] at ih; exact ih (_, _) (by omega) ⟨⟨by omega, by omega, by omega⟩, hLO5, H2, hw2⟩)
        | (rw [if_neg h_34] at ih; exact ih (_, _) (by omega) ⟨⟨by omega, by omega, by omega⟩, hLO5, H2, hw2⟩)
set_option maxRecDepth 100000 in
set_option maxHeartbeats 4000000 in
theorem m_X8_fit {D : va_G} {cA : Nat → ClassId} {S : List AbS} {M : AbM} {w al t rr u v g h b c k sh x0 x1 x2 x3 Bd : Nat} {a : St} (B_t : WL S w al t rr u v g h b c k sh x0 x1 x2 x3 Bd) (H : CRel a M w al t u g h b c x0 x1 x2 x3) : Meth yX8_fit cX8_fit 2 (some .int) rmX8_fit D cA S [vP w] M (qI fun q M2 => lo Bd M M2 ∧ CRel a M2 w al t u g h b c x0 x1 x2 x3 ∧ aFit a q) := by
  refine ab_intro (lv := [vP w, vU]) (by decide +kernel) rfl (Nat.le_of_ble_eq_true rfl) ?_
  intro hO hargs K hKD hKA C r
  have C : Cx K cX8_fit RX8 rmX8_fit := C
  obtain ⟨⟨s_t, B_t_alphabet, B_t_tape, B_t_reader, B_t_lookedAt, B_t_spare, B_t_lawList, B_t_otherList, B_t_algebra, B_t_otherAlgebra, B_t_echelon, s_t_sheets, B_x0, B_x1, B_x2, B_x3⟩, hPl⟩ := id B_t
  obtain ⟨s_t_alphabet, -⟩ := id B_t_alphabet
  obtain ⟨s_t_tape, -⟩ := id B_t_tape
  obtain ⟨s_t_reader, -⟩ := id B_t_reader
  obtain ⟨s_t_lookedAt, -⟩ := id B_t_lookedAt
  obtain ⟨s_t_spare, -⟩ := id B_t_spare
  obtain ⟨s_t_lawList, -⟩ := id B_t_lawList
  obtain ⟨s_t_otherList, -⟩ := id B_t_otherList
  obtain ⟨s_t_algebra, -⟩ := id B_t_algebra
  obtain ⟨s_t_otherAlgebra, -⟩ := id B_t_otherAlgebra
  obtain ⟨s_t_echelon, -⟩ := id B_t_echelon
  have A_t_alphabet := H.1
  obtain ⟨⟨n1, n2, hPr⟩, -⟩ := id A_t_alphabet
  obtain ⟨p1, p2, -⟩ := id hPr
  have hLB := Lg_B a.n
  have hLO : lo Bd M M := lo.rf Bd M
  refine ab_aload_n C dX8_fit_0 rfl rfl ?_
  refine gf_RX8_45 C s_t rfl dX8_fit_1 ?_
  refine ab_iconst C dX8_fit_4 (by decide) ?_
  refine ab_callV C cl_RX8_184 (m_X3_allHaveLength B_t_lawList (by have := H.2.1.1; have := H.2.1.2.1; omega) (by have := H.2.1.1; have := H.2.1.2.1; omega)) (by decide) rfl s_t_lawList rfl rfl (Nat.le_of_ble_eq_true rfl) dX8_fit_5 (ab_kI (fun r_5 M_5 h_5 => ?_))
  obtain ⟨rfl, rfl⟩ := h_5
  have hsh := short_eq H.2.1
  refine ab_if_ne (tgt := 14) C dX8_fit_8 rfl (fun h_8 => ?_) (fun h_8 => ?_)
  · skip
    have hs := b01_ne h_8
    refine ab_aload_n C dX8_fit_14 rfl rfl ?_
    refine ab_callV C cl_RX8_187 (m_X8_renewOther B_t H) (by decide) rfl s_t rfl rfl (Nat.le_of_ble_eq_true rfl) dX8_fit_15 (ab_kV (fun M_15 h_15 => ?_))
    obtain ⟨hl1, H1, hw1⟩ := h_15
    obtain ⟨hA9, hO9⟩ := H1.2.2.2.1.2.2 hw1
    refine ab_iconst C dX8_fit_18 (by decide) ?_
    refine ab_istore1 (lv := []) C rfl dX8_fit_19 ?_
    refine ab_loop (fun d (M5 : AbM) => AJ K S 20 [vP w, vI d] [] M5) (fun d M5 => (1 ≤ d ∧ ∀ e, 1 ≤ e → e < d → serF (fun d => sNm a.n a.p a.sz a.len a.num d) (aO a) e = 0) ∧ lo Bd M M5 ∧ CRel a M5 w al t u g h b c x0 x1 x2 x3 ∧ M5 w 11 = 0) (Lg a.n + 1) ?_ 1 _ (by omega) ⟨⟨by omega, fun e z1 z2 => by omega⟩, hl1, H1, hw1⟩
    · intro d M5 hd hI ih
      obtain ⟨⟨d1, hz⟩, hLO5, H5, hw5⟩ := hI
      refine ab_iload_n C dX8_fit_20 rfl rfl ?_
      refine ab_aload_n C dX8_fit_21 rfl rfl ?_
      refine gf_RX8_10 C s_t rfl dX8_fit_22 ?_
      refine ab_callV C cl_RX8_98 (m_X1_longest B_t_alphabet H5.1) (by decide) rfl s_t_alphabet rfl rfl (Nat.le_of_ble_eq_true rfl) dX8_fit_25 (ab_kI (fun r_25 M_25 h_25 => ?_))
      obtain ⟨rfl, rfl⟩ := h_25
      refine ab_icmp_gt (tgt := 47) C dX8_fit_28 rfl (fun h_28 => ?_) (fun h_28 => ?_)
      · skip
        refine ab_bipush C dX8_fit_47 (by decide) (by decide +kernel) ?_
        refine ab_iret (st := []) C r dX8_fit_49 ?_
        exact ⟨_, rfl, hLO5, H5, fun _ => Or.inr ⟨rfl, fun e z1 z2 => hz e z1 (by omega)⟩, fun z => absurd (hsh.mp hs) z⟩
      · skip
        refine ab_aload_n C dX8_fit_31 rfl rfl ?_
        refine ab_iload_n C dX8_fit_32 rfl rfl ?_
        refine ab_callV C cl_RX8_190 (m_X8_seriesAt B_t H5 hw5 (by omega) (by omega)) (by decide) rfl s_t rfl rfl (Nat.le_of_ble_eq_true rfl) dX8_fit_33 (ab_kI (fun r_33 M_33 h_33 => ?_))
        obtain ⟨hl6, H6, hw6, hv6⟩ := h_33
        subst hv6
        refine ab_if_eq (tgt := 41) C dX8_fit_36 rfl (fun h_36 => ?_) (fun h_36 => ?_)
        · skip
          refine ab_iinc1 (lv := []) C rfl dX8_fit_41 (by omega) ?_
          refine ab_goto (tgt := 20) C dX8_fit_44 rfl ?_
          refine ih _ (by omega) ⟨⟨by omega, fun e z1 z2 => ?_⟩, hLO5.tr hl6, H6, hw6⟩
          rcases (show e < d ∨ e = d by omega) with q | q
          · exact hz e z1 q
          · rw [q]; exact h_36
        · skip
          refine ab_iload_n C dX8_fit_39 rfl rfl ?_
          refine ab_iret (st := []) C r dX8_fit_40 ?_
          exact ⟨_, rfl, hLO5.tr hl6, H6, fun _ => Or.inl ⟨d1, by omega, h_36, hz⟩, fun z => absurd (hsh.mp hs) z⟩
  · skip
    have hs := b01_eq h_8
    refine ab_bipush C dX8_fit_11 (by decide) (by decide +kernel) ?_
    refine ab_iret (st := []) C r dX8_fit_13 ?_
    exact ⟨_, rfl, hLO, H, fun z => absurd (hsh.mpr z) hs, fun _ => rfl⟩
