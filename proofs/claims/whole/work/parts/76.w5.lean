set_option maxRecDepth 100000 in
set_option maxHeartbeats 4000000 in
theorem m_X8_reduce {D : va_G} {cA : Nat → ClassId} {S : List AbS} {M : AbM} {w al t rr u v g h b c k sh x0 x1 x2 x3 Bd : Nat} {a : St} (B_t : WL S w al t rr u v g h b c k sh x0 x1 x2 x3 Bd) (H : CRel a M w al t u g h b c x0 x1 x2 x3) : Meth yX8_reduce cX8_reduce 4 (some .int) rmX8_reduce D cA S [vP w] M (qI fun q M2 => lo Bd M M2 ∧ ∃ b9, oReduce a q b9 ∧ CRel b9 M2 w al t u g h b c x0 x1 x2 x3) := by
  refine ab_intro (lv := [vP w, vU, vU, vU]) (by decide +kernel) rfl (Nat.le_of_ble_eq_true rfl) ?_
  intro hO hargs K hKD hKA C r
  have C : Cx K cX8_reduce RX8 rmX8_reduce := C
  obtain ⟨⟨s_t, B_t_alphabet, B_t_tape, B_t_reader, B_t_lookedAt, B_t_spare, B_t_lawList, B_t_otherList, B_t_algebra, B_t_otherAlgebra, B_t_echelon, s_t_sheets, B_x0, B_x1, B_x2, B_x3⟩, hPl⟩ := id B_t
  obtain ⟨s_t_alphabet, -⟩ := id B_t_alphabet
  obtain ⟨s_t_tape, -⟩ := id B_t_tape
  obtain ⟨s_t_reader, -⟩ := id B_t_reader
  obtain ⟨s_t_lookedAt, -⟩ := id B_t_lookedAt
  obtain ⟨s_t_spare, -⟩ := id B_t_spare
  obtain ⟨s_t_lawList, -⟩ := id B_t_lawList
  obtain ⟨s_t_otherList, -⟩ := id B_t_otherList
  obtain ⟨s_t_algebra, -⟩ := id B_t_algebra
  obtain ⟨s_t_otherAlgebra, -⟩ := id B_t_otherAlgebra
  obtain ⟨s_t_echelon, -⟩ := id B_t_echelon
  have A_t_alphabet := H.1
  obtain ⟨⟨n1, n2, hPr⟩, -⟩ := id A_t_alphabet
  obtain ⟨p1, p2, -⟩ := id hPr
  have hLB := Lg_B a.n
  have hLO : lo Bd M M := lo.rf Bd M
  refine ab_aload_n C dX8_reduce_0 rfl rfl ?_
  refine gf_RX8_39 C s_t rfl dX8_reduce_1 ?_
  refine ab_callV C cl_RX8_93 (m_X6_clear B_t_spare) (by decide) rfl s_t_spare rfl rfl (Nat.le_of_ble_eq_true rfl) dX8_reduce_4 (ab_kV (fun M_4 h_4 => ?_))
  subst h_4
  obtain ⟨HC, hlC⟩ := CRel.sumU (s := a.sum) (M2 := upA M (v + 1) (fun j => if 0 ≤ j ∧ j < 364 then 0 else M (v + 1) j)) H B_t (fun q z => upA_row (by omega)) (by rw [upA_row (by omega)]; exact H.2.2.2.2.1)
  have HC : CRel a (upA M (v + 1) (fun j => if 0 ≤ j ∧ j < 364 then 0 else M (v + 1) j)) w al t u g h b c x0 x1 x2 x3 := HC
  refine ab_iconst C dX8_reduce_7 (by decide) ?_
  refine ab_istore1 (lv := []) C rfl dX8_reduce_8 ?_
  refine ab_loop (fun d (z : AbV × AbV × AbM) => AJ K S 9 [vP w, vI d, z.1, z.2.1] [] z.2.2) (fun d z => 0 ≤ d ∧ lo Bd M z.2.2 ∧ CRel a z.2.2 w al t u g h b c x0 x1 x2 x3 ∧ (∀ e, 0 ≤ e → e < d → ∀ y, 0 ≤ y → y < pw a.n e → z.2.2 (v + 1) (wsm a.n e + y) = rdP a e (pw a.n e) y) ∧ ∀ j, wsm a.n d ≤ j → j < 364 → z.2.2 (v + 1) j = 0) (Lg a.n + 1) ?_ 0 (vU, vU, _) (by omega) ⟨by omega, hlC, HC, fun e z1 z2 => by omega, fun j z1 z2 => by
    rw [wsm_0] at z1
    show upA M (v + 1) (fun j => if 0 ≤ j ∧ j < 364 then 0 else M (v + 1) j) (v + 1) j = 0
    rw [upA_s, if_pos ⟨z1, z2⟩]⟩
  · intro d z hd hI ih
    obtain ⟨y2, y3, M5⟩ := z
    obtain ⟨d0, hLO5, H5, kA, kC⟩ := hI
    dsimp only at hLO5 H5 kA kC ih ⊢
    refine ab_iload_n C dX8_reduce_9 rfl rfl ?_
    refine ab_aload_n C dX8_reduce_10 rfl rfl ?_
    refine gf_RX8_10 C s_t rfl dX8_reduce_11 ?_
    refine ab_callV C cl_RX8_98 (m_X1_longest B_t_alphabet H5.1) (by decide) rfl s_t_alphabet rfl rfl (Nat.le_of_ble_eq_true rfl) dX8_reduce_14 (ab_kI (fun r_14 M_14 h_14 => ?_))
    obtain ⟨rfl, rfl⟩ := h_14
    refine ab_icmp_gt (tgt := 74) C dX8_reduce_17 rfl (fun h_17 => ?_) (fun h_17 => ?_)
    · skip
      refine ab_aload_n C dX8_reduce_74 rfl rfl ?_
      refine gf_RX8_35 C s_t rfl dX8_reduce_75 ?_
      refine ab_aload_n C dX8_reduce_78 rfl rfl ?_
      refine gf_RX8_39 C s_t rfl dX8_reduce_79 ?_
      refine ab_callV C cl_RX8_193 (m_X6_copy B_t_lookedAt B_t_spare) (by decide) rfl s_t_lookedAt rfl rfl (Nat.le_of_ble_eq_true rfl) dX8_reduce_82 (ab_kV (fun M_82 h_82 => ?_))
      subst h_82
      refine ab_aload_n C dX8_reduce_85 rfl rfl ?_
      refine gf_RX8_35 C s_t rfl dX8_reduce_86 ?_
      refine ab_callV C cl_RX8_149 (m_X6_terms B_t_lookedAt) (by decide) rfl s_t_lookedAt rfl rfl (Nat.le_of_ble_eq_true rfl) dX8_reduce_89 (ab_kI (fun r_89 M_89 h_89 => ?_))
      obtain ⟨rfl, rfl⟩ := h_89
      refine ab_iret (st := []) C r dX8_reduce_92 ?_
      have ed : d = Lg a.n + 1 := by omega
      subst ed
      have hSp : RedS a (M5 (v + 1)) := ⟨fun e z1 z2 y y0 y1 => kA e z1 (by omega) y y0 y1, fun j z1 z2 => kC j z1 z2⟩
      have hrng : ∀ j, 0 ≤ j → j < 364 → 0 ≤ M5 (v + 1) j ∧ M5 (v + 1) j < a.p := fun j z1 z2 => by
        rcases (show j < wsm a.n (Lg a.n + 1) ∨ wsm a.n (Lg a.n + 1) ≤ j by omega) with q | q
        · obtain ⟨e, y, e0, e1, y0, y1, rfl⟩ := place z1 q
          rw [hSp.1 e e0 e1 y y0 y1]
          exact emod_in p1
        · rw [hSp.2 j q z2]; omega
      obtain ⟨M9, hM9⟩ : ∃ M9, upA M5 (u + 1) (fun j => if 0 ≤ j ∧ j < 364 then M5 (v + 1) j else M5 (u + 1) j) = M9 := ⟨_, rfl⟩
      rw [hM9]
      have hrow : ∀ j, 0 ≤ j → j < 364 → M9 (u + 1) j = M5 (v + 1) j := fun j z1 z2 => by rw [← hM9, upA_s, if_pos ⟨z1, z2⟩]
      obtain ⟨hC9, hl9⟩ := CRel.sumU (s := M5 (v + 1)) (M2 := M9) H5 B_t (fun q z => by rw [← hM9]; exact upA_row (by omega)) ⟨fun j z1 z2 => ⟨hrow j z1 z2, hrng j z1 z2⟩, hSp.2⟩
      exact ⟨_, rfl, hLO5.tr hl9, _, ⟨_, hSp, cntF_congr (fun j z1 z2 => by rw [hrow j z1 z2]), rfl⟩, hC9⟩
    · skip
      have hB := sz_B n1 n2 d0 (show d ≤ Lg a.n by omega)
      refine ab_iconst C dX8_reduce_20 (by decide) ?_
      refine ab_istore2 (lv := []) C rfl dX8_reduce_21 ?_
      refine ab_loop (fun x (z : AbV × AbM) => AJ K S 22 [vP w, vI d, vI x, z.1] [] z.2) (fun x z => 0 ≤ x ∧ lo Bd M z.2 ∧ CRel a z.2 w al t u g h b c x0 x1 x2 x3 ∧ (∀ e, 0 ≤ e → e < d → ∀ y, 0 ≤ y → y < pw a.n e → z.2 (v + 1) (wsm a.n e + y) = rdP a e (pw a.n e) y) ∧ (∀ y, 0 ≤ y → y < pw a.n d → z.2 (v + 1) (wsm a.n d + y) = rdP a d x y) ∧ ∀ j, wsm a.n (d + 1) ≤ j → j < 364 → z.2 (v + 1) j = 0) (pw a.n d) ?_ 0 (y3, M5) (by omega) ⟨by omega, hLO5, H5, kA, fun y y0 y1 => by dsimp only; rw [rdP_0, kC _ (by omega) (by omega)], fun j z1 z2 => kC j (by have := wsm_s (n := a.n) (d := d) (by omega); omega) z2⟩
      · intro x z hx hI ihx
        obtain ⟨y3, M6⟩ := z
        obtain ⟨x0_, hLO6, H6, kA, kB, kC⟩ := hI
        dsimp only at hLO6 H6 kA kB kC ihx ⊢
        refine ab_iload_n C dX8_reduce_22 rfl rfl ?_
        refine ab_aload_n C dX8_reduce_23 rfl rfl ?_
        refine gf_RX8_10 C s_t rfl dX8_reduce_24 ?_
        refine ab_iload_n C dX8_reduce_27 rfl rfl ?_
        refine ab_callV C cl_RX8_198 (m_X1_words B_t_alphabet H6.1 (by omega) (by omega)) (by decide) rfl s_t_alphabet rfl rfl (Nat.le_of_ble_eq_true rfl) dX8_reduce_28 (ab_kI (fun r_28 M_28 h_28 => ?_))
        obtain ⟨rfl, rfl⟩ := h_28
        refine ab_icmp_ge (tgt := 68) C dX8_reduce_31 rfl (fun h_31 => ?_) (fun h_31 => ?_)
        · skip
          refine ab_iinc1 (lv := []) C rfl dX8_reduce_68 (by omega) ?_
          refine ab_goto (tgt := 9) C dX8_reduce_71 rfl ?_
          have ex : x = pw a.n d := by omega
          subst ex
          refine ih (_, _, M6) (by omega) ⟨by omega, hLO6, H6, fun e z1 z2 y y0 y1 => ?_, kC⟩
          rcases (show e < d ∨ e = d by omega) with q | q
          · exact kA e z1 q y y0 y1
          · subst q; exact kB y y0 y1
        · skip
          refine ab_aload_n C dX8_reduce_34 rfl rfl ?_
          refine gf_RX8_35 C s_t rfl dX8_reduce_35 ?_
          refine ab_iload_n C dX8_reduce_38 rfl rfl ?_
          refine ab_iload_n C dX8_reduce_39 rfl rfl ?_
          refine ab_callV C cl_RX8_197 (m_X6_numberOf B_t_lookedAt H6.1 (by omega) (by omega) (by omega) (by omega) (by omega)) (by decide) rfl s_t_lookedAt rfl rfl (Nat.le_of_ble_eq_true rfl) dX8_reduce_40 (ab_kI (fun r_40 M_40 h_40 => ?_))
          obtain ⟨rfl, rfl⟩ := h_40
          rw [(H6.2.2.2.2.1.1 _ (show 0 ≤ wsm a.n d + x by omega) (by omega)).1]
          have hvr := (H6.2.2.2.2.1.1 _ (show 0 ≤ wsm a.n d + x by omega) (by omega)).2
          refine ab_istore3 (lv := []) C rfl dX8_reduce_43 ?_
          refine ab_iload_n C dX8_reduce_44 rfl rfl ?_
          refine ab_if_eq (tgt := 62) C dX8_reduce_45 rfl (fun h_45 => ?_) (fun h_45 => ?_)
          · skip
            refine ab_iinc2 (lv := []) C rfl dX8_reduce_62 (by omega) ?_
            refine ab_goto (tgt := 22) C dX8_reduce_65 rfl ?_
            first
            | (refine ihx (_, M6) (by omega) ⟨by omega, hLO6, H6, kA, fun y y0 y1 => ?_, kC⟩
               show M6 (v + 1) (wsm a.n d + y) = _
               rw [kB y y0 y1, rdP_z x0_ (Or.inl h_45)])
            | (refine ihx (_, M_59) (by omega) ⟨by omega, hl5, hC4, fun e z1 z2 y y0 y1 => ?_, fun y y0 y1 => ?_, fun j z1 z2 => ?_⟩
               · have := wsm_le (n := a.n) n1 (show 0 ≤ e + 1 by omega) (show e + 1 ≤ d by omega)
                 rw [wsm_s z1] at this
                 show M_59 (v + 1) (wsm a.n e + y) = _
                 rw [f59, if_neg (by omega)]
                 exact kA e z1 z2 y y0 y1
               · show M_59 (v + 1) (wsm a.n d + y) = _
                 rw [f59]
                 by_cases q : y ≤ x
                 · rw [if_pos (by omega), kB y y0 y1, show wsm a.n d + y - wsm a.n d = y by omega]
                   exact rdP_s p1 x0_
                 · rw [if_neg (by omega), kB y y0 y1, rdP_z x0_ (Or.inr ((hz3 y).2 (by omega)))]
               · have := wsm_s (n := a.n) (d := d) (by omega)
                 have z1 : wsm a.n (d + 1) ≤ j := z1
                 show M_59 (v + 1) j = 0
                 rw [f59, if_neg (by omega)]
                 exact kC j z1 z2)
          · skip
            refine ab_aload_n C dX8_reduce_48 rfl rfl ?_
            refine gf_RX8_57 C s_t rfl dX8_reduce_49 ?_
            refine ab_iload_n C dX8_reduce_52 rfl rfl ?_
            refine ab_iload_n C dX8_reduce_53 rfl rfl ?_
            refine ab_iload_n C dX8_reduce_54 rfl rfl ?_
            refine ab_aload_n C dX8_reduce_55 rfl rfl ?_
            refine gf_RX8_39 C s_t rfl dX8_reduce_56 ?_
            refine ab_callV C cl_RX8_201 (m_X0_addForm B_t_algebra H6.1 (by omega) (by omega) H6.2.1.ok H6.2.2.1 (by omega) (by omega) (by omega) (by omega) (by omega) (by omega) B_t_spare (by omega)) (by decide) rfl s_t_algebra rfl rfl (Nat.le_of_ble_eq_true rfl) dX8_reduce_59 (ab_kV (fun M_59 h_59 => ?_))
            obtain ⟨M3, hs3, hA3, hd3, h59⟩ := h_59
            obtain ⟨z1, z2, z3, z4, z5, z6⟩ := H6.2.1.eq
            have hz3 := alg_srh p1 n1 hA3 d0 hd3 x x0_ (by omega)
            rw [hs3 g (by simp; omega), hs3 (g + 1) (by simp; omega), hs3 (g + 2) (by simp; omega), z2] at hz3
            rw [z2] at h59
            obtain ⟨hC3, hl3⟩ := H6.alg B_t hs3 hA3
            have f59 : ∀ j, M_59 (v + 1) j = if wsm a.n d ≤ j ∧ j ≤ wsm a.n d + x then (M6 (v + 1) j + a.sum (wsm a.n d + x) * srh a.n a.p a.sz a.len a.num d x (j - wsm a.n d)) % a.p else M6 (v + 1) j := fun j => by rw [← h59, upA_s]
            obtain ⟨hC4, hl4⟩ := CRel.sumU (s := a.sum) (M2 := M_59) hC3 B_t (fun q z => by rw [← h59]; exact upA_row (by omega)) (by rw [← h59, upA_row (by omega)]; exact hC3.2.2.2.2.1)
            have hC4 : CRel a M_59 w al t u g h b c x0 x1 x2 x3 := hC4
            have hl5 := (hLO6.tr hl3).tr hl4
            clear h59 hs3 hA3 hd3 z1 z2 z3 z4 z5 z6
            refine ab_iinc2 (lv := []) C rfl dX8_reduce_62 (by omega) ?_
            refine ab_goto (tgt := 22) C dX8_reduce_65 rfl ?_
            first
            | (refine ihx (_, M6) (by omega) ⟨by omega, hLO6, H6, kA, fun y y0 y1 => ?_, kC⟩
               show M6 (v + 1) (wsm a.n d + y) = _
               rw [kB y y0 y1, rdP_z x0_ (Or.inl h_45)])
            | (refine ihx (_, M_59) (by omega) ⟨by omega, hl5, hC4, fun e z1 z2 y y0 y1 => ?_, fun y y0 y1 => ?_, fun j z1 z2 => ?_⟩
               · have := wsm_le (n := a.n) n1 (show 0 ≤ e + 1 by omega) (show e + 1 ≤ d by omega)
                 rw [wsm_s z1] at this
                 show M_59 (v + 1) (wsm a.n e + y) = _
                 rw [f59, if_neg (by omega)]
                 exact kA e z1 z2 y y0 y1
               · show M_59 (v + 1) (wsm a.n d + y) = _
                 rw [f59]
                 by_cases q : y ≤ x
                 · rw [if_pos (by omega), kB y y0 y1, show wsm a.n d + y - wsm a.n d = y by omega]
                   exact rdP_s p1 x0_
                 · rw [if_neg (by omega), kB y y0 y1, rdP_z x0_ (Or.inr ((hz3 y).2 (by omega)))]
               · have := wsm_s (n := a.n) (d := d) (by omega)
                 have z1 : wsm a.n (d + 1) ≤ j := z1
                 show M_59 (v + 1) j = 0
                 rw [f59, if_neg (by omega)]
                 exact kC j z1 z2)
set_option maxRecDepth 100000 in
set_option maxHeartbeats 4000000 in
theorem m_X8_put {D : va_G} {cA : Nat → ClassId} {S : List AbS} {M : AbM} {w al t rr u v g h b c k sh x0 x1 x2 x3 Bd : Nat} {a : St} (B_t : WL S w al t rr u v g h b c k sh x0 x1 x2 x3 Bd) (H : CRel a M w al t u g h b c x0 x1 x2 x3) {x y : Int} : Meth yX8_put cX8_put 6 (some .int) rmX8_put D cA S [vP w, vI x, vI y] M (qI fun q M2 => lo Bd M M2 ∧ ∃ b9, oPut a x y q b9 ∧ CRel b9 M2 w al t u g h b c x0 x1 x2 x3) := by
  refine ab_intro (lv := [vP w, vI x, vI y, vU, vU, vU]) (by decide +kernel) rfl (Nat.le_of_ble_eq_true rfl) ?_
  intro hO hargs K hKD hKA C r
  have C : Cx K cX8_put RX8 rmX8_put := C
  have i_x : inI x := hargs _ (List.mem_cons_of_mem _ (List.mem_cons_self))
  have i_y : inI y := hargs _ (List.mem_cons_of_mem _ (List.mem_cons_of_mem _ (List.mem_cons_self)))
  obtain ⟨⟨s_t, B_t_alphabet, B_t_tape, B_t_reader, B_t_lookedAt, B_t_spare, B_t_lawList, B_t_otherList, B_t_algebra, B_t_otherAlgebra, B_t_echelon, s_t_sheets, B_x0, B_x1, B_x2, B_x3⟩, hPl⟩ := id B_t
  obtain ⟨s_t_alphabet, -⟩ := id B_t_alphabet
  obtain ⟨s_t_tape, -⟩ := id B_t_tape
  obtain ⟨s_t_reader, -⟩ := id B_t_reader
  obtain ⟨s_t_lookedAt, -⟩ := id B_t_lookedAt
  obtain ⟨s_t_spare, -⟩ := id B_t_spare
  obtain ⟨s_t_lawList, -⟩ := id B_t_lawList
  obtain ⟨s_t_otherList, -⟩ := id B_t_otherList
  obtain ⟨s_t_algebra, -⟩ := id B_t_algebra
  obtain ⟨s_t_otherAlgebra, -⟩ := id B_t_otherAlgebra
  obtain ⟨s_t_echelon, -⟩ := id B_t_echelon
  have A_t_alphabet := H.1
  obtain ⟨⟨n1, n2, hPr⟩, -⟩ := id A_t_alphabet
  obtain ⟨p1, p2, -⟩ := id hPr
  have hLB := Lg_B a.n
  have hLO : lo Bd M M := lo.rf Bd M
  have hBL := sz_B n1 n2 (show 0 ≤ Lg a.n by omega) (Int.le_refl _)
  have hS := H.2.2.2.2.1
  have ecn : cntF (fun z => M (u + 1) (wsm a.n (Lg a.n) + z)) (pw a.n (Lg a.n)) = cntF (fun w => a.sum (wsm a.n (Lg a.n) + w)) (pw a.n (Lg a.n)) := cntF_congr (fun z z1 z2 => by rw [(hS.1 _ (by omega) (by omega)).1])
  refine ab_iload_n C dX8_put_0 rfl rfl ?_
  refine ab_if_lt (tgt := 24) C dX8_put_1 rfl (fun h_1 => ?_) (fun h_1 => ?_)
  · skip
    refine ab_iconst C dX8_put_24 (by decide) ?_
    refine ab_iret (st := []) C r dX8_put_25 ?_
    refine ⟨_, rfl, hLO, a, Or.inl ⟨fun z => ?_, rfl, rfl⟩, H⟩
    obtain ⟨⟨z1, z2⟩, z3, z4⟩ := z
    omega
  · skip
    refine ab_iload_n C dX8_put_4 rfl rfl ?_
    refine ab_iconst C dX8_put_5 (by decide) ?_
    refine ab_icmp_gt (tgt := 24) C dX8_put_6 rfl (fun h_6 => ?_) (fun h_6 => ?_)
    · skip
      refine ab_iconst C dX8_put_24 (by decide) ?_
      refine ab_iret (st := []) C r dX8_put_25 ?_
      refine ⟨_, rfl, hLO, a, Or.inl ⟨fun z => ?_, rfl, rfl⟩, H⟩
      obtain ⟨⟨z1, z2⟩, z3, z4⟩ := z
      omega
    · skip
      refine ab_iload_n C dX8_put_9 rfl rfl ?_
      refine ab_if_lt (tgt := 24) C dX8_put_10 rfl (fun h_10 => ?_) (fun h_10 => ?_)
      · skip
        refine ab_iconst C dX8_put_24 (by decide) ?_
        refine ab_iret (st := []) C r dX8_put_25 ?_
        refine ⟨_, rfl, hLO, a, Or.inl ⟨fun z => ?_, rfl, rfl⟩, H⟩
        obtain ⟨⟨z1, z2⟩, z3, z4⟩ := z
        omega
      · skip
        refine ab_iload_n C dX8_put_13 rfl rfl ?_
        refine ab_aload_n C dX8_put_14 rfl rfl ?_
        refine gf_RX8_10 C s_t rfl dX8_put_15 ?_
        refine ab_callV C cl_RX8_140 (m_X1_letters B_t_alphabet A_t_alphabet) (by decide) rfl s_t_alphabet rfl rfl (Nat.le_of_ble_eq_true rfl) dX8_put_18 (ab_kI (fun r_18 M_18 h_18 => ?_))
        obtain ⟨rfl, rfl⟩ := h_18
        refine ab_icmp_lt (tgt := 26) C dX8_put_21 rfl (fun h_21 => ?_) (fun h_21 => ?_)
        · skip
          refine ab_aload_n C dX8_put_26 rfl rfl ?_
          refine gf_RX8_35 C s_t rfl dX8_put_27 ?_
          refine ab_aload_n C dX8_put_30 rfl rfl ?_
          refine gf_RX8_10 C s_t rfl dX8_put_31 ?_
          refine ab_callV C cl_RX8_98 (m_X1_longest B_t_alphabet A_t_alphabet) (by decide) rfl s_t_alphabet rfl rfl (Nat.le_of_ble_eq_true rfl) dX8_put_34 (ab_kI (fun r_34 M_34 h_34 => ?_))
          obtain ⟨rfl, rfl⟩ := h_34
          refine ab_callV C cl_RX8_205 (m_X6_hasTermsOf B_t_lookedAt A_t_alphabet (by omega) (by omega) (by omega)) (by decide) rfl s_t_lookedAt rfl rfl (Nat.le_of_ble_eq_true rfl) dX8_put_37 (ab_kI (fun r_37 M_37 h_37 => ?_))
          obtain ⟨rfl, rfl⟩ := h_37
          rw [ecn]
          refine ab_if_eq (tgt := 46) C dX8_put_40 rfl (fun h_40 => ?_) (fun h_40 => ?_)
          · skip
            refine ab_aload_n C dX8_put_46 rfl rfl ?_
            refine gf_RX8_39 C s_t rfl dX8_put_47 ?_
            refine ab_callV C cl_RX8_93 (m_X6_clear B_t_spare) (by decide) rfl s_t_spare rfl rfl (Nat.le_of_ble_eq_true rfl) dX8_put_50 (ab_kV (fun M_50 h_50 => ?_))
            
            refine ab_iconst C dX8_put_53 (by decide) ?_
            refine ab_istore3 (lv := []) C rfl dX8_put_54 ?_
            subst h_50
            refine ab_loop (fun d (st : AbV × AbV × AbM) => AJ K S 55 [vP w, vI x, vI y, vI d, st.1, st.2.1] [] st.2.2) (fun d st => 0 ≤ d ∧ (∀ q, q ≠ v + 1 → st.2.2 q = M q) ∧ (∀ e, 0 ≤ e → e ≤ d → ∀ z, 0 ≤ z → z < pw a.n e → st.2.2 (v + 1) (wsm a.n e + z) = putV a x y e z) ∧ ∀ j, wsm a.n (d + 1) ≤ j → j < 364 → st.2.2 (v + 1) j = 0) (Lg a.n) ?_ 0 (vU, vU, upA M (v + 1) (fun j => if 0 ≤ j ∧ j < 364 then 0 else M (v + 1) j)) (by omega) ⟨by omega, fun q hq => upA_row hq, fun e z1 z2 z z0 z9 => ?_, fun j z1 z2 => ?_⟩
            · intro d z hd hI ih
              obtain ⟨y4, y5, M5⟩ := z
              obtain ⟨d0, k1, kA, kC⟩ := hI
              dsimp only at k1 kA kC ih ⊢
              have A5 := A_t_alphabet.rows (M2 := M5) (fun q z1 z2 => k1 q (by omega))
              refine ab_iload_n C dX8_put_55 rfl rfl ?_
              refine ab_aload_n C dX8_put_56 rfl rfl ?_
              refine gf_RX8_10 C s_t rfl dX8_put_57 ?_
              refine ab_callV C cl_RX8_98 (m_X1_longest B_t_alphabet A5) (by decide) rfl s_t_alphabet rfl rfl (Nat.le_of_ble_eq_true rfl) dX8_put_60 (ab_kI (fun r_60 M_60 h_60 => ?_))
              obtain ⟨rfl, rfl⟩ := h_60
              refine ab_icmp_ge (tgt := 147) C dX8_put_63 rfl (fun h_63 => ?_) (fun h_63 => ?_)
              · skip
                refine ab_aload_n C dX8_put_147 rfl rfl ?_
                refine gf_RX8_35 C s_t rfl dX8_put_148 ?_
                refine ab_aload_n C dX8_put_151 rfl rfl ?_
                refine gf_RX8_39 C s_t rfl dX8_put_152 ?_
                refine ab_callV C cl_RX8_193 (m_X6_copy B_t_lookedAt B_t_spare) (by decide) rfl s_t_lookedAt rfl rfl (Nat.le_of_ble_eq_true rfl) dX8_put_155 (ab_kV (fun M_155 h_155 => ?_))
                subst h_155
                refine ab_aload_n C dX8_put_158 rfl rfl ?_
                refine gf_RX8_35 C s_t rfl dX8_put_159 ?_
                refine ab_callV C cl_RX8_149 (m_X6_terms B_t_lookedAt) (by decide) rfl s_t_lookedAt rfl rfl (Nat.le_of_ble_eq_true rfl) dX8_put_162 (ab_kI (fun r_162 M_162 h_162 => ?_))
                obtain ⟨rfl, rfl⟩ := h_162
                refine ab_iret (st := []) C r dX8_put_165 ?_
                have ed : d = Lg a.n := by omega
                subst ed
                have hcn : cntF (fun w => a.sum (wsm a.n (Lg a.n) + w)) (pw a.n (Lg a.n)) = 0 := by
                  by_cases z : cntF (fun w => a.sum (wsm a.n (Lg a.n) + w)) (pw a.n (Lg a.n)) = 0
                  · exact z
                  · rw [if_neg z] at h_40; exact absurd h_40 (by decide)
                have hSp : PutS a x y (M5 (v + 1)) := ⟨kA, kC⟩
                have hrng : ∀ j, 0 ≤ j → j < 364 → 0 ≤ M5 (v + 1) j ∧ M5 (v + 1) j < a.p := fun j u1 u2 => by
                  rcases (show j < wsm a.n (Lg a.n + 1) ∨ wsm a.n (Lg a.n + 1) ≤ j by omega) with q | q
                  · obtain ⟨e, z, e0, e1, z0, z1, rfl⟩ := place u1 q
                    rw [hSp.1 e e0 e1 z z0 z1]
                    unfold putV
                    have hBe := sz_B n1 n2 e0 e1
                    by_cases c : 1 ≤ e ∧ (if x = 0 then z / pw a.n (e - 1) else z % a.n) = y
                    · rw [if_pos c]
                      have hBe1 := sz_B n1 n2 (show 0 ≤ e - 1 by omega) (show e - 1 ≤ Lg a.n by omega)
                      obtain ⟨tl0, tl1, -⟩ := tail_B n1 c.1 z0 z1
                      obtain ⟨hd0, hd1, -⟩ := head_B n1 c.1 z0 z1
                      refine (hS.1 _ ?_ ?_).2
                      · split <;> omega
                      · split <;> omega
                    · rw [if_neg c]; omega
                  · rw [hSp.2 j q u2]; omega
                obtain ⟨H5, hl5⟩ := CRel.sumU (s := a.sum) (M2 := M5) H B_t (fun q z => k1 q (by omega)) (by rw [k1 (u + 1) (by omega)]; exact hS)
                have H5 : CRel a M5 w al t u g h b c x0 x1 x2 x3 := H5
                obtain ⟨M9, hM9⟩ : ∃ M9, upA M5 (u + 1) (fun j => if 0 ≤ j ∧ j < 364 then M5 (v + 1) j else M5 (u + 1) j) = M9 := ⟨_, rfl⟩
                rw [hM9]
                have hrow : ∀ j, 0 ≤ j → j < 364 → M9 (u + 1) j = M5 (v + 1) j := fun j z1 z2 => by rw [← hM9, upA_s, if_pos ⟨z1, z2⟩]
                obtain ⟨hC9, hl9⟩ := CRel.sumU (s := M5 (v + 1)) (M2 := M9) H5 B_t (fun q z => by rw [← hM9]; exact upA_row (by omega)) ⟨fun j z1 z2 => ⟨hrow j z1 z2, hrng j z1 z2⟩, hSp.2⟩
                exact ⟨_, rfl, hl5.tr hl9, _, Or.inr (Or.inr ⟨⟨⟨by omega, by omega⟩, by omega, by omega⟩, hcn, _, hSp, cntF_congr (fun j z1 z2 => by rw [hrow j z1 z2]), rfl⟩), hC9⟩
              · skip
                have hB := sz_B n1 n2 (show 0 ≤ d by omega) (show d ≤ Lg a.n by omega)
                have hB1 := sz_B n1 n2 (show 0 ≤ d + 1 by omega) (show d + 1 ≤ Lg a.n by omega)
                have hw1 := wsm_s (n := a.n) (d := d) (by omega)
                have hw2 := wsm_s (n := a.n) (d := d + 1) (by omega)
                refine ab_iconst C dX8_put_66 (by decide) ?_
                refine ab_istore4 (lv := []) C rfl dX8_put_67 ?_
                refine ab_loop (fun f (st : AbV × AbM) => AJ K S 69 [vP w, vI x, vI y, vI d, vI f, st.1] [] st.2) (fun f st => 0 ≤ f ∧ (∀ q, q ≠ v + 1 → st.2 q = M q) ∧ (∀ e, 0 ≤ e → e ≤ d → ∀ z, 0 ≤ z → z < pw a.n e → st.2 (v + 1) (wsm a.n e + z) = putV a x y e z) ∧ (∀ z, 0 ≤ z → z < pw a.n (d + 1) → st.2 (v + 1) (wsm a.n (d + 1) + z) = ptP a x y d f z) ∧ ∀ j, wsm a.n (d + 1 + 1) ≤ j → j < 364 → st.2 (v + 1) j = 0) (pw a.n d) ?_ 0 (y5, M5) (by omega) ⟨by omega, k1, kA, fun z z1 z2 => by dsimp only; rw [ptP_0 n1 z1, kC _ (by omega) (by omega)], fun j z1 z2 => kC j (by omega) z2⟩
                · intro f z hf hI ihf
                  obtain ⟨y5, M6⟩ := z
                  obtain ⟨f0, k1, kA, kB, kC⟩ := hI
                  dsimp only at k1 kA kB kC ihf ⊢
                  have A6 := A_t_alphabet.rows (M2 := M6) (fun q z1 z2 => k1 q (by omega))
                  refine ab_iload C dX8_put_69 rfl ?_
                  refine ab_aload_n C dX8_put_71 rfl rfl ?_
                  refine gf_RX8_10 C s_t rfl dX8_put_72 ?_
                  refine ab_iload_n C dX8_put_75 rfl rfl ?_
                  refine ab_callV C cl_RX8_198 (m_X1_words B_t_alphabet A6 (by omega) (by omega)) (by decide) rfl s_t_alphabet rfl rfl (Nat.le_of_ble_eq_true rfl) dX8_put_76 (ab_kI (fun r_76 M_76 h_76 => ?_))
                  obtain ⟨rfl, rfl⟩ := h_76
                  refine ab_icmp_ge (tgt := 141) C dX8_put_79 rfl (fun h_79 => ?_) (fun h_79 => ?_)
                  · skip
                    refine ab_iinc3 (lv := []) C rfl dX8_put_141 (by omega) ?_
                    refine ab_goto (tgt := 55) C dX8_put_144 rfl ?_
                    have ef : f = pw a.n d := by omega
                    subst ef
                    refine ih (_, _, M6) (by omega) ⟨by omega, k1, fun e z1 z2 z z0 z9 => ?_, kC⟩
                    rcases (show e ≤ d ∨ e = d + 1 by omega) with q | q
                    · exact kA e z1 q z z0 z9
                    · subst q
                      show M6 (v + 1) _ = _
                      rw [kB z z0 z9, ptP_all n1 d0 z0 z9]
                  · skip
                    have B1 := blk_B (d := d + 1) n1 (by omega) y f (by omega) (by omega) f0 (by rw [show d + 1 - 1 = d by omega]; omega)
                    rw [show d + 1 - 1 = d by omega] at B1
                    have c1_ : 0 ≤ y * pw a.n d := Int.mul_nonneg (by omega) (by omega)
                    have c2_ : 0 ≤ f * a.n := Int.mul_nonneg f0 (by omega)
                    refine ab_iload_n C dX8_put_82 rfl rfl ?_
                    refine ab_if_ne (tgt := 100) C dX8_put_83 rfl (fun h_83 => ?_) (fun h_83 => ?_)
                    · skip
                      refine ab_aload_n C dX8_put_100 rfl rfl ?_
                      refine gf_RX8_10 C s_t rfl dX8_put_101 ?_
                      refine ab_iload C dX8_put_104 rfl ?_
                      refine ab_iload_n C dX8_put_106 rfl rfl ?_
                      refine ab_callV C cl_RX8_211 (m_X1_behind B_t_alphabet A6 (by omega) (by omega) (by omega) (by omega)) (by decide) rfl s_t_alphabet rfl rfl (Nat.le_of_ble_eq_true rfl) dX8_put_107 (ab_kI (fun r_107 M_107 h_107 => ?_))
                      obtain ⟨rfl, rfl⟩ := h_107
                      obtain ⟨L9, hL9⟩ : ∃ L9, lgr a x y d f = L9 := ⟨_, rfl⟩
                      have hLB9 : 0 ≤ L9 ∧ L9 < pw a.n (d + 1) := by
                        rw [← hL9]
                        unfold lgr
                        split <;> omega
                      have hL0 : ptP a x y d f L9 = 0 := by rw [← hL9]; exact lgr_0 n1 (by omega) f0 (by omega)
                      have eL : ∀ G : Int → Prop, G (lgr a x y d f) → G L9 := fun G z => by rw [← hL9]; exact z
                      first
                      | (have eL2 : y * pw a.n d + f = L9 := by rw [← hL9]; unfold lgr; rw [if_pos h_83]
                         rw [eL2])
                      | (have eL2 : f * a.n + y = L9 := by rw [← hL9]; unfold lgr; rw [if_neg h_83]
                         rw [eL2])
                      refine ab_istore5 (lv := []) C rfl dX8_put_110 ?_
                      refine ab_aload_n C dX8_put_112 rfl rfl ?_
                      refine gf_RX8_39 C s_t rfl dX8_put_113 ?_
                      refine ab_iload_n C dX8_put_116 rfl rfl ?_
                      refine ab_iconst C dX8_put_117 (by decide) ?_
                      refine ab_iadd C dX8_put_118 (by omega) ?_
                      refine ab_iload C dX8_put_119 rfl ?_
                      refine ab_aload_n C dX8_put_121 rfl rfl ?_
                      refine gf_RX8_35 C s_t rfl dX8_put_122 ?_
                      refine ab_iload_n C dX8_put_125 rfl rfl ?_
                      refine ab_iload C dX8_put_126 rfl ?_
                      refine ab_callV C cl_RX8_197 (m_X6_numberOf B_t_lookedAt A6 (by omega) (by omega) (by omega) (by omega) (by omega)) (by decide) rfl s_t_lookedAt rfl rfl (Nat.le_of_ble_eq_true rfl) dX8_put_128 (ab_kI (fun r_128 M_128 h_128 => ?_))
                      obtain ⟨rfl, rfl⟩ := h_128
                      rw [k1 (u + 1) (by omega), (hS.1 _ (show 0 ≤ wsm a.n d + f by omega) (by omega)).1]
                      have hvr := (hS.1 _ (show 0 ≤ wsm a.n d + f by omega) (by omega)).2
                      refine ab_i2l C dX8_put_131 ?_
                      refine ab_callV C cl_RX8_214 (m_X6_add B_t_spare A6 (by omega) (by omega) (by omega) (by omega) (by omega) (by omega) (by omega)) (by decide) rfl s_t_spare rfl rfl (Nat.le_of_ble_eq_true rfl) dX8_put_132 (ab_kV (fun M_132 h_132 => ?_))
                      
                      refine ab_iinc4 (lv := []) C rfl dX8_put_135 (by omega) ?_
                      refine ab_goto (tgt := 69) C dX8_put_138 rfl ?_
                      have g132 : ∀ j, M_132 (v + 1) j = if j = wsm a.n (d + 1) + L9 then a.sum (wsm a.n d + f) else M6 (v + 1) j := fun j => by
                        rw [← h_132]
                        by_cases q : j = wsm a.n (d + 1) + L9
                        · rw [q, up_s, if_pos rfl, kB L9 hLB9.1 hLB9.2, hL0, Int.zero_add, Int.emod_eq_of_lt hvr.1 hvr.2]
                        · rw [up_i q, if_neg q]
                      refine ihf (_, M_132) (by omega) ⟨by omega, fun q hq => by rw [← h_132]; exact (up_row hq).trans (k1 q hq), fun e z1 z2 z z0 z9 => ?_, fun z z0 z9 => ?_, fun j z1 z2 => ?_⟩
                      · have := wsm_le (n := a.n) n1 (show 0 ≤ e + 1 by omega) (show e + 1 ≤ d + 1 by omega)
                        rw [wsm_s z1] at this
                        show M_132 (v + 1) (wsm a.n e + z) = _
                        rw [g132, if_neg (by omega)]
                        exact kA e z1 z2 z z0 z9
                      · show M_132 (v + 1) (wsm a.n (d + 1) + z) = _
                        rw [g132, ptP_s n1 (by omega) f0 (by omega) z0, hL9]
                        by_cases q : z = L9
                        · rw [if_pos (by omega), if_pos q]
                        · rw [if_neg (by omega), if_neg q]
                          exact kB z z0 z9
                      · have z1 : wsm a.n (d + 1 + 1) ≤ j := z1
                        show M_132 (v + 1) j = 0
                        rw [g132, if_neg (by omega)]
                        exact kC j z1 z2
                    · skip
                      refine ab_aload_n C dX8_put_86 rfl rfl ?_
                      refine gf_RX8_10 C s_t rfl dX8_put_87 ?_
                      refine ab_iload_n C dX8_put_90 rfl rfl ?_
                      refine ab_iload_n C dX8_put_91 rfl rfl ?_
                      refine ab_iload C dX8_put_92 rfl ?_
                      refine ab_callV C cl_RX8_208 (m_X1_ahead B_t_alphabet A6 (by omega) (by omega) (by omega) (by omega) (by omega) (by omega)) (by decide) rfl s_t_alphabet rfl rfl (Nat.le_of_ble_eq_true rfl) dX8_put_94 (ab_kI (fun r_94 M_94 h_94 => ?_))
                      obtain ⟨rfl, rfl⟩ := h_94
                      refine ab_goto (tgt := 110) C dX8_put_97 rfl ?_
                      obtain ⟨L9, hL9⟩ : ∃ L9, lgr a x y d f = L9 := ⟨_, rfl⟩
                      have hLB9 : 0 ≤ L9 ∧ L9 < pw a.n (d + 1) := by
                        rw [← hL9]
                        unfold lgr
                        split <;> omega
                      have hL0 : ptP a x y d f L9 = 0 := by rw [← hL9]; exact lgr_0 n1 (by omega) f0 (by omega)
                      have eL : ∀ G : Int → Prop, G (lgr a x y d f) → G L9 := fun G z => by rw [← hL9]; exact z
                      first
                      | (have eL2 : y * pw a.n d + f = L9 := by rw [← hL9]; unfold lgr; rw [if_pos h_83]
                         rw [eL2])
                      | (have eL2 : f * a.n + y = L9 := by rw [← hL9]; unfold lgr; rw [if_neg h_83]
                         rw [eL2])
                      refine ab_istore5 (lv := []) C rfl dX8_put_110 ?_
                      refine ab_aload_n C dX8_put_112 rfl rfl ?_
                      refine gf_RX8_39 C s_t rfl dX8_put_113 ?_
                      refine ab_iload_n C dX8_put_116 rfl rfl ?_
                      refine ab_iconst C dX8_put_117 (by decide) ?_
                      refine ab_iadd C dX8_put_118 (by omega) ?_
                      refine ab_iload C dX8_put_119 rfl ?_
                      refine ab_aload_n C dX8_put_121 rfl rfl ?_
                      refine gf_RX8_35 C s_t rfl dX8_put_122 ?_
                      refine ab_iload_n C dX8_put_125 rfl rfl ?_
                      refine ab_iload C dX8_put_126 rfl ?_
                      refine ab_callV C cl_RX8_197 (m_X6_numberOf B_t_lookedAt A6 (by omega) (by omega) (by omega) (by omega) (by omega)) (by decide) rfl s_t_lookedAt rfl rfl (Nat.le_of_ble_eq_true rfl) dX8_put_128 (ab_kI (fun r_128 M_128 h_128 => ?_))
                      obtain ⟨rfl, rfl⟩ := h_128
                      rw [k1 (u + 1) (by omega), (hS.1 _ (show 0 ≤ wsm a.n d + f by omega) (by omega)).1]
                      have hvr := (hS.1 _ (show 0 ≤ wsm a.n d + f by omega) (by omega)).2
                      refine ab_i2l C dX8_put_131 ?_
                      refine ab_callV C cl_RX8_214 (m_X6_add B_t_spare A6 (by omega) (by omega) (by omega) (by omega) (by omega) (by omega) (by omega)) (by decide) rfl s_t_spare rfl rfl (Nat.le_of_ble_eq_true rfl) dX8_put_132 (ab_kV (fun M_132 h_132 => ?_))
                      
                      refine ab_iinc4 (lv := []) C rfl dX8_put_135 (by omega) ?_
                      refine ab_goto (tgt := 69) C dX8_put_138 rfl ?_
                      have g132 : ∀ j, M_132 (v + 1) j = if j = wsm a.n (d + 1) + L9 then a.sum (wsm a.n d + f) else M6 (v + 1) j := fun j => by
                        rw [← h_132]
                        by_cases q : j = wsm a.n (d + 1) + L9
                        · rw [q, up_s, if_pos rfl, kB L9 hLB9.1 hLB9.2, hL0, Int.zero_add, Int.emod_eq_of_lt hvr.1 hvr.2]
                        · rw [up_i q, if_neg q]
                      refine ihf (_, M_132) (by omega) ⟨by omega, fun q hq => by rw [← h_132]; exact (up_row hq).trans (k1 q hq), fun e z1 z2 z z0 z9 => ?_, fun z z0 z9 => ?_, fun j z1 z2 => ?_⟩
                      · have := wsm_le (n := a.n) n1 (show 0 ≤ e + 1 by omega) (show e + 1 ≤ d + 1 by omega)
                        rw [wsm_s z1] at this
                        show M_132 (v + 1) (wsm a.n e + z) = _
                        rw [g132, if_neg (by omega)]
                        exact kA e z1 z2 z z0 z9
                      · show M_132 (v + 1) (wsm a.n (d + 1) + z) = _
                        rw [g132, ptP_s n1 (by omega) f0 (by omega) z0, hL9]
                        by_cases q : z = L9
                        · rw [if_pos (by omega), if_pos q]
                        · rw [if_neg (by omega), if_neg q]
                          exact kB z z0 z9
                      · have z1 : wsm a.n (d + 1 + 1) ≤ j := z1
                        show M_132 (v + 1) j = 0
                        rw [g132, if_neg (by omega)]
                        exact kC j z1 z2
            · have ee : e = 0 := by omega
              subst ee
              rw [pw_0] at z9
              show upA M (v + 1) (fun j => if 0 ≤ j ∧ j < 364 then 0 else M (v + 1) j) (v + 1) _ = _
              rw [upA_s, wsm_0, if_pos (by omega)]
              unfold putV
              rw [if_neg (fun z => absurd z.1 (by omega))]
            · have hw1 := wsm_s (n := a.n) (d := 0) (by omega)
              rw [wsm_0, pw_0] at hw1
              show upA M (v + 1) (fun j => if 0 ≤ j ∧ j < 364 then 0 else M (v + 1) j) (v + 1) j = 0
              rw [upA_s, if_pos (by omega)]
          · skip
            refine ab_bipush C dX8_put_43 (by decide) (by decide +kernel) ?_
            refine ab_iret (st := []) C r dX8_put_45 ?_
            refine ⟨_, rfl, hLO, a, Or.inr (Or.inl ⟨⟨⟨by omega, by omega⟩, by omega, by omega⟩, fun z => ?_, rfl, rfl⟩), H⟩
            rw [if_pos z] at h_40; exact absurd rfl h_40
        · skip
          refine ab_iconst C dX8_put_24 (by decide) ?_
          refine ab_iret (st := []) C r dX8_put_25 ?_
          refine ⟨_, rfl, hLO, a, Or.inl ⟨fun z => ?_, rfl, rfl⟩, H⟩
          obtain ⟨⟨z1, z2⟩, z3, z4⟩ := z
          omega
