set_option maxRecDepth 100000 in
set_option maxHeartbeats 4000000 in
theorem m_X8_forgetFrom {D : va_G} {cA : Nat → ClassId} {S : List AbS} {M : AbM} {w al t rr u v g h b c k sh x0 x1 x2 x3 Bd : Nat} {n p : Int} (B_t : WL S w al t rr u v g h b c k sh x0 x1 x2 x3 Bd) (A_t_alphabet : Al M al n p) {d : Int} (d0 : 0 ≤ d) (d1 : d ≤ 100) : Meth yX8_forgetFrom cX8_forgetFrom 2 none rmX8_forgetFrom D cA S [vP w, vI d] M (qV fun M2 => up (up M b 8 (min (M b 8) (d - 1))) w 11 1 = M2) := by
  refine ab_intro (lv := [vP w, vI d]) (by decide +kernel) rfl (Nat.le_of_ble_eq_true rfl) ?_
  intro hO hargs K hKD hKA C r
  have C : Cx K cX8_forgetFrom RX8 rmX8_forgetFrom := C
  have i_d : inI d := hargs _ (List.mem_cons_of_mem _ (List.mem_cons_self))
  obtain ⟨⟨s_t, B_t_alphabet, B_t_tape, B_t_reader, B_t_lookedAt, B_t_spare, B_t_lawList, B_t_otherList, B_t_algebra, B_t_otherAlgebra, B_t_echelon, s_t_sheets, B_x0, B_x1, B_x2, B_x3⟩, hPl⟩ := id B_t
  obtain ⟨s_t_alphabet, -⟩ := id B_t_alphabet
  obtain ⟨s_t_tape, -⟩ := id B_t_tape
  obtain ⟨s_t_reader, -⟩ := id B_t_reader
  obtain ⟨s_t_lookedAt, -⟩ := id B_t_lookedAt
  obtain ⟨s_t_spare, -⟩ := id B_t_spare
  obtain ⟨s_t_lawList, -⟩ := id B_t_lawList
  obtain ⟨s_t_otherList, -⟩ := id B_t_otherList
  obtain ⟨s_t_algebra, -⟩ := id B_t_algebra
  obtain ⟨s_t_otherAlgebra, -⟩ := id B_t_otherAlgebra
  obtain ⟨s_t_echelon, -⟩ := id B_t_echelon
  refine ab_aload_n C dX8_forgetFrom_0 rfl rfl ?_
  refine gf_RX8_57 C s_t rfl dX8_forgetFrom_1 ?_
  refine ab_iload_n C dX8_forgetFrom_4 rfl rfl ?_
  refine ab_callV C cl_RX8_247 (m_X0_forgetFrom B_t_algebra A_t_alphabet (by omega) (by omega) (by omega) (by omega)) (by decide) rfl s_t_algebra rfl rfl (Nat.le_of_ble_eq_true rfl) dX8_forgetFrom_5 (ab_kV (fun M_5 h_5 => ?_))
  subst h_5
  refine ab_aload_n C dX8_forgetFrom_8 rfl rfl ?_
  refine ab_iconst C dX8_forgetFrom_9 (by decide) ?_
  refine pf_RX8_78 C (by omega) s_t rfl dX8_forgetFrom_10 ?_
  refine ab_vret (st := []) C r dX8_forgetFrom_13 ?_
  exact ⟨rfl, rfl⟩
set_option maxRecDepth 100000 in
set_option maxHeartbeats 4000000 in
theorem m_X8_readTape {D : va_G} {cA : Nat → ClassId} {S : List AbS} {M : AbM} {w al t rr u v g h b c k sh x0 x1 x2 x3 Bd : Nat} {a : St} (B_t : WL S w al t rr u v g h b c k sh x0 x1 x2 x3 Bd) (H : CRel a M w al t u g h b c x0 x1 x2 x3) : Meth yX8_readTape cX8_readTape 2 (some .int) rmX8_readTape D cA S [vP w] M (qI fun q M2 => lo Bd M M2 ∧ CRel a.cl M2 w al t u g h b c x0 x1 x2 x3 ∧ q = (rdE a).1 ∧ (q = 0 → ∀ y, 0 ≤ y → y < 364 → M2 (v + 1) y = (rdE a).2 y)) := by
  refine ab_intro (lv := [vP w, vU]) (by decide +kernel) rfl (Nat.le_of_ble_eq_true rfl) ?_
  intro hO hargs K hKD hKA C r
  have C : Cx K cX8_readTape RX8 rmX8_readTape := C
  obtain ⟨⟨s_t, B_t_alphabet, B_t_tape, B_t_reader, B_t_lookedAt, B_t_spare, B_t_lawList, B_t_otherList, B_t_algebra, B_t_otherAlgebra, B_t_echelon, s_t_sheets, B_x0, B_x1, B_x2, B_x3⟩, hPl⟩ := id B_t
  obtain ⟨s_t_alphabet, -⟩ := id B_t_alphabet
  obtain ⟨s_t_tape, -⟩ := id B_t_tape
  obtain ⟨s_t_reader, -⟩ := id B_t_reader
  obtain ⟨s_t_lookedAt, -⟩ := id B_t_lookedAt
  obtain ⟨s_t_spare, -⟩ := id B_t_spare
  obtain ⟨s_t_lawList, -⟩ := id B_t_lawList
  obtain ⟨s_t_otherList, -⟩ := id B_t_otherList
  obtain ⟨s_t_algebra, -⟩ := id B_t_algebra
  obtain ⟨s_t_otherAlgebra, -⟩ := id B_t_otherAlgebra
  obtain ⟨s_t_echelon, -⟩ := id B_t_echelon
  have A_t_alphabet := H.1
  obtain ⟨⟨n1, n2, hPr⟩, -⟩ := id A_t_alphabet
  obtain ⟨p1, p2, -⟩ := id hPr
  have hLB := Lg_B a.n
  have hLO : lo Bd M M := lo.rf Bd M
  obtain ⟨t11, tB, tV⟩ := id H.2.2.2.2.2.1
  refine ab_aload_n C dX8_readTape_0 rfl rfl ?_
  refine gf_RX8_28 C s_t rfl dX8_readTape_1 ?_
  refine ab_aload_n C dX8_readTape_4 rfl rfl ?_
  refine gf_RX8_19 C s_t rfl dX8_readTape_5 ?_
  refine ab_aload_n C dX8_readTape_8 rfl rfl ?_
  refine gf_RX8_39 C s_t rfl dX8_readTape_9 ?_
  refine ab_callV C cl_RX8_248 (m_X4_read B_t_reader A_t_alphabet (by omega) (by omega) (by omega) B_t_tape B_t_spare (by omega) (by omega) (by omega) (by rw [t11]; exact fun i x y => by rw [(tV i x y).1]; have := (tV i x y).2; omega)) (by decide) rfl s_t_reader rfl rfl (Nat.le_of_ble_eq_true rfl) dX8_readTape_12 (ab_kI (fun r_12 M_12 h_12 => ?_))
  obtain ⟨hs1, hq1, hv1⟩ := h_12
  rw [rd_eq H.2.2.2.2.2.1] at hq1 hv1
  refine ab_istore1 (lv := []) C rfl dX8_readTape_15 ?_
  refine ab_aload_n C dX8_readTape_16 rfl rfl ?_
  refine gf_RX8_19 C s_t rfl dX8_readTape_17 ?_
  refine ab_callV C cl_RX8_252 (m_X7_clear B_t_tape) (by decide) rfl s_t_tape rfl rfl (Nat.le_of_ble_eq_true rfl) dX8_readTape_20 (ab_kV (fun M_20 h_20 => ?_))
  subst h_20
  refine ab_iload_n C dX8_readTape_23 rfl rfl ?_
  refine ab_iret (st := []) C r dX8_readTape_24 ?_
  have e : ∀ q, q ≠ rr → q ≠ v + 1 → q ≠ t → up M_12 t 1 0 q = M q := fun q x y z => by rw [up_row z]; exact hs1 q (by simp; omega)
  obtain ⟨hC9, hl9⟩ := CRel.tapeU (N := 0) (tp := a.tp) H B_t (fun q x y => e q (by omega) y (by omega)) (by rw [up_s]; exact ⟨rfl, ⟨Int.le_refl 0, by show (0 : Int) ≤ 80; decide⟩, fun i x y => by have y2 : i < 0 := y; omega⟩)
  exact ⟨_, rfl, hl9, hC9, hq1, fun z y y0 y1 => by rw [up_k (by omega)]; exact hv1 z y y0 y1⟩
set_option maxRecDepth 100000 in
set_option maxHeartbeats 4000000 in
theorem m_X8_addLaw {D : va_G} {cA : Nat → ClassId} {S : List AbS} {M : AbM} {w al t rr u v g h b c k sh x0 x1 x2 x3 Bd : Nat} {a : St} (B_t : WL S w al t rr u v g h b c k sh x0 x1 x2 x3 Bd) (H : CRel a M w al t u g h b c x0 x1 x2 x3) {d : Int} {V : Int → Int} (d2 : 2 ≤ d) (d4 : d ≤ 4) (hsz : a.sz < 8) (hv : ∀ x, 0 ≤ x → x < pw a.n d → M (v + 1) (wsm a.n d + x) = V (wsm a.n d + x) ∧ 0 ≤ V (wsm a.n d + x) ∧ V (wsm a.n d + x) < a.p) : Meth yX8_addLaw cX8_addLaw 3 (some .int) rmX8_addLaw D cA S [vP w, vI d] M (qI fun q M2 => lo Bd M M2 ∧ CRel (a.add d V) M2 w al t u g h b c x0 x1 x2 x3 ∧ q = a.sz) := by
  refine ab_intro (lv := [vP w, vI d, vU]) (by decide +kernel) rfl (Nat.le_of_ble_eq_true rfl) ?_
  intro hO hargs K hKD hKA C r
  have C : Cx K cX8_addLaw RX8 rmX8_addLaw := C
  have i_d : inI d := hargs _ (List.mem_cons_of_mem _ (List.mem_cons_self))
  obtain ⟨⟨s_t, B_t_alphabet, B_t_tape, B_t_reader, B_t_lookedAt, B_t_spare, B_t_lawList, B_t_otherList, B_t_algebra, B_t_otherAlgebra, B_t_echelon, s_t_sheets, B_x0, B_x1, B_x2, B_x3⟩, hPl⟩ := id B_t
  obtain ⟨s_t_alphabet, -⟩ := id B_t_alphabet
  obtain ⟨s_t_tape, -⟩ := id B_t_tape
  obtain ⟨s_t_reader, -⟩ := id B_t_reader
  obtain ⟨s_t_lookedAt, -⟩ := id B_t_lookedAt
  obtain ⟨s_t_spare, -⟩ := id B_t_spare
  obtain ⟨s_t_lawList, -⟩ := id B_t_lawList
  obtain ⟨s_t_otherList, -⟩ := id B_t_otherList
  obtain ⟨s_t_algebra, -⟩ := id B_t_algebra
  obtain ⟨s_t_otherAlgebra, -⟩ := id B_t_otherAlgebra
  obtain ⟨s_t_echelon, -⟩ := id B_t_echelon
  have A_t_alphabet := H.1
  obtain ⟨⟨n1, n2, hPr⟩, -⟩ := id A_t_alphabet
  obtain ⟨p1, p2, -⟩ := id hPr
  have hLB := Lg_B a.n
  have hLO : lo Bd M M := lo.rf Bd M
  obtain ⟨l6, ⟨z0, z8⟩, hl⟩ := id H.2.1
  have hB := sz_B n1 n2 (show 0 ≤ d by omega) (show d ≤ Lg a.n by omega)
  have h81 := law_len n1 n2 d2 d4
  refine ab_aload_n C dX8_addLaw_0 rfl rfl ?_
  refine gf_RX8_45 C s_t rfl dX8_addLaw_1 ?_
  refine ab_iload_n C dX8_addLaw_4 rfl rfl ?_
  refine ab_callV C cl_RX8_253 (m_X3_open B_t_lawList (by omega) (by omega)) (by decide) rfl s_t_lawList rfl rfl (Nat.le_of_ble_eq_true rfl) dX8_addLaw_5 (ab_kV (fun M_5 h_5 => ?_))
  rw [l6] at h_5
  subst h_5
  refine ab_iconst C dX8_addLaw_8 (by decide) ?_
  refine ab_istore2 (lv := []) C rfl dX8_addLaw_9 ?_
  refine ab_mem (M2 := (upA (up (up M (g + 1) a.sz d) g 2 (a.sz + 1)) (g + 2) (fun y9 => if a.sz * 81 ≤ y9 ∧ y9 < a.sz * 81 + (0 : Int) then M (v + 1) (wsm a.n d + (y9 - a.sz * 81)) else M (g + 2) y9))) (upA_id (fun j => by rw [if_neg (by omega), up_k (by omega), up_k (by omega)])) ?_
  refine ab_loop (fun x (_ : Unit) => AJ K S 10 [vP w, vI d, vI x] [] (upA (up (up M (g + 1) a.sz d) g 2 (a.sz + 1)) (g + 2) (fun y9 => if a.sz * 81 ≤ y9 ∧ y9 < a.sz * 81 + x then M (v + 1) (wsm a.n d + (y9 - a.sz * 81)) else M (g + 2) y9))) (fun x _ => 0 ≤ x) (pw a.n d) ?_ 0 () (by omega) (by omega)
  · intro x _ hx x0 ih
    have A5 : Al (upA (up (up M (g + 1) a.sz d) g 2 (a.sz + 1)) (g + 2) (fun y9 => if a.sz * 81 ≤ y9 ∧ y9 < a.sz * 81 + x then M (v + 1) (wsm a.n d + (y9 - a.sz * 81)) else M (g + 2) y9)) al a.n a.p := ((A_t_alphabet.up (by omega)).up (by omega)).upA (by omega)
    have t2 : (upA (up (up M (g + 1) a.sz d) g 2 (a.sz + 1)) (g + 2) (fun y9 => if a.sz * 81 ≤ y9 ∧ y9 < a.sz * 81 + x then M (v + 1) (wsm a.n d + (y9 - a.sz * 81)) else M (g + 2) y9)) g 2 = a.sz + 1 := by rw [upA_k (by omega), up_s]
    have t33 : (upA (up (up M (g + 1) a.sz d) g 2 (a.sz + 1)) (g + 2) (fun y9 => if a.sz * 81 ≤ y9 ∧ y9 < a.sz * 81 + x then M (v + 1) (wsm a.n d + (y9 - a.sz * 81)) else M (g + 2) y9)) (v + 1) (wsm a.n d + x) = M (v + 1) (wsm a.n d + x) := by rw [upA_k (by omega), up_k (by omega), up_k (by omega)]
    skip
    refine ab_iload_n C dX8_addLaw_10 rfl rfl ?_
    refine ab_aload_n C dX8_addLaw_11 rfl rfl ?_
    refine gf_RX8_10 C s_t rfl dX8_addLaw_12 ?_
    refine ab_iload_n C dX8_addLaw_15 rfl rfl ?_
    refine ab_callV C cl_RX8_198 (m_X1_words B_t_alphabet A5 (by omega) (by omega)) (by decide) rfl s_t_alphabet rfl rfl (Nat.le_of_ble_eq_true rfl) dX8_addLaw_16 (ab_kI (fun r_16 M_16 h_16 => ?_))
    obtain ⟨rfl, rfl⟩ := h_16
    refine ab_icmp_ge (tgt := 45) C dX8_addLaw_19 rfl (fun h_19 => ?_) (fun h_19 => ?_)
    · skip
      refine ab_aload_n C dX8_addLaw_45 rfl rfl ?_
      refine ab_iload_n C dX8_addLaw_46 rfl rfl ?_
      refine ab_callV C cl_RX8_94 (m_X8_forgetFrom B_t A5 (by omega) (by omega)) (by decide) rfl s_t rfl rfl (Nat.le_of_ble_eq_true rfl) dX8_addLaw_47 (ab_kV (fun M_47 h_47 => ?_))
      subst h_47
      refine ab_aload_n C dX8_addLaw_50 rfl rfl ?_
      refine gf_RX8_45 C s_t rfl dX8_addLaw_51 ?_
      refine ab_callV C cl_RX8_121 (m_X3_size B_t_lawList) (by decide) rfl s_t_lawList rfl rfl (Nat.le_of_ble_eq_true rfl) dX8_addLaw_54 (ab_kI (fun r_54 M_54 h_54 => ?_))
      obtain ⟨rfl, rfl⟩ := h_54
      rw [up_k (show g ≠ w by omega), up_k (show g ≠ b by omega), t2]
      refine ab_iconst C dX8_addLaw_57 (by decide) ?_
      refine ab_isub C dX8_addLaw_58 (by omega) ?_
      refine ab_iret (st := []) C r dX8_addLaw_59 ?_
      have ex : x = pw a.n d := by omega
      subst ex
      obtain ⟨M8, hM8⟩ : ∃ M8, (upA (up (up M (g + 1) a.sz d) g 2 (a.sz + 1)) (g + 2) (fun y9 => if a.sz * 81 ≤ y9 ∧ y9 < a.sz * 81 + (pw a.n d) then M (v + 1) (wsm a.n d + (y9 - a.sz * 81)) else M (g + 2) y9)) = M8 := ⟨_, rfl⟩
      rw [hM8]
      obtain ⟨M9, hM9⟩ : ∃ M9, up (up M8 b 8 (min (M8 b 8) (d - 1))) w 11 1 = M9 := ⟨_, rfl⟩
      rw [hM9]
      have e : ∀ q, q ≠ w → q ≠ b → q ≠ g → q ≠ g + 1 → q ≠ g + 2 → M9 q = M q := fun q y1 y2 y3 y4 y5 => by rw [← hM9, up_row y1, up_row y2, ← hM8, upA_row y5, up_row y3, up_row y4]
      have eg : M9 g 2 = a.sz + 1 := by rw [← hM9, up_k (by omega), up_k (by omega), ← hM8, upA_k (by omega), up_s]
      have e1 : ∀ i, M9 (g + 1) i = if i = a.sz then d else M (g + 1) i := fun i => by
        rw [← hM9, up_k (by omega), up_k (by omega), ← hM8, upA_k (by omega), up_k (by omega)]
        by_cases q : i = a.sz
        · rw [q, up_s, if_pos rfl]
        · rw [up_i q, if_neg q]
      have e2 : ∀ i, M9 (g + 2) i = if a.sz * 81 ≤ i ∧ i < a.sz * 81 + pw a.n d then M (v + 1) (wsm a.n d + (i - a.sz * 81)) else M (g + 2) i := fun i => by rw [← hM9, up_k (by omega), up_k (by omega), ← hM8, upA_s]
      have e8 : M9 b 8 = min (M b 8) (d - 1) := by rw [← hM9, up_k (by omega), up_s, ← hM8, upA_k (by omega), up_k (by omega), up_k (by omega)]
      have ew : M9 w 11 = 1 := by rw [← hM9, up_s]
      obtain ⟨k1, k2, k3, k4, k5, k6, k7⟩ := H
      refine ⟨_, rfl, fun q hq => e q (by omega) (by omega) (by omega) (by omega) (by omega), ?_, by omega⟩
      have hadd : lawsA (a.add d V) (M9 g 2) (M9 (g + 1)) (M9 (g + 2)) := by
        rw [eg]
        refine k2.add n1 n2 d2 d4 hsz (fun x y z => (hv x y z).2) (fun i y z => by rw [e1, if_neg (by omega)]) (by rw [e1, if_pos rfl]) (fun q y z => by rw [e2, if_neg (by omega)]) (fun x y z => ?_)
        rw [e2, if_pos (by omega), show a.sz * 81 + x - a.sz * 81 = x by omega]
        exact (hv x y z).1
      have hbq : ∀ q, b < q → q ≤ b + 5 → M9 q = M q := fun q y z => e q (by omega) (by omega) (by omega) (by omega) (by omega)
      have hal : AlgOK a.n a.p M9 b g := by
        refine k3.cut hbq ?_ (fun e' y z => ?_)
        · rw [e8]; have := k3.1; omega
        · rw [e8] at z
          rw [eg, l6]
          exact LwD_add z0 (show e' ≠ d by omega) (fun i y z => by rw [e1, if_neg (by omega)]) (by rw [e1, if_pos rfl]) (fun i y z x x0 x1 => by
            have hi := hl i y z
            rw [hi.1] at x1
            have := law_len n1 n2 hi.2.1.1 hi.2.1.2
            rw [e2, if_neg (by omega)])
      exact (CRel.lawsU ⟨k1, k2, k3, k4, k5, k6, k7⟩ B_t (fun q x y z => e q x y (by omega) (by omega) (by omega)) hadd hal ew).1
    · skip
      refine ab_aload_n C dX8_addLaw_22 rfl rfl ?_
      refine gf_RX8_45 C s_t rfl dX8_addLaw_23 ?_
      refine ab_iload_n C dX8_addLaw_26 rfl rfl ?_
      refine ab_aload_n C dX8_addLaw_27 rfl rfl ?_
      refine gf_RX8_39 C s_t rfl dX8_addLaw_28 ?_
      refine ab_iload_n C dX8_addLaw_31 rfl rfl ?_
      refine ab_iload_n C dX8_addLaw_32 rfl rfl ?_
      refine ab_callV C cl_RX8_197 (m_X6_numberOf B_t_spare A5 (by omega) (by omega) (by omega) (by omega) (by omega)) (by decide) rfl s_t_spare rfl rfl (Nat.le_of_ble_eq_true rfl) dX8_addLaw_33 (ab_kI (fun r_33 M_33 h_33 => ?_))
      obtain ⟨rfl, rfl⟩ := h_33
      rw [t33]
      refine ab_callV C cl_RX8_256 (m_X3_set B_t_lawList (by rw [t2]; omega) (by rw [t2]; omega) (by omega) (by omega)) (by decide) rfl s_t_lawList rfl rfl (Nat.le_of_ble_eq_true rfl) dX8_addLaw_36 (ab_kV (fun M_36 h_36 => ?_))
      rw [t2] at h_36
      subst h_36
      refine ab_iinc2 (lv := []) C rfl dX8_addLaw_39 (by omega) ?_
      refine ab_goto (tgt := 10) C dX8_addLaw_42 rfl ?_
      refine ab_mem (M2 := (upA (up (up M (g + 1) a.sz d) g 2 (a.sz + 1)) (g + 2) (fun y9 => if a.sz * 81 ≤ y9 ∧ y9 < a.sz * 81 + (x + 1) then M (v + 1) (wsm a.n d + (y9 - a.sz * 81)) else M (g + 2) y9))) ?_ (ih () (by omega) (by omega))
      rw [show (a.sz + 1 - 1) * 81 + x = a.sz * 81 + x by omega, up_upA]
      exact upA_ext (fun y => by
        by_cases q1 : y = a.sz * 81 + x
        · rw [if_pos q1, if_pos (by omega), q1, show a.sz * 81 + x - a.sz * 81 = x by omega]
        · rw [if_neg q1]
          by_cases q2 : a.sz * 81 ≤ y ∧ y < a.sz * 81 + x
          · rw [if_pos q2, if_pos (by omega)]
          · rw [if_neg q2, if_neg (by omega)])
set_option maxRecDepth 100000 in
set_option maxHeartbeats 4000000 in
theorem m_X8_law {D : va_G} {cA : Nat → ClassId} {S : List AbS} {M : AbM} {w al t rr u v g h b c k sh x0 x1 x2 x3 Bd : Nat} {a : St} (B_t : WL S w al t rr u v g h b c k sh x0 x1 x2 x3 Bd) (H : CRel a M w al t u g h b c x0 x1 x2 x3) : Meth yX8_law cX8_law 3 (some .int) rmX8_law D cA S [vP w] M (qI fun q M2 => lo Bd M M2 ∧ ∃ b9, oLaw a q b9 ∧ CRel b9 M2 w al t u g h b c x0 x1 x2 x3) := by
  refine ab_intro (lv := [vP w, vU, vU]) (by decide +kernel) rfl (Nat.le_of_ble_eq_true rfl) ?_
  intro hO hargs K hKD hKA C r
  have C : Cx K cX8_law RX8 rmX8_law := C
  obtain ⟨⟨s_t, B_t_alphabet, B_t_tape, B_t_reader, B_t_lookedAt, B_t_spare, B_t_lawList, B_t_otherList, B_t_algebra, B_t_otherAlgebra, B_t_echelon, s_t_sheets, B_x0, B_x1, B_x2, B_x3⟩, hPl⟩ := id B_t
  obtain ⟨s_t_alphabet, -⟩ := id B_t_alphabet
  obtain ⟨s_t_tape, -⟩ := id B_t_tape
  obtain ⟨s_t_reader, -⟩ := id B_t_reader
  obtain ⟨s_t_lookedAt, -⟩ := id B_t_lookedAt
  obtain ⟨s_t_spare, -⟩ := id B_t_spare
  obtain ⟨s_t_lawList, -⟩ := id B_t_lawList
  obtain ⟨s_t_otherList, -⟩ := id B_t_otherList
  obtain ⟨s_t_algebra, -⟩ := id B_t_algebra
  obtain ⟨s_t_otherAlgebra, -⟩ := id B_t_otherAlgebra
  obtain ⟨s_t_echelon, -⟩ := id B_t_echelon
  have A_t_alphabet := H.1
  obtain ⟨⟨n1, n2, hPr⟩, -⟩ := id A_t_alphabet
  obtain ⟨p1, p2, -⟩ := id hPr
  have hLB := Lg_B a.n
  have hLO : lo Bd M M := lo.rf Bd M
  refine ab_aload_n C dX8_law_0 rfl rfl ?_
  refine ab_callV C cl_RX8_112 (m_X8_readTape B_t H) (by decide) rfl s_t rfl rfl (Nat.le_of_ble_eq_true rfl) dX8_law_1 (ab_kI (fun r_1 M_1 h_1 => ?_))
  obtain ⟨hl1, H1, hq1, hv1⟩ := h_1
  refine ab_istore1 (lv := []) C rfl dX8_law_4 ?_
  refine ab_iload_n C dX8_law_5 rfl rfl ?_
  skip
  refine ab_if_eq (tgt := 11) C dX8_law_6 rfl (fun h_6 => ?_) (fun h_6 => ?_)
  · skip
    have hv2 := hv1 h_6
    have hr0 : (rdE a).1 = 0 := by rw [← hq1]; exact h_6
    refine ab_aload_n C dX8_law_11 rfl rfl ?_
    refine gf_RX8_39 C s_t rfl dX8_law_12 ?_
    refine ab_callV C cl_RX8_115 (m_X6_onlyLength B_t_spare H1.1 (by omega)) (by decide) rfl s_t_spare rfl rfl (Nat.le_of_ble_eq_true rfl) dX8_law_15 (ab_kI (fun r_15 M_15 h_15 => ?_))
    obtain ⟨rfl, hO1⟩ := h_15
    refine ab_istore2 (lv := []) C rfl dX8_law_18 ?_
    refine ab_iload_n C dX8_law_19 rfl rfl ?_
    refine ab_callS C cl_RX8_118 (m_X8_isLawLength) (by decide) rfl rfl (Nat.le_of_ble_eq_true rfl) dX8_law_20 (ab_kI (fun r_20 M_20 h_20 => ?_))
    obtain ⟨rfl, rfl⟩ := h_20
    refine ab_if_ne (tgt := 29) C dX8_law_23 rfl (fun h_23 => ?_) (fun h_23 => ?_)
    · skip
      have hd := b01_ne h_23
      refine ab_aload_n C dX8_law_29 rfl rfl ?_
      refine gf_RX8_45 C s_t rfl dX8_law_30 ?_
      refine ab_callV C cl_RX8_121 (m_X3_size B_t_lawList) (by decide) rfl s_t_lawList rfl rfl (Nat.le_of_ble_eq_true rfl) dX8_law_33 (ab_kI (fun r_33 M_33 h_33 => ?_))
      obtain ⟨rfl, rfl⟩ := h_33
      rw [H1.2.1.1]
      refine ab_bipush C dX8_law_36 (by decide) (by decide +kernel) ?_
      refine ab_icmp_lt (tgt := 44) C dX8_law_38 rfl (fun h_38 => ?_) (fun h_38 => ?_)
      · skip
        refine ab_aload_n C dX8_law_44 rfl rfl ?_
        refine ab_iload_n C dX8_law_45 rfl rfl ?_
        refine ab_callV C cl_RX8_122 (m_X8_addLaw (a := a.cl) (V := (rdE a).2) B_t H1 hd.1 hd.2 (show a.sz < 8 by omega) (fun x y z => by
          have z : x < pw a.n r_15 := z
          have hB := sz_B n1 n2 (show 0 ≤ r_15 by omega) (show r_15 ≤ Lg a.n by omega)
          exact ⟨hv2 (wsm a.n r_15 + x) (by omega) (by omega), rd_rng p1 _⟩)) (by decide) rfl s_t rfl rfl (Nat.le_of_ble_eq_true rfl) dX8_law_46 (ab_kI (fun r_46 M_46 h_46 => ?_))
        obtain ⟨hl2, H2, hq2⟩ := h_46
        refine ab_iret (st := []) C r dX8_law_49 ?_
        rcases hO1 with ⟨u1, u2, u3⟩ | ⟨u1, u2⟩
        · exact ⟨_, rfl, hl1.tr hl2, _, Or.inr (Or.inl ⟨hr0, r_15, ⟨hd.1, hd.2, OnlyD_cg n1 n2 hv2 u3⟩, Or.inr ⟨h_38, hq2, rfl⟩⟩), H2⟩
        · exfalso; omega
      · skip
        refine ab_bipush C dX8_law_41 (by decide) (by decide +kernel) ?_
        refine ab_iret (st := []) C r dX8_law_43 ?_
        rcases hO1 with ⟨u1, u2, u3⟩ | ⟨u1, u2⟩
        · exact ⟨_, rfl, hl1, a.cl, Or.inr (Or.inl ⟨hr0, r_15, ⟨hd.1, hd.2, OnlyD_cg n1 n2 hv2 u3⟩, Or.inl ⟨by have := H.2.1.2.1; show a.sz = 8; have h9 : 8 ≤ a.sz := h_38; omega, rfl, rfl⟩⟩), H1⟩
        · exfalso; omega
    · skip
      have hd := b01_eq h_23
      refine ab_bipush C dX8_law_26 (by decide) (by decide +kernel) ?_
      refine ab_iret (st := []) C r dX8_law_28 ?_
      refine ⟨_, rfl, hl1, a.cl, Or.inr (Or.inr ⟨hr0, fun d x y z => ?_, rfl, rfl⟩), H1⟩
      have z2 : OnlyD a.n (M_1 (v + 1)) d := OnlyD_cg n1 n2 (fun j u1 u2 => (hv2 j u1 u2).symm) z
      rcases hO1 with ⟨u1, u2, u3⟩ | ⟨u1, u2⟩
      · have : d = r_15 := (u3 d (by omega) (show d ≤ Lg a.n by omega)).mp ((z2 d (by omega) (by omega)).mpr rfl)
        omega
      · exact u2 d (by omega) (show d ≤ Lg a.n by omega) z2
  · skip
    refine ab_iload_n C dX8_law_9 rfl rfl ?_
    refine ab_iret (st := []) C r dX8_law_10 ?_
    exact ⟨_, rfl, hl1, a.cl, Or.inl ⟨by rw [← hq1]; exact h_6, hq1, rfl⟩, H1⟩
set_option maxRecDepth 100000 in
set_option maxHeartbeats 4000000 in
theorem m_X8_sum {D : va_G} {cA : Nat → ClassId} {S : List AbS} {M : AbM} {w al t rr u v g h b c k sh x0 x1 x2 x3 Bd : Nat} {a : St} (B_t : WL S w al t rr u v g h b c k sh x0 x1 x2 x3 Bd) (H : CRel a M w al t u g h b c x0 x1 x2 x3) : Meth yX8_sum cX8_sum 2 (some .int) rmX8_sum D cA S [vP w] M (qI fun q M2 => lo Bd M M2 ∧ ∃ b9, oSum a q b9 ∧ CRel b9 M2 w al t u g h b c x0 x1 x2 x3) := by
  refine ab_intro (lv := [vP w, vU]) (by decide +kernel) rfl (Nat.le_of_ble_eq_true rfl) ?_
  intro hO hargs K hKD hKA C r
  have C : Cx K cX8_sum RX8 rmX8_sum := C
  obtain ⟨⟨s_t, B_t_alphabet, B_t_tape, B_t_reader, B_t_lookedAt, B_t_spare, B_t_lawList, B_t_otherList, B_t_algebra, B_t_otherAlgebra, B_t_echelon, s_t_sheets, B_x0, B_x1, B_x2, B_x3⟩, hPl⟩ := id B_t
  obtain ⟨s_t_alphabet, -⟩ := id B_t_alphabet
  obtain ⟨s_t_tape, -⟩ := id B_t_tape
  obtain ⟨s_t_reader, -⟩ := id B_t_reader
  obtain ⟨s_t_lookedAt, -⟩ := id B_t_lookedAt
  obtain ⟨s_t_spare, -⟩ := id B_t_spare
  obtain ⟨s_t_lawList, -⟩ := id B_t_lawList
  obtain ⟨s_t_otherList, -⟩ := id B_t_otherList
  obtain ⟨s_t_algebra, -⟩ := id B_t_algebra
  obtain ⟨s_t_otherAlgebra, -⟩ := id B_t_otherAlgebra
  obtain ⟨s_t_echelon, -⟩ := id B_t_echelon
  have A_t_alphabet := H.1
  obtain ⟨⟨n1, n2, hPr⟩, -⟩ := id A_t_alphabet
  obtain ⟨p1, p2, -⟩ := id hPr
  have hLB := Lg_B a.n
  have hLO : lo Bd M M := lo.rf Bd M
  refine ab_aload_n C dX8_sum_0 rfl rfl ?_
  refine ab_callV C cl_RX8_112 (m_X8_readTape B_t H) (by decide) rfl s_t rfl rfl (Nat.le_of_ble_eq_true rfl) dX8_sum_1 (ab_kI (fun r_1 M_1 h_1 => ?_))
  obtain ⟨hl1, H1, hq1, hv1⟩ := h_1
  refine ab_istore1 (lv := []) C rfl dX8_sum_4 ?_
  refine ab_iload_n C dX8_sum_5 rfl rfl ?_
  refine ab_if_eq (tgt := 11) C dX8_sum_6 rfl (fun h_6 => ?_) (fun h_6 => ?_)
  · skip
    have hv2 := hv1 h_6
    have hr0 : (rdE a).1 = 0 := by rw [← hq1]; exact h_6
    refine ab_aload_n C dX8_sum_11 rfl rfl ?_
    refine gf_RX8_35 C s_t rfl dX8_sum_12 ?_
    refine ab_aload_n C dX8_sum_15 rfl rfl ?_
    refine gf_RX8_39 C s_t rfl dX8_sum_16 ?_
    refine ab_callV C cl_RX8_193 (m_X6_copy B_t_lookedAt B_t_spare) (by decide) rfl s_t_lookedAt rfl rfl (Nat.le_of_ble_eq_true rfl) dX8_sum_19 (ab_kV (fun M_19 h_19 => ?_))
    subst h_19
    refine ab_aload_n C dX8_sum_22 rfl rfl ?_
    refine gf_RX8_35 C s_t rfl dX8_sum_23 ?_
    refine ab_callV C cl_RX8_149 (m_X6_terms B_t_lookedAt) (by decide) rfl s_t_lookedAt rfl rfl (Nat.le_of_ble_eq_true rfl) dX8_sum_26 (ab_kI (fun r_26 M_26 h_26 => ?_))
    obtain ⟨rfl, rfl⟩ := h_26
    refine ab_iret (st := []) C r dX8_sum_29 ?_
    obtain ⟨M9, hM9⟩ : ∃ M9, upA M_1 (u + 1) (fun j => if 0 ≤ j ∧ j < 364 then M_1 (v + 1) j else M_1 (u + 1) j) = M9 := ⟨_, rfl⟩
    rw [hM9]
    have hrow : ∀ j, 0 ≤ j → j < 364 → M9 (u + 1) j = (rdE a).2 j := fun j x y => by rw [← hM9, upA_s, if_pos ⟨x, y⟩]; exact hv2 j x y
    have e : ∀ q, q ≠ u + 1 → M9 q = M_1 q := fun q x => by rw [← hM9]; exact upA_row x
    refine ⟨_, rfl, hl1.tr (fun q hq => e q (by omega)), a.cl.setS (rdE a).2, Or.inr ⟨hr0, cntF_congr (fun j x y => by rw [hrow j x y]), rfl⟩, ?_⟩
    exact (CRel.sumU (s := (rdE a).2) H1 B_t (fun q x => e q (by omega)) ⟨fun j x y => ⟨hrow j x y, rd_rng p1 j⟩, fun j x y => by
      show (rdE a).2 j = 0
      unfold rdE
      exact end_row n1 n2 _ j x y⟩).1
  · skip
    refine ab_iload_n C dX8_sum_9 rfl rfl ?_
    refine ab_iret (st := []) C r dX8_sum_10 ?_
    exact ⟨_, rfl, hl1, a.cl, Or.inl ⟨by rw [← hq1]; exact h_6, hq1, rfl⟩, H1⟩
set_option maxRecDepth 100000 in
set_option maxHeartbeats 4000000 in
theorem m_X8_unlaw {D : va_G} {cA : Nat → ClassId} {S : List AbS} {M : AbM} {w al t rr u v g h b c k sh x0 x1 x2 x3 Bd : Nat} {a : St} (B_t : WL S w al t rr u v g h b c k sh x0 x1 x2 x3 Bd) (H : CRel a M w al t u g h b c x0 x1 x2 x3) : Meth yX8_unlaw cX8_unlaw 3 (some .int) rmX8_unlaw D cA S [vP w] M (qI fun q M2 => lo Bd M M2 ∧ ∃ b9, oUnlaw a q b9 ∧ CRel b9 M2 w al t u g h b c x0 x1 x2 x3) := by
  refine ab_intro (lv := [vP w, vU, vU]) (by decide +kernel) rfl (Nat.le_of_ble_eq_true rfl) ?_
  intro hO hargs K hKD hKA C r
  have C : Cx K cX8_unlaw RX8 rmX8_unlaw := C
  obtain ⟨⟨s_t, B_t_alphabet, B_t_tape, B_t_reader, B_t_lookedAt, B_t_spare, B_t_lawList, B_t_otherList, B_t_algebra, B_t_otherAlgebra, B_t_echelon, s_t_sheets, B_x0, B_x1, B_x2, B_x3⟩, hPl⟩ := id B_t
  obtain ⟨s_t_alphabet, -⟩ := id B_t_alphabet
  obtain ⟨s_t_tape, -⟩ := id B_t_tape
  obtain ⟨s_t_reader, -⟩ := id B_t_reader
  obtain ⟨s_t_lookedAt, -⟩ := id B_t_lookedAt
  obtain ⟨s_t_spare, -⟩ := id B_t_spare
  obtain ⟨s_t_lawList, -⟩ := id B_t_lawList
  obtain ⟨s_t_otherList, -⟩ := id B_t_otherList
  obtain ⟨s_t_algebra, -⟩ := id B_t_algebra
  obtain ⟨s_t_otherAlgebra, -⟩ := id B_t_otherAlgebra
  obtain ⟨s_t_echelon, -⟩ := id B_t_echelon
  have A_t_alphabet := H.1
  obtain ⟨⟨n1, n2, hPr⟩, -⟩ := id A_t_alphabet
  obtain ⟨p1, p2, -⟩ := id hPr
  have hLB := Lg_B a.n
  have hLO : lo Bd M M := lo.rf Bd M
  obtain ⟨l6, ⟨z0, z8⟩, hl⟩ := id H.2.1
  refine ab_aload_n C dX8_unlaw_0 rfl rfl ?_
  refine gf_RX8_45 C s_t rfl dX8_unlaw_1 ?_
  refine ab_callV C cl_RX8_121 (m_X3_size B_t_lawList) (by decide) rfl s_t_lawList rfl rfl (Nat.le_of_ble_eq_true rfl) dX8_unlaw_4 (ab_kI (fun r_4 M_4 h_4 => ?_))
  obtain ⟨rfl, rfl⟩ := h_4
  rw [l6]
  refine ab_iconst C dX8_unlaw_7 (by decide) ?_
  refine ab_isub C dX8_unlaw_8 (by omega) ?_
  refine ab_istore1 (lv := []) C rfl dX8_unlaw_9 ?_
  refine ab_iload_n C dX8_unlaw_10 rfl rfl ?_
  refine ab_if_ge (tgt := 17) C dX8_unlaw_11 rfl (fun h_11 => ?_) (fun h_11 => ?_)
  · skip
    have hll := hl (a.sz - 1) (by omega) (by omega)
    have hl2 := hll.2.1
    refine ab_aload_n C dX8_unlaw_17 rfl rfl ?_
    refine gf_RX8_45 C s_t rfl dX8_unlaw_18 ?_
    refine ab_iload_n C dX8_unlaw_21 rfl rfl ?_
    refine ab_callV C cl_RX8_126 (m_X3_lengthOf B_t_lawList (by omega) (by omega)) (by decide) rfl s_t_lawList rfl rfl (Nat.le_of_ble_eq_true rfl) dX8_unlaw_22 (ab_kI (fun r_22 M_22 h_22 => ?_))
    obtain ⟨rfl, rfl⟩ := h_22
    rw [hll.1]
    refine ab_istore2 (lv := []) C rfl dX8_unlaw_25 ?_
    refine ab_aload_n C dX8_unlaw_26 rfl rfl ?_
    refine gf_RX8_45 C s_t rfl dX8_unlaw_27 ?_
    refine ab_callV C cl_RX8_129 (m_X3_removeLatest B_t_lawList (by omega)) (by decide) rfl s_t_lawList rfl rfl (Nat.le_of_ble_eq_true rfl) dX8_unlaw_30 (ab_kV (fun M_30 h_30 => ?_))
    rw [l6] at h_30
    subst h_30
    refine ab_aload_n C dX8_unlaw_33 rfl rfl ?_
    refine ab_iload_n C dX8_unlaw_34 rfl rfl ?_
    refine ab_callV C cl_RX8_94 (m_X8_forgetFrom B_t (A_t_alphabet.up (by omega)) (by omega) (by omega)) (by decide) rfl s_t rfl rfl (Nat.le_of_ble_eq_true rfl) dX8_unlaw_35 (ab_kV (fun M_35 h_35 => ?_))
    subst h_35
    refine ab_iload_n C dX8_unlaw_38 rfl rfl ?_
    refine ab_iret (st := []) C r dX8_unlaw_39 ?_
    obtain ⟨M9, hM9⟩ : ∃ M9, up (up (up M g 2 (a.sz - 1)) b 8 (min (up M g 2 (a.sz - 1) b 8) (a.len (a.sz - 1) - 1))) w 11 1 = M9 := ⟨_, rfl⟩
    rw [hM9]
    have e : ∀ q, q ≠ w → q ≠ b → q ≠ g → M9 q = M q := fun q y1 y2 y3 => by rw [← hM9, up_row y1, up_row y2, up_row y3]
    have eg : M9 g 2 = a.sz - 1 := by rw [← hM9, up_k (by omega), up_k (by omega), up_s]
    have e8 : M9 b 8 = min (M b 8) (a.len (a.sz - 1) - 1) := by rw [← hM9, up_k (by omega), up_s, up_k (by omega)]
    have ew : M9 w 11 = 1 := by rw [← hM9, up_s]
    obtain ⟨k1, k2, k3, k4, k5, k6, k7⟩ := H
    refine ⟨_, rfl, fun q hq => e q (by omega) (by omega) (by omega), a.rem, Or.inr ⟨by omega, rfl, rfl⟩, ?_⟩
    have hal : AlgOK a.n a.p M9 b g := by
      refine k3.cut (fun q y z => e q (by omega) (by omega) (by omega)) ?_ (fun e' y z => ?_)
      · rw [e8]; have := k3.1; omega
      · rw [e8] at z
        rw [eg, e (g + 1) (by omega) (by omega) (by omega), e (g + 2) (by omega) (by omega) (by omega), l6]
        exact LwD_rem (by omega) (by rw [hll.1]; omega)
    exact (CRel.lawsU ⟨k1, k2, k3, k4, k5, k6, k7⟩ B_t (fun q x y z => e q x y (by omega)) (by rw [eg, e (g + 1) (by omega) (by omega) (by omega), e (g + 2) (by omega) (by omega) (by omega)]; exact k2.rem (by omega)) hal ew).1
  · skip
    refine ab_bipush C dX8_unlaw_14 (by decide) (by decide +kernel) ?_
    refine ab_iret (st := []) C r dX8_unlaw_16 ?_
    exact ⟨_, rfl, hLO, a, Or.inl ⟨by omega, rfl, rfl⟩, H⟩
set_option maxRecDepth 100000 in
set_option maxHeartbeats 4000000 in
theorem m_X8_begin {D : va_G} {cA : Nat → ClassId} {S : List AbS} {M : AbM} {w al t rr u v g h b c k sh x0 x1 x2 x3 Bd : Nat} {a : St} (B_t : WL S w al t rr u v g h b c k sh x0 x1 x2 x3 Bd) (H : CRel a M w al t u g h b c x0 x1 x2 x3) {x y : Int} : Meth yX8_begin cX8_begin 3 (some .int) rmX8_begin D cA S [vP w, vI x, vI y] M (qI fun q M2 => lo Bd M M2 ∧ ∃ b9, oBegin a x y q b9 ∧ CRel b9 M2 w al t u g h b c x0 x1 x2 x3) := by
  refine ab_intro (lv := [vP w, vI x, vI y]) (by decide +kernel) rfl (Nat.le_of_ble_eq_true rfl) ?_
  intro hO hargs K hKD hKA C r
  have C : Cx K cX8_begin RX8 rmX8_begin := C
  have i_x : inI x := hargs _ (List.mem_cons_of_mem _ (List.mem_cons_self))
  have i_y : inI y := hargs _ (List.mem_cons_of_mem _ (List.mem_cons_of_mem _ (List.mem_cons_self)))
  obtain ⟨⟨s_t, B_t_alphabet, B_t_tape, B_t_reader, B_t_lookedAt, B_t_spare, B_t_lawList, B_t_otherList, B_t_algebra, B_t_otherAlgebra, B_t_echelon, s_t_sheets, B_x0, B_x1, B_x2, B_x3⟩, hPl⟩ := id B_t
  obtain ⟨s_t_alphabet, -⟩ := id B_t_alphabet
  obtain ⟨s_t_tape, -⟩ := id B_t_tape
  obtain ⟨s_t_reader, -⟩ := id B_t_reader
  obtain ⟨s_t_lookedAt, -⟩ := id B_t_lookedAt
  obtain ⟨s_t_spare, -⟩ := id B_t_spare
  obtain ⟨s_t_lawList, -⟩ := id B_t_lawList
  obtain ⟨s_t_otherList, -⟩ := id B_t_otherList
  obtain ⟨s_t_algebra, -⟩ := id B_t_algebra
  obtain ⟨s_t_otherAlgebra, -⟩ := id B_t_otherAlgebra
  obtain ⟨s_t_echelon, -⟩ := id B_t_echelon
  have A_t_alphabet := H.1
  obtain ⟨⟨n1, n2, hPr⟩, -⟩ := id A_t_alphabet
  obtain ⟨p1, p2, -⟩ := id hPr
  have hLB := Lg_B a.n
  have hLO : lo Bd M M := lo.rf Bd M
  refine ab_iload_n C dX8_begin_0 rfl rfl ?_
  refine ab_iconst C dX8_begin_1 (by decide) ?_
  refine ab_icmp_lt (tgt := 17) C dX8_begin_2 rfl (fun h_2 => ?_) (fun h_2 => ?_)
  · skip
    refine ab_iconst C dX8_begin_17 (by decide) ?_
    refine ab_iret (st := []) C r dX8_begin_18 ?_
    refine ⟨_, rfl, hLO, a, Or.inr ⟨fun z => ?_, rfl, rfl⟩, H⟩
    first
    | (have := z.1; omega)
    | (have := z.2.1; omega)
    | exact hpr.mpr z.2.2 h_14
  · skip
    refine ab_iload_n C dX8_begin_5 rfl rfl ?_
    refine ab_iconst C dX8_begin_6 (by decide) ?_
    refine ab_icmp_gt (tgt := 17) C dX8_begin_7 rfl (fun h_7 => ?_) (fun h_7 => ?_)
    · skip
      refine ab_iconst C dX8_begin_17 (by decide) ?_
      refine ab_iret (st := []) C r dX8_begin_18 ?_
      refine ⟨_, rfl, hLO, a, Or.inr ⟨fun z => ?_, rfl, rfl⟩, H⟩
      first
      | (have := z.1; omega)
      | (have := z.2.1; omega)
      | exact hpr.mpr z.2.2 h_14
    · skip
      refine ab_iload_n C dX8_begin_10 rfl rfl ?_
      refine ab_callS C cl_RX8_82 (m_X8_isPrime) (by decide) rfl rfl (Nat.le_of_ble_eq_true rfl) dX8_begin_11 (ab_kI (fun r_11 M_11 h_11 => ?_))
      obtain ⟨rfl, h01, hpr⟩ := h_11
      skip
      refine ab_if_ne (tgt := 19) C dX8_begin_14 rfl (fun h_14 => ?_) (fun h_14 => ?_)
      · skip
        refine ab_aload_n C dX8_begin_19 rfl rfl ?_
        refine gf_RX8_10 C s_t rfl dX8_begin_20 ?_
        refine ab_iload_n C dX8_begin_23 rfl rfl ?_
        refine ab_iload_n C dX8_begin_24 rfl rfl ?_
        refine ab_callV C cl_RX8_86 (m_X1_choose B_t_alphabet (by omega) (by omega) (hpr.mp h_14)) (by decide) rfl s_t_alphabet rfl rfl (Nat.le_of_ble_eq_true rfl) dX8_begin_25 (ab_kV (fun M_25 h_25 => ?_))
        obtain ⟨hA2, hs2⟩ := h_25
        refine ab_aload_n C dX8_begin_28 rfl rfl ?_
        refine gf_RX8_45 C s_t rfl dX8_begin_29 ?_
        refine ab_callV C cl_RX8_90 (m_X3_clear B_t_lawList) (by decide) rfl s_t_lawList rfl rfl (Nat.le_of_ble_eq_true rfl) dX8_begin_32 (ab_kV (fun M_32 h_32 => ?_))
        subst h_32
        refine ab_aload_n C dX8_begin_35 rfl rfl ?_
        refine gf_RX8_35 C s_t rfl dX8_begin_36 ?_
        refine ab_callV C cl_RX8_93 (m_X6_clear B_t_lookedAt) (by decide) rfl s_t_lookedAt rfl rfl (Nat.le_of_ble_eq_true rfl) dX8_begin_39 (ab_kV (fun M_39 h_39 => ?_))
        subst h_39
        refine ab_aload_n C dX8_begin_42 rfl rfl ?_
        refine ab_iconst C dX8_begin_43 (by decide) ?_
        refine ab_callV C cl_RX8_94 (m_X8_forgetFrom (n := x) (p := y) B_t ((hA2.up (by omega)).upA (by omega)) (by omega) (by omega)) (by decide) rfl s_t rfl rfl (Nat.le_of_ble_eq_true rfl) dX8_begin_44 (ab_kV (fun M_44 h_44 => ?_))
        subst h_44
        refine ab_aload_n C dX8_begin_47 rfl rfl ?_
        refine gf_RX8_10 C s_t rfl dX8_begin_48 ?_
        refine ab_callV C cl_RX8_98 (m_X1_longest (n := x) (p := y) B_t_alphabet ((((hA2.up (by omega)).upA (by omega)).up (by omega)).up (by omega))) (by decide) rfl s_t_alphabet rfl rfl (Nat.le_of_ble_eq_true rfl) dX8_begin_51 (ab_kI (fun r_51 M_51 h_51 => ?_))
        obtain ⟨rfl, rfl⟩ := h_51
        refine ab_iret (st := []) C r dX8_begin_54 ?_
        obtain ⟨M9, hM9⟩ : ∃ M9, up (up (upA (up M_25 g 2 0) (u + 1) (fun j => if 0 ≤ j ∧ j < 364 then 0 else up M_25 g 2 0 (u + 1) j)) b 8 (min (upA (up M_25 g 2 0) (u + 1) (fun j => if 0 ≤ j ∧ j < 364 then 0 else up M_25 g 2 0 (u + 1) j) b 8) (0 - 1))) w 11 1 = M9 := ⟨_, rfl⟩
        rw [hM9]
        have e : ∀ q, q ≠ w → q ≠ b → q ≠ g → q ≠ u + 1 → (q < al ∨ al + 3 < q) → M9 q = M q := fun q y1 y2 y3 y4 y5 => by rw [← hM9, up_row y1, up_row y2, upA_row y4, up_row y3]; exact hs2 q (by simp; omega)
        have eg : M9 g 2 = 0 := by rw [← hM9, up_k (by omega), up_k (by omega), upA_k (by omega), up_s]
        have e8 : M9 b 8 = min (M b 8) (0 - 1) := by
          rw [← hM9, up_k (by omega), up_s, upA_k (by omega), up_k (by omega), hs2 b (by simp; omega)]
        have ew : M9 w 11 = 1 := by rw [← hM9, up_s]
        have eu : ∀ j, 0 ≤ j → j < 364 → M9 (u + 1) j = 0 := fun j z1 z2 => by rw [← hM9, up_k (by omega), up_k (by omega), upA_s, if_pos ⟨z1, z2⟩]
        have eA : Al M9 al x y := by rw [← hM9]; exact (((hA2.up (by omega)).upA (by omega)).up (by omega)).up (by omega)
        have h8 : M9 b 8 = -1 := by rw [e8]; have := H.2.2.1.1; omega
        obtain ⟨hC9, hl9⟩ := CRel.begU H B_t e eA eg h8 ew eu
        exact ⟨_, rfl, hl9, a.beg x y, Or.inl ⟨⟨by omega, by omega, hpr.mp h_14⟩, rfl, rfl⟩, hC9⟩
      · skip
        refine ab_iconst C dX8_begin_17 (by decide) ?_
        refine ab_iret (st := []) C r dX8_begin_18 ?_
        refine ⟨_, rfl, hLO, a, Or.inr ⟨fun z => ?_, rfl, rfl⟩, H⟩
        first
        | (have := z.1; omega)
        | (have := z.2.1; omega)
        | exact hpr.mpr z.2.2 h_14
