set_option maxRecDepth 100000 in
set_option maxHeartbeats 4000000 in
theorem m_X0_addEquation {D : va_G} {cA : Nat → ClassId} {S : List AbS} {M : AbM} {b a g : Nat} {n p : Int} (B_t : shAg S b a g) (A_t_alphabet : Al M a n p) (hba : a + 3 < b) (hbg : g + 2 < b) {c : Nat} (B_e : shEc S c a) (hc : b + 6 < c) {d x t : Int} (h0 : 0 ≤ d) (h1 : d + 1 ≤ Lg n) (x0 : 0 ≤ x) (x1 : x < n) (t0 : 0 ≤ t) (t1 : t < pw n (d + 1)) (hW0 : WF n p d (pw n d) (M (b + 1)) (M (b + 2))) (hW1 : WF n p (d + 1) (pw n (d + 1)) (M (b + 1)) (M (b + 2))) (hm : M c 4 = (nmC n d (M (b + 2)))) (hE : rngE p (M c 4) (M (c + 1)) (M (c + 2))) (hrk : M c 5 < 1000) : Meth yX0_addEquation cX0_addEquation 9 none rmX0_addEquation D cA S [vP b, vI d, vI x, vI t, vP c] M (qV fun M2 => same [c, c + 1, c + 2, c + 3] M M2 ∧ M2 c 4 = M c 4 ∧ rngE p (M c 4) (M2 (c + 1)) (M2 (c + 2)) ∧ (M2 (c + 1), M2 (c + 2), M2 c 5) = if ldq n (d + 1) (M (b + 2)) t = 0 then stepE p (nmC n d (M (b + 2))) (M (c + 1), M (c + 2), M c 5) (eqV n p d (M (b + 1)) (M (b + 2)) x t) else (M (c + 1), M (c + 2), M c 5)) := by
  refine ab_intro (lv := [vP b, vI d, vI x, vI t, vP c, vU, vU, vU, vU]) (by decide +kernel) rfl (Nat.le_of_ble_eq_true rfl) ?_
  intro hO hargs K hKD hKA C r
  have C : Cx K cX0_addEquation RX0 rmX0_addEquation := C
  have i_d : inI d := hargs _ (List.mem_cons_of_mem _ (List.mem_cons_self))
  have i_x : inI x := hargs _ (List.mem_cons_of_mem _ (List.mem_cons_of_mem _ (List.mem_cons_self)))
  have i_t : inI t := hargs _ (List.mem_cons_of_mem _ (List.mem_cons_of_mem _ (List.mem_cons_of_mem _ (List.mem_cons_self))))
  obtain ⟨s_t, s_t_forms, s_t_leading, s_t_normals, s_t_leasts, s_t_middles, s_t_form, B_t_alphabet, B_t_lawList⟩ := id B_t
  obtain ⟨s_t_alphabet, -⟩ := id B_t_alphabet
  obtain ⟨s_t_lawList, -⟩ := id B_t_lawList
  obtain ⟨⟨n1, n2, hPr⟩, -⟩ := id A_t_alphabet
  obtain ⟨p1, p2, -⟩ := id hPr
  have hLB := Lg_B n
  have hB := sz_B n1 n2 (show 0 ≤ d + 1 by omega) h1
  have hB0 := sz_B n1 n2 h0 (show d ≤ Lg n by omega)
  obtain ⟨s_e, s_e_rows, s_e_taken, s_e_equation, -⟩ := id B_e
  have mB := nm_B (Z := M (b + 2)) n1 n2 h0 h1
  have hpP := pw_s (n := n) h0
  have A0 := A_t_alphabet
  have hS1 := hW1.sys p1
  refine ab_aload_n C dX0_addEquation_0 rfl rfl ?_
  refine gf_RX0_16 C s_t rfl dX0_addEquation_1 ?_
  refine ab_aload_n C dX0_addEquation_4 rfl rfl ?_
  refine gf_RX0_36 C s_t rfl dX0_addEquation_5 ?_
  refine ab_iload_n C dX0_addEquation_8 rfl rfl ?_
  refine ab_iconst C dX0_addEquation_9 (by decide) ?_
  refine ab_iadd C dX0_addEquation_10 (by omega) ?_
  refine ab_iload_n C dX0_addEquation_11 rfl rfl ?_
  refine ab_callV C cl_RX0_54 (m_X1_placeOf B_t_alphabet A_t_alphabet (by omega) (by omega) (by omega) (by omega)) (by decide) rfl s_t_alphabet rfl rfl (Nat.le_of_ble_eq_true rfl) dX0_addEquation_12 (ab_kI (fun r_12 M_12 h_12 => ?_))
  obtain ⟨rfl, rfl⟩ := h_12
  refine ab_baload C s_t_leading (by omega) (by omega) dX0_addEquation_15 ?_
  refine ab_if_eq (tgt := 20) C dX0_addEquation_16 rfl (fun h_16 => ?_) (fun h_16 => ?_)
  · skip
    have ht : ldq n (d + 1) (M (b + 2)) t = 0 := h_16
    refine ab_iconst C dX0_addEquation_20 (by decide) ?_
    refine ab_istore5 (lv := []) C rfl dX0_addEquation_21 ?_
    refine ab_iconst C dX0_addEquation_23 (by decide) ?_
    refine ab_istore6 (lv := []) C rfl dX0_addEquation_24 ?_
    refine ab_mem (M2 := upA M (c + 3) (fun j => if 0 ≤ j ∧ j < cntF (nlF n d (M (b + 2))) 0 then eqV n p d (M (b + 1)) (M (b + 2)) x t j else M (c + 3) j)) (upA_id (fun j => if_neg (by rw [cntF_0]; omega))) ?_
    refine ab_loop (fun w (y : AbV × AbV) => AJ K S 26 [vP b, vI d, vI x, vI t, vP c, vI (cntF (nlF n d (M (b + 2))) w), vI w, y.1, y.2] [] (upA M (c + 3) (fun j => if 0 ≤ j ∧ j < cntF (nlF n d (M (b + 2))) w then eqV n p d (M (b + 1)) (M (b + 2)) x t j else M (c + 3) j))) (fun w y => 0 ≤ w ∧ ab_cat y.1 = 1) (pw n d) ?_ 0 (vU, vU) (by omega) ⟨by omega, rfl⟩
    · intro w y hw hI ih
      obtain ⟨y1, y2⟩ := y
      obtain ⟨w0, hy1⟩ := hI
      dsimp only at hy1 ih ⊢
      have A_t_alphabet := A0.upA (k := c + 3) (f := (fun j => if 0 ≤ j ∧ j < cntF (nlF n d (M (b + 2))) w then eqV n p d (M (b + 1)) (M (b + 2)) x t j else M (c + 3) j)) (by omega)
      have r1 : upA M (c + 3) (fun j => if 0 ≤ j ∧ j < cntF (nlF n d (M (b + 2))) w then eqV n p d (M (b + 1)) (M (b + 2)) x t j else M (c + 3) j) (b + 1) = M (b + 1) := upA_row (by omega)
      have r2 : upA M (c + 3) (fun j => if 0 ≤ j ∧ j < cntF (nlF n d (M (b + 2))) w then eqV n p d (M (b + 1)) (M (b + 2)) x t j else M (c + 3) j) (b + 2) = M (b + 2) := upA_row (by omega)
      have r4 : upA M (c + 3) (fun j => if 0 ≤ j ∧ j < cntF (nlF n d (M (b + 2))) w then eqV n p d (M (b + 1)) (M (b + 2)) x t j else M (c + 3) j) c 4 = M c 4 := upA_k (by omega)
      have cB := cntF_B (f := nlF n d (M (b + 2))) w0
      refine ab_iload C dX0_addEquation_26 rfl ?_
      refine ab_aload_n C dX0_addEquation_28 rfl rfl ?_
      refine gf_RX0_36 C s_t rfl dX0_addEquation_29 ?_
      refine ab_iload_n C dX0_addEquation_32 rfl rfl ?_
      refine ab_callV C cl_RX0_59 (m_X1_words B_t_alphabet A_t_alphabet (by omega) (by omega)) (by decide) rfl s_t_alphabet rfl rfl (Nat.le_of_ble_eq_true rfl) dX0_addEquation_33 (ab_kI (fun r_33 M_33 h_33 => ?_))
      obtain ⟨rfl, rfl⟩ := h_33
      refine ab_icmp_ge (tgt := 119) C dX0_addEquation_36 rfl (fun h_36 => ?_) (fun h_36 => ?_)
      · skip
        have ew : w = pw n d := by omega
        subst ew
        have rq : ∀ j, 0 ≤ j → j < (nmC n d (M (b + 2))) → upA M (c + 3) (fun j => if 0 ≤ j ∧ j < cntF (nlF n d (M (b + 2))) (pw n d) then eqV n p d (M (b + 1)) (M (b + 2)) x t j else M (c + 3) j) (c + 3) j = eqV n p d (M (b + 1)) (M (b + 2)) x t j := fun j j0 j1 => by rw [upA_s, if_pos ⟨j0, j1⟩]
        have r4 : upA M (c + 3) (fun j => if 0 ≤ j ∧ j < cntF (nlF n d (M (b + 2))) (pw n d) then eqV n p d (M (b + 1)) (M (b + 2)) x t j else M (c + 3) j) c 4 = M c 4 := upA_k (by omega)
        have r5 : upA M (c + 3) (fun j => if 0 ≤ j ∧ j < cntF (nlF n d (M (b + 2))) (pw n d) then eqV n p d (M (b + 1)) (M (b + 2)) x t j else M (c + 3) j) c 5 = M c 5 := upA_k (by omega)
        have rE : upA M (c + 3) (fun j => if 0 ≤ j ∧ j < cntF (nlF n d (M (b + 2))) (pw n d) then eqV n p d (M (b + 1)) (M (b + 2)) x t j else M (c + 3) j) (c + 1) = M (c + 1) := upA_row (by omega)
        have rT : upA M (c + 3) (fun j => if 0 ≤ j ∧ j < cntF (nlF n d (M (b + 2))) (pw n d) then eqV n p d (M (b + 1)) (M (b + 2)) x t j else M (c + 3) j) (c + 2) = M (c + 2) := upA_row (by omega)
        refine ab_aload C dX0_addEquation_119 rfl ?_
        refine ab_callV C cl_RX0_103 (m_X2_take B_e (by assumption) (by omega) (by rw [r4]; omega) (by rw [r4]; omega) (by rw [r4, hm]; intro j j0 j1; rw [rq j j0 j1]; unfold eqV; rw [if_pos ⟨j0, j1⟩]; exact emod_in p1) (by rw [r4, rE, rT]; exact hE) (by rw [r5]; omega)) (by decide) rfl s_e rfl rfl (Nat.le_of_ble_eq_true rfl) dX0_addEquation_121 (ab_kV (fun M_121 h_121 => ?_))
        rw [r4, r5, rE, rT] at h_121
        refine ab_vret (st := []) C r dX0_addEquation_124 ?_
        rw [hm] at h_121
        have hq9 := stepE_q (p := p) (m := (nmC n d (M (b + 2)))) (s := (M (c + 1), M (c + 2), M c 5)) (q := upA M (c + 3) (fun j => if 0 ≤ j ∧ j < cntF (nlF n d (M (b + 2))) (pw n d) then eqV n p d (M (b + 1)) (M (b + 2)) x t j else M (c + 3) j) (c + 3)) (r := eqV n p d (M (b + 1)) (M (b + 2)) x t) mB.1 rq
        rcases h_121 with ⟨hn, q, rfl⟩ | ⟨i, q, hn, rfl⟩
        · refine ⟨rfl, same_tr (same_upA (by simp)) (same_upA (by simp)), ?_, ?_, ?_⟩
          · rw [upA_k (by omega), r4]
          · simp (disch := omega) only [upA_row]; exact hE
          · rw [if_pos ht, ← hq9]
            simp (disch := omega) only [upA_row]
            unfold stepE
            rw [hn]
        · have eB := elim_B p1 _ _ _ _ _ (fun j j0 j1 => by rw [rq j j0 j1]; unfold eqV; rw [if_pos ⟨j0, j1⟩]; exact emod_in p1) (Int.le_refl 0) (by omega) hn
          have b1 : up (up (upA (upA (upA M (c + 3) (fun j => if 0 ≤ j ∧ j < cntF (nlF n d (M (b + 2))) (pw n d) then eqV n p d (M (b + 1)) (M (b + 2)) x t j else M (c + 3) j)) (c + 3) q) (c + 1) (keepE p (nmC n d (M (b + 2))) i (M (c + 1)) q)) (c + 2) i 1) c 5 (M c 5 + 1) (c + 1) = keepE p (nmC n d (M (b + 2))) i (M (c + 1)) q := by
            funext y
            rw [up_k (by omega), up_k (by omega), upA_s]
          have b2 : up (up (upA (upA (upA M (c + 3) (fun j => if 0 ≤ j ∧ j < cntF (nlF n d (M (b + 2))) (pw n d) then eqV n p d (M (b + 1)) (M (b + 2)) x t j else M (c + 3) j)) (c + 3) q) (c + 1) (keepE p (nmC n d (M (b + 2))) i (M (c + 1)) q)) (c + 2) i 1) c 5 (M c 5 + 1) (c + 2) = fun j => if j = i then 1 else M (c + 2) j := by
            funext y
            rw [up_k (by omega)]
            by_cases z : y = i
            · rw [z, up_s, if_pos rfl]
            · rw [up_i z, if_neg z, upA_k (by omega), upA_k (by omega), upA_k (by omega)]
          refine ⟨rfl, same_tr (same_tr (same_tr (same_tr (same_upA (by simp)) (same_upA (by simp))) (same_upA (by simp))) (same_up (by simp))) (same_up (by simp)), ?_, ?_, ?_⟩
          · rw [up_i (by decide), up_k (by omega), upA_k (by omega), upA_k (by omega), r4]
          · rw [b1, b2, hm]
            rw [hm] at hE
            exact rngE_keep p1 hE eB.1 (by omega)
          · rw [b1, b2, up_s, if_pos ht, ← hq9]
            unfold stepE
            rw [hn]
      · skip
        refine ab_aload_n C dX0_addEquation_39 rfl rfl ?_
        refine gf_RX0_16 C s_t rfl dX0_addEquation_40 ?_
        refine ab_aload_n C dX0_addEquation_43 rfl rfl ?_
        refine gf_RX0_36 C s_t rfl dX0_addEquation_44 ?_
        refine ab_iload_n C dX0_addEquation_47 rfl rfl ?_
        refine ab_iload C dX0_addEquation_48 rfl ?_
        refine ab_callV C cl_RX0_54 (m_X1_placeOf B_t_alphabet A_t_alphabet (by omega) (by omega) (by omega) (by omega)) (by decide) rfl s_t_alphabet rfl rfl (Nat.le_of_ble_eq_true rfl) dX0_addEquation_50 (ab_kI (fun r_50 M_50 h_50 => ?_))
        obtain ⟨rfl, rfl⟩ := h_50
        refine ab_baload C s_t_leading (by omega) (by omega) dX0_addEquation_53 ?_
        refine ab_if_ne (tgt := 113) C dX0_addEquation_54 rfl (fun h_54 => ?_) (fun h_54 => ?_)
        · skip
          have hw : ldq n d (M (b + 2)) w ≠ 0 := by rw [r2] at h_54; exact h_54
          have zn : nlF n d (M (b + 2)) w = 0 := if_neg hw
          refine ab_iinc6 (lv := []) C rfl dX0_addEquation_113 (by omega) ?_
          refine ab_goto (tgt := 26) C dX0_addEquation_116 rfl ?_
          first
          | (have z := cntF_s (f := nlF n d (M (b + 2))) w0
             rw [zn, if_pos rfl, Int.add_zero] at z
             rw [z] at ih
             exact ih (_, _) (by omega) ⟨by omega, hy1⟩)
          | (have z := cntF_s (f := nlF n d (M (b + 2))) w0
             rw [zn, if_neg (by decide)] at z
             rw [z] at ih
             refine ab_mem ?_ (ih (_, _) (by omega) ⟨by omega, rfl⟩)
             rw [up_upA]
             exact upA_ext (fun j => by
               by_cases q1 : j = cntF (nlF n d (M (b + 2))) w
               · rw [if_pos q1, if_pos (by omega)]
                 unfold eqV
                 rw [if_pos (by omega), q1]
                 have e := nthF_at (f := nlF n d (M (b + 2))) (N := pw n d) w0 (by omega) (by rw [zn]; decide)
                 rw [e]
               · rw [if_neg q1]
                 by_cases q2 : 0 ≤ j ∧ j < cntF (nlF n d (M (b + 2))) w
                 · rw [if_pos q2, if_pos (by omega)]
                 · rw [if_neg q2, if_neg (by omega)]))
        · skip
          have hw : ldq n d (M (b + 2)) w = 0 := by rw [r2] at h_54; exact h_54
          have zn : nlF n d (M (b + 2)) w = 1 := if_pos hw
          have hlt : cntF (nlF n d (M (b + 2))) w < (nmC n d (M (b + 2))) := by
            have z1 := cntF_s (f := nlF n d (M (b + 2))) w0
            rw [zn, if_neg (by decide)] at z1
            have z2 := cnt_mono (f := nlF n d (M (b + 2))) (a := w + 1) (b := pw n d) (by omega) (by omega)
            have z3 : (nmC n d (M (b + 2))) = cntF (nlF n d (M (b + 2))) (pw n d) := rfl
            omega
          have B1 := blk_B (d := d + 1) n1 (by omega) x w x0 x1 w0 (by rw [show d + 1 - 1 = d by omega]; omega)
          rw [show d + 1 - 1 = d by omega] at B1
          have c1 : 0 ≤ x * pw n d := Int.mul_nonneg x0 (by omega)
          have c2 : 0 ≤ w * n := Int.mul_nonneg w0 (by omega)
          refine ab_aload_n C dX0_addEquation_57 rfl rfl ?_
          refine ab_iload_n C dX0_addEquation_58 rfl rfl ?_
          refine ab_iconst C dX0_addEquation_59 (by decide) ?_
          refine ab_iadd C dX0_addEquation_60 (by omega) ?_
          refine ab_iload_n C dX0_addEquation_61 rfl rfl ?_
          refine ab_aload_n C dX0_addEquation_62 rfl rfl ?_
          refine gf_RX0_36 C s_t rfl dX0_addEquation_63 ?_
          refine ab_iload_n C dX0_addEquation_66 rfl rfl ?_
          refine ab_iload_n C dX0_addEquation_67 rfl rfl ?_
          refine ab_iload C dX0_addEquation_68 rfl ?_
          refine ab_callV C cl_RX0_93 (m_X1_ahead B_t_alphabet (by assumption) (by omega) (by omega) (by omega) (by omega) (by omega) (by omega)) (by decide) rfl s_t_alphabet rfl rfl (Nat.le_of_ble_eq_true rfl) dX0_addEquation_70 (ab_kI (fun r_70 M_70 h_70 => ?_))
          obtain ⟨rfl, rfl⟩ := h_70
          refine ab_callV C cl_RX0_67 (m_X0_numberAt B_t (by assumption) (by omega) (by omega) (by omega) (by omega) (by omega) (by omega) (by omega) (by omega) (by rw [r1, r2]; exact hW1)) (by decide) rfl s_t rfl rfl (Nat.le_of_ble_eq_true rfl) dX0_addEquation_73 (ab_kI (fun r_73 M_73 h_73 => ?_))
          obtain ⟨rfl, rfl⟩ := h_73
          refine ab_istore7 (lv := []) C rfl dX0_addEquation_76 ?_
          refine ab_aload_n C dX0_addEquation_78 rfl rfl ?_
          refine ab_iload_n C dX0_addEquation_79 rfl rfl ?_
          refine ab_iconst C dX0_addEquation_80 (by decide) ?_
          refine ab_iadd C dX0_addEquation_81 (by omega) ?_
          refine ab_iload_n C dX0_addEquation_82 rfl rfl ?_
          refine ab_aload_n C dX0_addEquation_83 rfl rfl ?_
          refine gf_RX0_36 C s_t rfl dX0_addEquation_84 ?_
          refine ab_iload C dX0_addEquation_87 rfl ?_
          refine ab_iload_n C dX0_addEquation_89 rfl rfl ?_
          refine ab_callV C cl_RX0_96 (m_X1_behind B_t_alphabet (by assumption) (by omega) (by omega) (by omega) (by omega)) (by decide) rfl s_t_alphabet rfl rfl (Nat.le_of_ble_eq_true rfl) dX0_addEquation_90 (ab_kI (fun r_90 M_90 h_90 => ?_))
          obtain ⟨rfl, rfl⟩ := h_90
          refine ab_callV C cl_RX0_67 (m_X0_numberAt B_t (by assumption) (by omega) (by omega) (by omega) (by omega) (by omega) (by omega) (by omega) (by omega) (by rw [r1, r2]; exact hW1)) (by decide) rfl s_t rfl rfl (Nat.le_of_ble_eq_true rfl) dX0_addEquation_93 (ab_kI (fun r_93 M_93 h_93 => ?_))
          obtain ⟨rfl, rfl⟩ := h_93
          refine ab_istore8 (lv := []) C rfl dX0_addEquation_96 ?_
          rw [r1, r2]
          have rB : ∀ y, 0 ≤ y → y < pw n (d + 1) → -1 ≤ rho n (d + 1) (M (b + 1)) (M (b + 2)) y t ∧ rho n (d + 1) (M (b + 1)) (M (b + 2)) y t ≤ 97 := fun y y0 y1 => by
            have hs := hS1 y y0 y1
            rcases hs.1 with q | q
            · rw [hs.2.1 q]; unfold dl; split <;> omega
            · have := hs.2.2 (by omega) t; omega
          have rB1 := rB _ (show 0 ≤ x * pw n d + w by omega) B1.1
          have rB2 := rB _ (show 0 ≤ w * n + x by omega) B1.2
          refine ab_aload C dX0_addEquation_98 rfl ?_
          refine ab_iload C dX0_addEquation_100 rfl ?_
          refine ab_iload C dX0_addEquation_102 rfl ?_
          refine ab_iload C dX0_addEquation_104 rfl ?_
          refine ab_isub C dX0_addEquation_106 (by omega) ?_
          refine ab_callV C cl_RX0_99 (m_X2_set B_e (by assumption) (by omega) (by omega) (by rw [r4]; omega) (by rw [r4]; omega)) (by decide) rfl s_e rfl rfl (Nat.le_of_ble_eq_true rfl) dX0_addEquation_107 (ab_kV (fun M_107 h_107 => ?_))
          subst h_107
          refine ab_iinc5 (lv := []) C rfl dX0_addEquation_110 (by omega) ?_
          refine ab_iinc6 (lv := []) C rfl dX0_addEquation_113 (by omega) ?_
          refine ab_goto (tgt := 26) C dX0_addEquation_116 rfl ?_
          first
          | (have z := cntF_s (f := nlF n d (M (b + 2))) w0
             rw [zn, if_pos rfl, Int.add_zero] at z
             rw [z] at ih
             exact ih (_, _) (by omega) ⟨by omega, hy1⟩)
          | (have z := cntF_s (f := nlF n d (M (b + 2))) w0
             rw [zn, if_neg (by decide)] at z
             rw [z] at ih
             refine ab_mem ?_ (ih (_, _) (by omega) ⟨by omega, rfl⟩)
             rw [up_upA]
             exact upA_ext (fun j => by
               by_cases q1 : j = cntF (nlF n d (M (b + 2))) w
               · rw [if_pos q1, if_pos (by omega)]
                 unfold eqV
                 rw [if_pos (by omega), q1]
                 have e := nthF_at (f := nlF n d (M (b + 2))) (N := pw n d) w0 (by omega) (by rw [zn]; decide)
                 rw [e]
               · rw [if_neg q1]
                 by_cases q2 : 0 ≤ j ∧ j < cntF (nlF n d (M (b + 2))) w
                 · rw [if_pos q2, if_pos (by omega)]
                 · rw [if_neg q2, if_neg (by omega)]))
  · skip
    have ht : ldq n (d + 1) (M (b + 2)) t ≠ 0 := h_16
    refine ab_vret (st := []) C r dX0_addEquation_19 ?_
    refine ⟨rfl, same_rf _ _, rfl, hE, ?_⟩
    rw [if_neg ht]
