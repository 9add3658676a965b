set_option maxRecDepth 100000 in
set_option maxHeartbeats 4000000 in
theorem m_X0_prepare {D : va_G} {cA : Nat → ClassId} {S : List AbS} {M : AbM} {b a g : Nat} {n p : Int} (B_t : shAg S b a g) (A_t_alphabet : Al M a n p) (hba : a + 3 < b) (hbg : g + 2 < b) (hL : LawsOK n p M g) (hO2 : AlgOK n p M b g) {d : Int} (h1 : d ≤ Lg n) : Meth yX0_prepare cX0_prepare 4 none rmX0_prepare D cA S [vP b, vI d] M (qV fun M2 => same [b, b + 1, b + 2, b + 3, b + 4, b + 5, b + 6] M M2 ∧ AlgOK n p M2 b g ∧ M2 b 8 = max (M b 8) d) := by
  refine ab_intro (lv := [vP b, vI d, vU, vU]) (by decide +kernel) rfl (Nat.le_of_ble_eq_true rfl) ?_
  intro hO hargs K hKD hKA C r
  have C : Cx K cX0_prepare RX0 rmX0_prepare := C
  have i_d : inI d := hargs _ (List.mem_cons_of_mem _ (List.mem_cons_self))
  obtain ⟨s_t, s_t_forms, s_t_leading, s_t_normals, s_t_leasts, s_t_middles, s_t_form, B_t_alphabet, B_t_lawList⟩ := id B_t
  obtain ⟨s_t_alphabet, -⟩ := id B_t_alphabet
  obtain ⟨s_t_lawList, -⟩ := id B_t_lawList
  obtain ⟨⟨n1, n2, hPr⟩, -⟩ := id A_t_alphabet
  obtain ⟨p1, p2, -⟩ := id hPr
  have hLB := Lg_B n
  have A0 := A_t_alphabet
  obtain ⟨rd0, rd1, hat, hmid⟩ := id hO2
  obtain ⟨sz0, sz1, hlw⟩ := id hL
  refine ab_aload_n C dX0_prepare_0 rfl rfl ?_
  refine gf_RX0_32 C s_t rfl dX0_prepare_1 ?_
  refine ab_iconst C dX0_prepare_4 (by decide) ?_
  refine ab_iadd C dX0_prepare_5 (by omega) ?_
  refine ab_istore2 (lv := []) C rfl dX0_prepare_6 ?_
  refine ab_loop (fun e (x : AbV × AbM) => AJ K S 7 [vP b, vI d, vI e, x.1] [] x.2) (fun e x => same [b, b + 1, b + 2, b + 3, b + 4, b + 5, b + 6] M x.2 ∧ AlgOK n p x.2 b g ∧ x.2 b 8 = e - 1 ∧ M b 8 + 1 ≤ e ∧ ab_cat x.1 = 1) (max (M b 8 + 1) (d + 1)) ?_ (M b 8 + 1) (vU, M) (by omega) ⟨same_rf _ _, hO2, by show M b 8 = M b 8 + 1 - 1; omega, by omega, rfl⟩
  · intro e x he hI ih
    obtain ⟨y3, M2⟩ := x
    obtain ⟨hs, hA2, hr2, he1, hy3⟩ := hI
    dsimp only at hs hA2 hr2 hy3 ih ⊢
    have A_t_alphabet := hs.al A0 (by intro k hk; simp only [List.mem_cons, List.not_mem_nil, or_false] at hk; omega)
    have g0 : M2 g = M g := hs g (by simp; omega)
    have g1 : M2 (g + 1) = M (g + 1) := hs (g + 1) (by simp; omega)
    have g2 : M2 (g + 2) = M (g + 2) := hs (g + 2) (by simp; omega)
    have g02 : M2 g 2 = M g 2 := by rw [g0]
    obtain ⟨ra, rb, rc, rd⟩ := id hA2
    refine ab_iload_n C dX0_prepare_7 rfl rfl ?_
    refine ab_iload_n C dX0_prepare_8 rfl rfl ?_
    refine ab_icmp_gt (tgt := 79) C dX0_prepare_9 rfl (fun h_9 => ?_) (fun h_9 => ?_)
    · skip
      refine ab_vret (st := []) C r dX0_prepare_79 ?_
      exact ⟨rfl, hs, hA2, by omega⟩
    · skip
      refine ab_iconst C dX0_prepare_12 (by decide) ?_
      refine ab_istore3 (lv := []) C rfl dX0_prepare_13 ?_
      obtain ⟨e0, e1⟩ : 0 ≤ e ∧ e ≤ Lg n := ⟨by omega, by omega⟩
      have hB := sz_B n1 n2 e0 e1
      have hprev : 1 ≤ e → DoneD n p (e - 1) (M2 g 2) (M2 (g + 1)) (M2 (g + 2)) (M2 (b + 1)) (M2 (b + 2)) := fun z => (rc (e - 1) (by omega) (by omega)).1
      refine ab_loop (fun w (M3 : AbM) => AJ K S 14 [vP b, vI d, vI e, vI w] [] M3) (fun w M3 => 0 ≤ w ∧ same [b + 1, b + 2, b + 6] M2 M3 ∧ (∀ x, x < fsm n e → M3 (b + 1) x = M2 (b + 1) x) ∧ (∀ x, x < wsm n e → M3 (b + 2) x = M2 (b + 2) x) ∧ WF n p e w (M3 (b + 1)) (M3 (b + 2)) ∧ (1 ≤ e → GoodD n p e w (LwD n e (M2 g 2) (M2 (g + 1)) (M2 (g + 2))) (M3 (b + 1)) (M3 (b + 2))) ∧ (e = 0 → w = 1 → ldq n e (M3 (b + 2)) 0 = 0)) (pw n e) ?_ 0 M2 (by omega) ⟨by omega, same_rf _ _, fun _ _ => rfl, fun _ _ => rfl, fun w a c => by omega, fun z => ⟨fun w a c => by omega, fun V hV hI w a c => by omega, fun c t c0 c1 t0 t1 hl => ⟨fun y => by have := Int.mul_nonneg c0 (show 0 ≤ pw n (e - 1) by omega); omega, fun y => by have := Int.mul_nonneg t0 (show 0 ≤ n by omega); omega⟩⟩, fun _ z => by omega⟩
      · intro w M3 hw hI3 ih3
        obtain ⟨w0, hs3, lo1, lo2, hW3, hG3, hz3⟩ := hI3
        have A_t_alphabet := hs3.al A_t_alphabet (by intro k hk; simp only [List.mem_cons, List.not_mem_nil, or_false] at hk; omega)
        refine ab_iload_n C dX0_prepare_14 rfl rfl ?_
        refine ab_aload_n C dX0_prepare_15 rfl rfl ?_
        refine gf_RX0_36 C s_t rfl dX0_prepare_16 ?_
        refine ab_iload_n C dX0_prepare_19 rfl rfl ?_
        refine ab_callV C cl_RX0_59 (m_X1_words B_t_alphabet A_t_alphabet (by omega) (by omega)) (by decide) rfl s_t_alphabet rfl rfl (Nat.le_of_ble_eq_true rfl) dX0_prepare_20 (ab_kI (fun r_20 M_20 h_20 => ?_))
        obtain ⟨rfl, rfl⟩ := h_20
        refine ab_icmp_ge (tgt := 38) C dX0_prepare_23 rfl (fun h_23 => ?_) (fun h_23 => ?_)
        · skip
          refine ab_iconst C dX0_prepare_38 (by decide) ?_
          refine ab_istore3 (lv := []) C rfl dX0_prepare_39 ?_
          have ew : w = pw n e := by omega
          subst ew
          have p0 := pw_0 n
          have gs : M3 g = M2 g := hs3 g (by simp; omega)
          have gs1 : M3 (g + 1) = M2 (g + 1) := hs3 (g + 1) (by simp; omega)
          have gs2 : M3 (g + 2) = M2 (g + 2) := hs3 (g + 2) (by simp; omega)
          refine ab_loop (fun j (M4 : AbM) => AJ K S 40 [vP b, vI d, vI e, vI j] [] M4) (fun j M4 => 0 ≤ j ∧ same [b + 1, b + 2, b + 6] M2 M4 ∧ (∀ x, x < fsm n e → M4 (b + 1) x = M2 (b + 1) x) ∧ (∀ x, x < wsm n e → M4 (b + 2) x = M2 (b + 2) x) ∧ WF n p e (pw n e) (M4 (b + 1)) (M4 (b + 2)) ∧ (1 ≤ e → GoodD n p e (pw n e) (LwD n e (M2 g 2) (M2 (g + 1)) (M2 (g + 2))) (M4 (b + 1)) (M4 (b + 2)) ∧ ∀ i, 0 ≤ i → i < j → M2 (g + 1) i = e → nought p (pw n e) (rho n e (M4 (b + 1)) (M4 (b + 2))) (lawR n e i (M2 (g + 2)))) ∧ (e = 0 → ldq n e (M4 (b + 2)) 0 = 0)) (M2 g 2) ?_ 0 M3 (by rw [g0]; omega) ⟨by omega, hs3, lo1, lo2, hW3, fun z => ⟨hG3 z, fun i a c => by omega⟩, fun z => hz3 z (by rw [z]; exact p0)⟩
          · intro j M4 hj hI4 ih4
            obtain ⟨j0, hs4, lo1, lo2, hW4, hG4, hz4⟩ := hI4
            have A_t_alphabet := hs4.al (hs.al A0 (by intro k hk; simp only [List.mem_cons, List.not_mem_nil, or_false] at hk; omega)) (by intro k hk; simp only [List.mem_cons, List.not_mem_nil, or_false] at hk; omega)
            have gs : M4 g = M2 g := hs4 g (by simp; omega)
            have gs1 : M4 (g + 1) = M2 (g + 1) := hs4 (g + 1) (by simp; omega)
            have gs2 : M4 (g + 2) = M2 (g + 2) := hs4 (g + 2) (by simp; omega)
            have gs02 : M4 g 2 = M2 g 2 := by rw [gs]
            have lwj : j < M2 g 2 → 2 ≤ M2 (g + 1) j ∧ M2 (g + 1) j ≤ 4 ∧ ∀ y, 0 ≤ y → y < pw n (M2 (g + 1) j) → 0 ≤ M2 (g + 2) (j * 81 + y) ∧ M2 (g + 2) (j * 81 + y) < p := fun z => by rw [g1, g2]; rw [g0] at z; exact hlw j j0 z
            refine ab_iload_n C dX0_prepare_40 rfl rfl ?_
            refine ab_aload_n C dX0_prepare_41 rfl rfl ?_
            refine gf_RX0_40 C s_t rfl dX0_prepare_42 ?_
            refine ab_callV C cl_RX0_118 (m_X3_size B_t_lawList) (by decide) rfl s_t_lawList rfl rfl (Nat.le_of_ble_eq_true rfl) dX0_prepare_45 (ab_kI (fun r_45 M_45 h_45 => ?_))
            obtain ⟨rfl, rfl⟩ := h_45
            refine ab_icmp_ge (tgt := 63) C dX0_prepare_48 rfl (fun h_48 => ?_) (fun h_48 => ?_)
            · skip
              refine ab_aload_n C dX0_prepare_63 rfl rfl ?_
              refine ab_iload_n C dX0_prepare_64 rfl rfl ?_
              refine ab_callV C cl_RX0_126 (m_X0_settle B_t (by assumption) (by omega) (by omega) (by omega) (by omega)) (by decide) rfl s_t rfl rfl (Nat.le_of_ble_eq_true rfl) dX0_prepare_65 (ab_kV (fun M_65 h_65 => ?_))
              subst h_65
              refine ab_aload_n C dX0_prepare_68 rfl rfl ?_
              refine ab_iload_n C dX0_prepare_69 rfl rfl ?_
              refine pf_RX0_32 C s_t rfl dX0_prepare_70 ?_
              have ej : j = M2 g 2 := by omega
              obtain ⟨M5, hM5⟩ : ∃ M5, (up (if 0 < e then up (up (up M4 (b + 3) e (cntF (nlF n e (M4 (b + 2))) (pw n e))) (b + 4) e (cntF (lsF n e (M4 (b + 2))) (pw n e))) (b + 5) (e - 1) (-1) else up (up M4 (b + 3) e (cntF (nlF n e (M4 (b + 2))) (pw n e))) (b + 4) e (cntF (lsF n e (M4 (b + 2))) (pw n e))) b 8 e) = M5 := ⟨_, rfl⟩
              rw [hM5]
              have t8 : M5 b 8 = e := by rw [← hM5, up_s]
              have tr : ∀ k, k ≠ b → k ≠ b + 3 → k ≠ b + 4 → k ≠ b + 5 → M5 k = M4 k := fun k c1 c2 c3 c4 => by
                rw [← hM5, up_row c1]
                split
                · rw [up_row c4, up_row c3, up_row c2]
                · rw [up_row c3, up_row c2]
              have t3 : ∀ i, M5 (b + 3) i = if i = e then nmC n e (M4 (b + 2)) else M4 (b + 3) i := fun i => by
                rw [← hM5, up_k (by omega)]
                by_cases q : i = e
                · subst q
                  rw [if_pos rfl]
                  split
                  · rw [up_k (by omega), up_k (by omega), up_s]; rfl
                  · rw [up_k (by omega), up_s]; rfl
                · rw [if_neg q]
                  split
                  · rw [up_k (by omega), up_k (by omega), up_i q]
                  · rw [up_k (by omega), up_i q]
              have t4 : ∀ i, M5 (b + 4) i = if i = e then lsC n e (M4 (b + 2)) else M4 (b + 4) i := fun i => by
                rw [← hM5, up_k (by omega)]
                by_cases q : i = e
                · subst q
                  rw [if_pos rfl]
                  split
                  · rw [up_k (by omega), up_s]; rfl
                  · rw [up_s]; rfl
                · rw [if_neg q]
                  split
                  · rw [up_k (by omega), up_i q, up_k (by omega)]
                  · rw [up_i q, up_k (by omega)]
              have t5 : ∀ i, 0 ≤ i → M5 (b + 5) i = if i = e - 1 then -1 else M4 (b + 5) i := fun i i0 => by
                rw [← hM5, up_k (by omega)]
                split
                · by_cases q : i = e - 1
                  · rw [if_pos q, q, up_s]
                  · rw [if_neg q, up_i q, up_k (by omega), up_k (by omega)]
                · rw [if_neg (by omega), up_k (by omega), up_k (by omega)]
              have ts : same [b, b + 1, b + 2, b + 3, b + 4, b + 5, b + 6] M4 M5 := fun k hk => by
                simp only [List.mem_cons, List.not_mem_nil, or_false, not_or] at hk
                exact tr k hk.1 hk.2.2.2.1 hk.2.2.2.2.1 hk.2.2.2.2.2.1
              have s24 : same [b, b + 1, b + 2, b + 3, b + 4, b + 5, b + 6] M2 M4 := fun k hk => hs4 k (fun z => hk (by simp only [List.mem_cons, List.not_mem_nil, or_false] at z ⊢; omega))
              have r1 : M5 (b + 1) = M4 (b + 1) := tr _ (by omega) (by omega) (by omega) (by omega)
              have r2 : M5 (b + 2) = M4 (b + 2) := tr _ (by omega) (by omega) (by omega) (by omega)
              have rg : M5 g = M2 g := (tr _ (by omega) (by omega) (by omega) (by omega)).trans gs
              have rg1 : M5 (g + 1) = M2 (g + 1) := (tr _ (by omega) (by omega) (by omega) (by omega)).trans gs1
              have rg2 : M5 (g + 2) = M2 (g + 2) := (tr _ (by omega) (by omega) (by omega) (by omega)).trans gs2
              have r43 : M4 (b + 3) = M2 (b + 3) := hs4 _ (by simp)
              have r44 : M4 (b + 4) = M2 (b + 4) := hs4 _ (by simp)
              have r45 : M4 (b + 5) = M2 (b + 5) := hs4 _ (by simp)
              have hfin : same [b, b + 1, b + 2, b + 3, b + 4, b + 5, b + 6] M M5 ∧ AlgOK n p M5 b g ∧ M5 b 8 = e + 1 - 1 ∧ M b 8 + 1 ≤ e + 1 ∧ ab_cat (vI j) = 1 := by
                refine ⟨same_tr hs (same_tr s24 ts), ⟨by omega, by omega, fun i i0 i1 => ?_, fun i i0 i1 => ?_⟩, by omega, by omega, rfl⟩
                · unfold AlgAt
                  rw [rg, rg1, rg2, r1, r2, t3, t4]
                  rcases (show i < e ∨ i = e by omega) with q | q
                  · have h9 := rc i i0 (by omega)
                    obtain ⟨k1, k2⟩ := lsF_keep (F := M2 (b + 1)) (F2 := M4 (b + 1)) n1 i0 q lo1 lo2
                    rw [if_neg (by omega), if_neg (by omega), r43, r44, ← k1, ← k2]
                    exact ⟨h9.1.keep n1 i0 q lo1 lo2, h9.2⟩
                  · subst q
                    rw [if_pos rfl, if_pos rfl]
                    refine ⟨⟨hW4, fun z => hz4 z, fun z => ⟨(hG4 z).1, ?_⟩⟩, rfl, rfl⟩
                    rintro x ⟨i, a, c, hi, rfl⟩
                    exact (hG4 z).2 i a (by omega) hi
                · rw [t5 i i0, r1, r2]
                  by_cases q : i = e - 1
                  · rw [if_pos q]; exact Or.inl rfl
                  · rw [if_neg q, r45, ← midV_keep (F := M2 (b + 1)) (F2 := M4 (b + 1)) (D := e) n1 i0 (by omega) lo1 lo2]
                    exact rd i i0 (by omega)
              refine ab_iinc2 (lv := []) C rfl dX0_prepare_73 (by omega) ?_
              refine ab_goto (tgt := 7) C dX0_prepare_76 rfl ?_
              exact ih (_, _) (by omega) hfin
            · skip
              refine ab_aload_n C dX0_prepare_51 rfl rfl ?_
              refine ab_iload_n C dX0_prepare_52 rfl rfl ?_
              refine ab_iload_n C dX0_prepare_53 rfl rfl ?_
              refine ab_callV C cl_RX0_123 (m_X0_takeLaw B_t (by assumption) (by omega) (by omega) (by omega) (by omega) (by omega) (by omega) (by rw [gs1, gs2]; intro z; rw [← z]; have l9 := lwj (by omega); exact ⟨law_len n1 n2 l9.1 l9.2.1, l9.2.2⟩) hW4) (by decide) rfl s_t rfl rfl (Nat.le_of_ble_eq_true rfl) dX0_prepare_54 (ab_kV (fun M_54 h_54 => ?_))
              skip
              refine ab_iinc3 (lv := []) C rfl dX0_prepare_57 (by omega) ?_
              refine ab_goto (tgt := 40) C dX0_prepare_60 rfl ?_
              obtain ⟨hs5, h5⟩ := h_54
              rcases h5 with ⟨hne, rfl⟩ | ⟨heq, G, hGG, hT⟩
              · exact ih4 _ (by omega) ⟨by omega, hs4, lo1, lo2, hW4, fun z => ⟨(hG4 z).1, fun i a c hi => by
                  rcases (show i < j ∨ i = j by omega) with q | q
                  · exact (hG4 z).2 i a q hi
                  · rw [gs1] at hne; rw [q] at hi; exact absurd hi hne⟩, hz4⟩
              · rw [gs1] at heq
                have lj := lwj (by omega)
                have e1 : 1 ≤ e := by omega
                obtain ⟨gA, gB⟩ := hG4 e1
                have Tlo := hT.lo
                rw [gs2] at hGG
                obtain ⟨n1', n2', n3', n4'⟩ := nought_good hPr (Int.le_refl _) hW4 gA.2.1 (X := lawR n e j (M2 (g + 2))) (fun V hV hI => hI.2 _ ⟨j, j0, by omega, heq, rfl⟩) (fun i a c => by omega) (fun v a c => ⟨(hGG v a c).1, (hGG v a c).2.1⟩) (fun v a c => by rw [(hGG v a c).2.2]; exact cg_sy (cg_mod p _)) hT
                refine ih4 _ (by omega) ⟨by omega, same_tr hs4 hs5, fun x hx => (Tlo.1 x hx).trans (lo1 x hx), fun x hx => (Tlo.2 x hx).trans (lo2 x hx), n1', fun z => ⟨GoodD.prev z Tlo.1 Tlo.2 ⟨n1'.sys p1, n2', fun c t c0 c1 t0 t1 hl => ⟨fun y => n4' _ ((gA.2.2 c t c0 c1 t0 t1 hl).1 y), fun y => n4' _ ((gA.2.2 c t c0 c1 t0 t1 hl).2 y)⟩⟩, fun i a c hi => ?_⟩, fun z => by omega⟩
                rcases (show i < j ∨ i = j by omega) with q | q
                · exact n4' _ (gB i a q hi)
                · rw [q]; exact n3'
        · skip
          refine ab_aload_n C dX0_prepare_26 rfl rfl ?_
          refine ab_iload_n C dX0_prepare_27 rfl rfl ?_
          refine ab_iload_n C dX0_prepare_28 rfl rfl ?_
          refine ab_callV C cl_RX0_115 (m_X0_followShorter (Lw := LwD n e (M2 g 2) (M2 (g + 1)) (M2 (g + 2))) B_t (by assumption) (by omega) (by omega) (by omega) (by omega) (by omega) (by omega) hW3 (fun z => ((hprev z).keep (d := e) n1 (by omega) (by omega) lo1 lo2).1) hG3) (by decide) rfl s_t rfl rfl (Nat.le_of_ble_eq_true rfl) dX0_prepare_29 (ab_kV (fun M_29 h_29 => ?_))
          skip
          refine ab_iinc3 (lv := []) C rfl dX0_prepare_32 (by omega) ?_
          refine ab_goto (tgt := 14) C dX0_prepare_35 rfl ?_
          obtain ⟨hs4, f1, f2, f3, f4, f5⟩ := h_29
          exact ih3 _ (by omega) ⟨by omega, same_tr hs3 hs4, fun x hx => (f1 x hx).trans (lo1 x hx), fun x hx => (f2 x hx).trans (lo2 x hx), f3, f4, fun z1 z2 => by have := f5 z1; rwa [show w = 0 by omega] at this⟩
