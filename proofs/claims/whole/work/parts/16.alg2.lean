set_option maxRecDepth 100000 in
set_option maxHeartbeats 4000000 in
theorem m_X0_addTailForm {D : va_G} {cA : Nat → ClassId} {S : List AbS} {M : AbM} {b a g : Nat} {n p : Int} (B_t : shAg S b a g) (A_t_alphabet : Al M a n p) (hba : a + 3 < b) (hbg : g + 2 < b) {d w : Int} (h0 : 1 ≤ d) (h1 : d ≤ Lg n) (w0 : 0 ≤ w) (w1 : w < pw n d) (hT : ∀ v, 0 ≤ v → v < w % pw n (d - 1) → 0 ≤ fmq n (d - 1) (M (b + 1)) (w % pw n (d - 1)) v ∧ fmq n (d - 1) (M (b + 1)) (w % pw n (d - 1)) v < p) (hG : ∀ v, 0 ≤ v → v ≤ w → 0 ≤ M (b + 6) v ∧ M (b + 6) v < p) (hW : WF n p d w (M (b + 1)) (M (b + 2))) : Meth yX0_addTailForm cX0_addTailForm 7 none rmX0_addTailForm D cA S [vP b, vI d, vI w] M (qV fun M2 => upA M (b + 6) (accG p w (tailS n d (M (b + 1)) (M (b + 2)) w (w % pw n (d - 1))) (M (b + 6))) = M2) := by
  refine ab_intro (lv := [vP b, vI d, vI w, vU, vU, vU, vU]) (by decide +kernel) rfl (Nat.le_of_ble_eq_true rfl) ?_
  intro hO hargs K hKD hKA C r
  have C : Cx K cX0_addTailForm RX0 rmX0_addTailForm := C
  have i_d : inI d := hargs _ (List.mem_cons_of_mem _ (List.mem_cons_self))
  have i_w : inI w := hargs _ (List.mem_cons_of_mem _ (List.mem_cons_of_mem _ (List.mem_cons_self)))
  obtain ⟨s_t, s_t_forms, s_t_leading, s_t_normals, s_t_leasts, s_t_middles, s_t_form, B_t_alphabet, B_t_lawList⟩ := id B_t
  obtain ⟨s_t_alphabet, -⟩ := id B_t_alphabet
  obtain ⟨s_t_lawList, -⟩ := id B_t_lawList
  obtain ⟨⟨n1, n2, hPr⟩, -⟩ := id A_t_alphabet
  obtain ⟨p1, p2, -⟩ := id hPr
  have hLB := Lg_B n
  have hB := sz_B n1 n2 (show 0 ≤ d by omega) h1
  have hB2 := sz_B (d := d - 1) n1 n2 (by omega) (by omega)
  obtain ⟨t0, t1, l0, l1, tl⟩ := tail_B n1 h0 w0 w1
  have htl0 : 0 ≤ w / pw n (d - 1) * pw n (d - 1) := Int.mul_nonneg l0 (by omega)
  have htri := tri_lt t0 t1
  have htn := tri_nn t0
  refine ab_aload_n C dX0_addTailForm_0 rfl rfl ?_
  refine gf_RX0_36 C s_t rfl dX0_addTailForm_1 ?_
  refine ab_iload_n C dX0_addTailForm_4 rfl rfl ?_
  refine ab_iload_n C dX0_addTailForm_5 rfl rfl ?_
  refine ab_callV C cl_RX0_109 (m_X1_withoutFirst B_t_alphabet A_t_alphabet (by omega) (by omega) (by omega) (by omega)) (by decide) rfl s_t_alphabet rfl rfl (Nat.le_of_ble_eq_true rfl) dX0_addTailForm_6 (ab_kI (fun r_6 M_6 h_6 => ?_))
  obtain ⟨rfl, rfl⟩ := h_6
  refine ab_istore3 (lv := []) C rfl dX0_addTailForm_9 ?_
  refine ab_aload_n C dX0_addTailForm_10 rfl rfl ?_
  refine gf_RX0_36 C s_t rfl dX0_addTailForm_11 ?_
  refine ab_iload_n C dX0_addTailForm_14 rfl rfl ?_
  refine ab_iload_n C dX0_addTailForm_15 rfl rfl ?_
  refine ab_callV C cl_RX0_151 (m_X1_firstLetter B_t_alphabet A_t_alphabet (by omega) (by omega) (by omega) (by omega)) (by decide) rfl s_t_alphabet rfl rfl (Nat.le_of_ble_eq_true rfl) dX0_addTailForm_16 (ab_kI (fun r_16 M_16 h_16 => ?_))
  obtain ⟨rfl, rfl⟩ := h_16
  refine ab_istore4 (lv := []) C rfl dX0_addTailForm_19 ?_
  refine ab_aload_n C dX0_addTailForm_21 rfl rfl ?_
  refine gf_RX0_36 C s_t rfl dX0_addTailForm_22 ?_
  refine ab_iload_n C dX0_addTailForm_25 rfl rfl ?_
  refine ab_iconst C dX0_addTailForm_26 (by decide) ?_
  refine ab_isub C dX0_addTailForm_27 (by omega) ?_
  refine ab_iload_n C dX0_addTailForm_28 rfl rfl ?_
  refine ab_callV C cl_RX0_106 (m_X1_formAt B_t_alphabet A_t_alphabet (by omega) (by omega) (by omega) (by omega)) (by decide) rfl s_t_alphabet rfl rfl (Nat.le_of_ble_eq_true rfl) dX0_addTailForm_29 (ab_kI (fun r_29 M_29 h_29 => ?_))
  obtain ⟨rfl, rfl⟩ := h_29
  refine ab_istore5 (lv := []) C rfl dX0_addTailForm_32 ?_
  refine ab_iconst C dX0_addTailForm_34 (by decide) ?_
  refine ab_istore6 (lv := []) C rfl dX0_addTailForm_35 ?_
  refine ab_mem (M2 := upA M (b + 6) (accG p w (tailS n d (M (b + 1)) (M (b + 2)) w 0) (M (b + 6)))) (upA_id (accG_0 (fun x => rfl) hG)) ?_
  refine ab_loop (fun i (_ : Unit) => AJ K S 37 [vP b, vI d, vI w, vI (w % pw n (d - 1)), vI (w / pw n (d - 1)), vI (fsm n (d - 1) + w % pw n (d - 1) * (w % pw n (d - 1) + 1) / 2), vI i] [] (upA M (b + 6) (accG p w (tailS n d (M (b + 1)) (M (b + 2)) w i) (M (b + 6))))) (fun i _ => 0 ≤ i) (w % pw n (d - 1)) ?_ 0 () (by omega) (by omega)
  · intro i _ hi i0 ih
    have A_t_alphabet := A_t_alphabet.upA (k := b + 6) (f := (accG p w (tailS n d (M (b + 1)) (M (b + 2)) w i) (M (b + 6)))) (by omega)
    have e1 : upA M (b + 6) (accG p w (tailS n d (M (b + 1)) (M (b + 2)) w i) (M (b + 6))) (b + 1) = M (b + 1) := upA_row (by omega)
    have e2 : upA M (b + 6) (accG p w (tailS n d (M (b + 1)) (M (b + 2)) w i) (M (b + 6))) (b + 2) = M (b + 2) := upA_row (by omega)
    have e6 : upA M (b + 6) (accG p w (tailS n d (M (b + 1)) (M (b + 2)) w i) (M (b + 6))) (b + 6) = (accG p w (tailS n d (M (b + 1)) (M (b + 2)) w i) (M (b + 6))) := by funext x; exact upA_s
    have ef : upA M (b + 6) (accG p w (tailS n d (M (b + 1)) (M (b + 2)) w i) (M (b + 6))) (b + 1) (fsm n (d - 1) + w % pw n (d - 1) * (w % pw n (d - 1) + 1) / 2 + i) = fmq n (d - 1) (M (b + 1)) (w % pw n (d - 1)) i := by rw [e1]; rfl
    refine ab_iload C dX0_addTailForm_37 rfl ?_
    refine ab_iload_n C dX0_addTailForm_39 rfl rfl ?_
    refine ab_icmp_ge (tgt := 91) C dX0_addTailForm_40 rfl (fun h_40 => ?_) (fun h_40 => ?_)
    · skip
      refine ab_vret (st := []) C r dX0_addTailForm_91 ?_
      have e9 : i = w % pw n (d - 1) := by omega
      rw [e9]
      exact ⟨rfl, rfl⟩
    · skip
      refine ab_aload_n C dX0_addTailForm_43 rfl rfl ?_
      refine gf_RX0_10 C s_t rfl dX0_addTailForm_44 ?_
      refine ab_iload C dX0_addTailForm_47 rfl ?_
      refine ab_iload C dX0_addTailForm_49 rfl ?_
      refine ab_iadd C dX0_addTailForm_51 (by omega) ?_
      refine ab_iaload C s_t_forms (by omega) (by omega) dX0_addTailForm_52 ?_
      refine ab_if_eq (tgt := 85) C dX0_addTailForm_53 rfl (fun h_53 => ?_) (fun h_53 => ?_)
      · skip
        refine ab_iinc6 (lv := []) C rfl dX0_addTailForm_85 (by omega) ?_
        refine ab_goto (tgt := 37) C dX0_addTailForm_88 rfl ?_
        refine ab_mem (M2 := upA M (b + 6) (accG p w (tailS n d (M (b + 1)) (M (b + 2)) w (i + 1)) (M (b + 6)))) ?_ (ih () (by omega) (by omega))
        first
        | (refine upA_ext (fun x => accG_congr (fun y _ _ => ?_) x)
           unfold tailS
           rw [sumF_s i0, ← ef, h_53, Int.zero_mul, Int.add_zero])
        | (rw [ef, e1, e2, e6, upA_upA]
           refine upA_ext (fun x => ?_)
           rw [addR_acc (by omega)]
           refine accG_congr (fun y _ _ => ?_) x
           unfold tailS
           rw [sumF_s i0])
      · skip
        have hf := hT i i0 (by omega)
        rw [← ef] at hf
        refine ab_aload_n C dX0_addTailForm_56 rfl rfl ?_
        refine ab_iload_n C dX0_addTailForm_57 rfl rfl ?_
        refine ab_aload_n C dX0_addTailForm_58 rfl rfl ?_
        refine gf_RX0_36 C s_t rfl dX0_addTailForm_59 ?_
        refine ab_iload C dX0_addTailForm_62 rfl ?_
        refine ab_iload_n C dX0_addTailForm_64 rfl rfl ?_
        refine ab_iconst C dX0_addTailForm_65 (by decide) ?_
        refine ab_isub C dX0_addTailForm_66 (by omega) ?_
        refine ab_iload C dX0_addTailForm_67 rfl ?_
        refine ab_callV C cl_RX0_93 (m_X1_ahead B_t_alphabet A_t_alphabet (by omega) (by omega) (by omega) (by omega) (by omega) (by omega)) (by decide) rfl s_t_alphabet rfl rfl (Nat.le_of_ble_eq_true rfl) dX0_addTailForm_69 (ab_kI (fun r_69 M_69 h_69 => ?_))
        obtain ⟨rfl, rfl⟩ := h_69
        refine ab_aload_n C dX0_addTailForm_72 rfl rfl ?_
        refine gf_RX0_10 C s_t rfl dX0_addTailForm_73 ?_
        refine ab_iload C dX0_addTailForm_76 rfl ?_
        refine ab_iload C dX0_addTailForm_78 rfl ?_
        refine ab_iadd C dX0_addTailForm_80 (by omega) ?_
        refine ab_iaload C s_t_forms (by omega) (by omega) dX0_addTailForm_81 ?_
        refine ab_callV C cl_RX0_154 (m_X0_addRow B_t (by assumption) (by omega) (by omega) (by omega) (by omega) (by omega) (by omega) (by omega) (by omega) (by rw [e6]; exact fun v a b => accG_in p1 a (by omega)) (by rw [e1, e2]; exact fun hz v a b => ⟨((hW _ (by omega) (by omega)).2 hz v a (by omega)).1, ((hW _ (by omega) (by omega)).2 hz v a (by omega)).2.1⟩)) (by decide) rfl s_t rfl rfl (Nat.le_of_ble_eq_true rfl) dX0_addTailForm_82 (ab_kV (fun M_82 h_82 => ?_))
        subst h_82
        refine ab_iinc6 (lv := []) C rfl dX0_addTailForm_85 (by omega) ?_
        refine ab_goto (tgt := 37) C dX0_addTailForm_88 rfl ?_
        refine ab_mem (M2 := upA M (b + 6) (accG p w (tailS n d (M (b + 1)) (M (b + 2)) w (i + 1)) (M (b + 6)))) ?_ (ih () (by omega) (by omega))
        first
        | (refine upA_ext (fun x => accG_congr (fun y _ _ => ?_) x)
           unfold tailS
           rw [sumF_s i0, ← ef, h_53, Int.zero_mul, Int.add_zero])
        | (rw [ef, e1, e2, e6, upA_upA]
           refine upA_ext (fun x => ?_)
           rw [addR_acc (by omega)]
           refine accG_congr (fun y _ _ => ?_) x
           unfold tailS
           rw [sumF_s i0])
set_option maxRecDepth 100000 in
set_option maxHeartbeats 4000000 in
theorem m_X0_addHeadForm {D : va_G} {cA : Nat → ClassId} {S : List AbS} {M : AbM} {b a g : Nat} {n p : Int} (B_t : shAg S b a g) (A_t_alphabet : Al M a n p) (hba : a + 3 < b) (hbg : g + 2 < b) {d w : Int} (h0 : 1 ≤ d) (h1 : d ≤ Lg n) (w0 : 0 ≤ w) (w1 : w < pw n d) {c : Int} (c0 : 0 ≤ c) (c1 : c ≤ 97) (hT : ∀ v, 0 ≤ v → v < w / n → 0 ≤ fmq n (d - 1) (M (b + 1)) (w / n) v ∧ fmq n (d - 1) (M (b + 1)) (w / n) v < p) (hG : ∀ v, 0 ≤ v → v ≤ w → 0 ≤ M (b + 6) v ∧ M (b + 6) v < p) (hW : WF n p d w (M (b + 1)) (M (b + 2))) : Meth yX0_addHeadForm cX0_addHeadForm 8 none rmX0_addHeadForm D cA S [vP b, vI d, vI w, vI c] M (qV fun M2 => upA M (b + 6) (accG p w (headS n d (M (b + 1)) (M (b + 2)) w c (w / n)) (M (b + 6))) = M2) := by
  refine ab_intro (lv := [vP b, vI d, vI w, vI c, vU, vU, vU, vU]) (by decide +kernel) rfl (Nat.le_of_ble_eq_true rfl) ?_
  intro hO hargs K hKD hKA C r
  have C : Cx K cX0_addHeadForm RX0 rmX0_addHeadForm := C
  have i_d : inI d := hargs _ (List.mem_cons_of_mem _ (List.mem_cons_self))
  have i_w : inI w := hargs _ (List.mem_cons_of_mem _ (List.mem_cons_of_mem _ (List.mem_cons_self)))
  have i_c : inI c := hargs _ (List.mem_cons_of_mem _ (List.mem_cons_of_mem _ (List.mem_cons_of_mem _ (List.mem_cons_self))))
  obtain ⟨s_t, s_t_forms, s_t_leading, s_t_normals, s_t_leasts, s_t_middles, s_t_form, B_t_alphabet, B_t_lawList⟩ := id B_t
  obtain ⟨s_t_alphabet, -⟩ := id B_t_alphabet
  obtain ⟨s_t_lawList, -⟩ := id B_t_lawList
  obtain ⟨⟨n1, n2, hPr⟩, -⟩ := id A_t_alphabet
  obtain ⟨p1, p2, -⟩ := id hPr
  have hLB := Lg_B n
  have hB := sz_B n1 n2 (show 0 ≤ d by omega) h1
  have hB2 := sz_B (d := d - 1) n1 n2 (by omega) (by omega)
  obtain ⟨t0, t1, l0, l1, tl⟩ := head_B n1 h0 w0 w1
  have htri := tri_lt t0 t1
  have htn := tri_nn t0
  refine ab_aload_n C dX0_addHeadForm_0 rfl rfl ?_
  refine gf_RX0_36 C s_t rfl dX0_addHeadForm_1 ?_
  refine ab_iload_n C dX0_addHeadForm_4 rfl rfl ?_
  refine ab_callV C cl_RX0_112 (m_X1_withoutLast B_t_alphabet A_t_alphabet (by omega)) (by decide) rfl s_t_alphabet rfl rfl (Nat.le_of_ble_eq_true rfl) dX0_addHeadForm_5 (ab_kI (fun r_5 M_5 h_5 => ?_))
  obtain ⟨rfl, rfl⟩ := h_5
  refine ab_istore4 (lv := []) C rfl dX0_addHeadForm_8 ?_
  refine ab_aload_n C dX0_addHeadForm_10 rfl rfl ?_
  refine gf_RX0_36 C s_t rfl dX0_addHeadForm_11 ?_
  refine ab_iload_n C dX0_addHeadForm_14 rfl rfl ?_
  refine ab_callV C cl_RX0_157 (m_X1_lastLetter B_t_alphabet A_t_alphabet (by omega)) (by decide) rfl s_t_alphabet rfl rfl (Nat.le_of_ble_eq_true rfl) dX0_addHeadForm_15 (ab_kI (fun r_15 M_15 h_15 => ?_))
  obtain ⟨rfl, rfl⟩ := h_15
  refine ab_istore5 (lv := []) C rfl dX0_addHeadForm_18 ?_
  refine ab_aload_n C dX0_addHeadForm_20 rfl rfl ?_
  refine gf_RX0_36 C s_t rfl dX0_addHeadForm_21 ?_
  refine ab_iload_n C dX0_addHeadForm_24 rfl rfl ?_
  refine ab_iconst C dX0_addHeadForm_25 (by decide) ?_
  refine ab_isub C dX0_addHeadForm_26 (by omega) ?_
  refine ab_iload C dX0_addHeadForm_27 rfl ?_
  refine ab_callV C cl_RX0_106 (m_X1_formAt B_t_alphabet A_t_alphabet (by omega) (by omega) (by omega) (by omega)) (by decide) rfl s_t_alphabet rfl rfl (Nat.le_of_ble_eq_true rfl) dX0_addHeadForm_29 (ab_kI (fun r_29 M_29 h_29 => ?_))
  obtain ⟨rfl, rfl⟩ := h_29
  refine ab_istore6 (lv := []) C rfl dX0_addHeadForm_32 ?_
  refine ab_iconst C dX0_addHeadForm_34 (by decide) ?_
  refine ab_istore7 (lv := []) C rfl dX0_addHeadForm_35 ?_
  refine ab_mem (M2 := upA M (b + 6) (accG p w (headS n d (M (b + 1)) (M (b + 2)) w c 0) (M (b + 6)))) (upA_id (accG_0 (fun x => rfl) hG)) ?_
  refine ab_loop (fun i (_ : Unit) => AJ K S 37 [vP b, vI d, vI w, vI c, vI (w / n), vI (w % n), vI (fsm n (d - 1) + w / n * (w / n + 1) / 2), vI i] [] (upA M (b + 6) (accG p w (headS n d (M (b + 1)) (M (b + 2)) w c i) (M (b + 6))))) (fun i _ => 0 ≤ i) (w / n) ?_ 0 () (by omega) (by omega)
  · intro i _ hi i0 ih
    have A_t_alphabet := A_t_alphabet.upA (k := b + 6) (f := (accG p w (headS n d (M (b + 1)) (M (b + 2)) w c i) (M (b + 6)))) (by omega)
    have e1 : upA M (b + 6) (accG p w (headS n d (M (b + 1)) (M (b + 2)) w c i) (M (b + 6))) (b + 1) = M (b + 1) := upA_row (by omega)
    have e2 : upA M (b + 6) (accG p w (headS n d (M (b + 1)) (M (b + 2)) w c i) (M (b + 6))) (b + 2) = M (b + 2) := upA_row (by omega)
    have e6 : upA M (b + 6) (accG p w (headS n d (M (b + 1)) (M (b + 2)) w c i) (M (b + 6))) (b + 6) = (accG p w (headS n d (M (b + 1)) (M (b + 2)) w c i) (M (b + 6))) := by funext x; exact upA_s
    have ef : upA M (b + 6) (accG p w (headS n d (M (b + 1)) (M (b + 2)) w c i) (M (b + 6))) (b + 1) (fsm n (d - 1) + w / n * (w / n + 1) / 2 + i) = fmq n (d - 1) (M (b + 1)) (w / n) i := by rw [e1]; rfl
    have hin : i < w / n → i * n + w % n < w := fun z => by
      have h8 : (i + 1) * n ≤ w / n * n := Int.mul_le_mul_of_nonneg_right (by omega) (by omega)
      rw [Int.add_mul, Int.one_mul] at h8
      omega
    have hin0 : 0 ≤ i * n := Int.mul_nonneg i0 (by omega)
    refine ab_iload C dX0_addHeadForm_37 rfl ?_
    refine ab_iload C dX0_addHeadForm_39 rfl ?_
    refine ab_icmp_ge (tgt := 91) C dX0_addHeadForm_41 rfl (fun h_41 => ?_) (fun h_41 => ?_)
    · skip
      refine ab_vret (st := []) C r dX0_addHeadForm_91 ?_
      have e9 : i = w / n := by omega
      rw [e9]
      exact ⟨rfl, rfl⟩
    · skip
      refine ab_aload_n C dX0_addHeadForm_44 rfl rfl ?_
      refine gf_RX0_10 C s_t rfl dX0_addHeadForm_45 ?_
      refine ab_iload C dX0_addHeadForm_48 rfl ?_
      refine ab_iload C dX0_addHeadForm_50 rfl ?_
      refine ab_iadd C dX0_addHeadForm_52 (by omega) ?_
      refine ab_iaload C s_t_forms (by omega) (by omega) dX0_addHeadForm_53 ?_
      refine ab_if_eq (tgt := 85) C dX0_addHeadForm_54 rfl (fun h_54 => ?_) (fun h_54 => ?_)
      · skip
        refine ab_iinc7 (lv := []) C rfl dX0_addHeadForm_85 (by omega) ?_
        refine ab_goto (tgt := 37) C dX0_addHeadForm_88 rfl ?_
        refine ab_mem (M2 := upA M (b + 6) (accG p w (headS n d (M (b + 1)) (M (b + 2)) w c (i + 1)) (M (b + 6)))) ?_ (ih () (by omega) (by omega))
        first
        | (refine upA_ext (fun x => accG_congr (fun y _ _ => ?_) x)
           unfold headS
           rw [sumF_s i0, ← ef, h_54, Int.zero_mul, Int.zero_mul, Int.add_zero])
        | (rw [ef, e1, e2, e6, upA_upA]
           refine upA_ext (fun x => ?_)
           rw [addR_acc (by omega)]
           refine accG_congr (fun y _ _ => ?_) x
           unfold headS
           rw [sumF_s i0])
      · skip
        have hf := hT i i0 (by omega)
        rw [← ef] at hf
        have hin2 := hin (by omega)
        have hm : 0 ≤ upA M (b + 6) (accG p w (headS n d (M (b + 1)) (M (b + 2)) w c i) (M (b + 6))) (b + 1) (fsm n (d - 1) + w / n * (w / n + 1) / 2 + i) * c ∧ upA M (b + 6) (accG p w (headS n d (M (b + 1)) (M (b + 2)) w c i) (M (b + 6))) (b + 1) (fsm n (d - 1) + w / n * (w / n + 1) / 2 + i) * c ≤ 97 * 97 := ⟨Int.mul_nonneg (by omega) (by omega), Int.mul_le_mul (by omega) (by omega) (by omega) (by omega)⟩
        refine ab_aload_n C dX0_addHeadForm_57 rfl rfl ?_
        refine ab_iload_n C dX0_addHeadForm_58 rfl rfl ?_
        refine ab_aload_n C dX0_addHeadForm_59 rfl rfl ?_
        refine gf_RX0_36 C s_t rfl dX0_addHeadForm_60 ?_
        refine ab_iload C dX0_addHeadForm_63 rfl ?_
        refine ab_iload C dX0_addHeadForm_65 rfl ?_
        refine ab_callV C cl_RX0_96 (m_X1_behind B_t_alphabet A_t_alphabet (by omega) (by omega) (by omega) (by omega)) (by decide) rfl s_t_alphabet rfl rfl (Nat.le_of_ble_eq_true rfl) dX0_addHeadForm_67 (ab_kI (fun r_67 M_67 h_67 => ?_))
        obtain ⟨rfl, rfl⟩ := h_67
        refine ab_aload_n C dX0_addHeadForm_70 rfl rfl ?_
        refine gf_RX0_10 C s_t rfl dX0_addHeadForm_71 ?_
        refine ab_iload C dX0_addHeadForm_74 rfl ?_
        refine ab_iload C dX0_addHeadForm_76 rfl ?_
        refine ab_iadd C dX0_addHeadForm_78 (by omega) ?_
        refine ab_iaload C s_t_forms (by omega) (by omega) dX0_addHeadForm_79 ?_
        refine ab_iload_n C dX0_addHeadForm_80 rfl rfl ?_
        refine ab_imul C dX0_addHeadForm_81 (by omega) ?_
        refine ab_callV C cl_RX0_154 (m_X0_addRow B_t (by assumption) (by omega) (by omega) (by omega) (by omega) (by omega) (by omega) (by omega) (by omega) (by rw [e6]; exact fun v a b => accG_in p1 a (by omega)) (by rw [e1, e2]; exact fun hz v a b => ⟨((hW _ (by omega) (by omega)).2 hz v a (by omega)).1, ((hW _ (by omega) (by omega)).2 hz v a (by omega)).2.1⟩)) (by decide) rfl s_t rfl rfl (Nat.le_of_ble_eq_true rfl) dX0_addHeadForm_82 (ab_kV (fun M_82 h_82 => ?_))
        subst h_82
        refine ab_iinc7 (lv := []) C rfl dX0_addHeadForm_85 (by omega) ?_
        refine ab_goto (tgt := 37) C dX0_addHeadForm_88 rfl ?_
        refine ab_mem (M2 := upA M (b + 6) (accG p w (headS n d (M (b + 1)) (M (b + 2)) w c (i + 1)) (M (b + 6)))) ?_ (ih () (by omega) (by omega))
        first
        | (refine upA_ext (fun x => accG_congr (fun y _ _ => ?_) x)
           unfold headS
           rw [sumF_s i0, ← ef, h_54, Int.zero_mul, Int.zero_mul, Int.add_zero])
        | (rw [ef, e1, e2, e6, upA_upA]
           refine upA_ext (fun x => ?_)
           rw [addR_acc (by omega)]
           refine accG_congr (fun y _ _ => ?_) x
           unfold headS
           rw [sumF_s i0])
