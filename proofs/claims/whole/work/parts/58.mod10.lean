set_option maxRecDepth 100000 in
set_option maxHeartbeats 4000000 in
theorem m_X9_next {D : va_G} {cA : Nat → ClassId} {S : List AbS} {M : AbM} {m : Nat} (B_t : shMo S m) (h0 : 0 ≤ M m 12) (h1 : M m 12 ≤ M m 11) (h2 : M m 11 ≤ 80) : Meth yX9_next cX9_next 1 (some .int) rmX9_next D cA S [vP m] M (qI fun q M2 => ∃ j, (M m 12 ≤ j ∧ j ≤ M m 11) ∧ (∀ k, M m 12 ≤ k → k < j → M (m + 7) k = 32) ∧ (j < M m 11 → M (m + 7) j ≠ 32) ∧ up M m 12 j = M2 ∧ (if j < M m 11 then M (m + 7) j else -1) = q) := by
  refine ab_intro (lv := [vP m]) (by decide +kernel) rfl (Nat.le_of_ble_eq_true rfl) ?_
  intro hO hargs K hKD hKA C r
  have C : Cx K cX9_next RX9 rmX9_next := C
  obtain ⟨s_t, s_t_words, s_t_begins, s_t_squares, s_t_lengths, s_t_numbers, s_t_made, s_t_tape, s_t_rows, s_t_leads, s_t_otherRows, s_t_otherLeads, s_t_row, s_t_equations, s_t_firsts, s_t_sum, s_t_lanes, s_t_sizes, s_t_items⟩ := id B_t
  refine ab_mem (M2 := up M m 12 (M m 12)) up_id.symm ?_
  refine ab_loop (fun j (_ : Unit) => AJ K S 0 [vP m] [] (up M m 12 j)) (fun j _ => M m 12 ≤ j ∧ ∀ k, M m 12 ≤ k → k < j → M (m + 7) k = 32) (M m 11) ?_ (M m 12) () (by omega) ⟨by omega, fun k a b => by omega⟩
  · intro j _ hj hI ih
    obtain ⟨j0, hsp⟩ := hI
    have s12 : up M m 12 j m 12 = j := up_s
    have s11 : up M m 12 j m 11 = M m 11 := up_i (by decide)
    have s7 : ∀ x, up M m 12 j (m + 7) x = M (m + 7) x := fun x => up_k (by omega)
    refine ab_aload_n C dX9_next_0 rfl rfl ?_
    refine gf_RX9_107 C s_t rfl dX9_next_1 ?_
    rw [s12]
    refine ab_aload_n C dX9_next_4 rfl rfl ?_
    refine gf_RX9_104 C s_t rfl dX9_next_5 ?_
    rw [s11]
    refine ab_icmp_ge (tgt := 38) C dX9_next_8 rfl (fun h_8 => ?_) (fun h_8 => ?_)
    · skip
      refine ab_aload_n C dX9_next_38 rfl rfl ?_
      refine gf_RX9_107 C s_t rfl dX9_next_39 ?_
      rw [s12]
      refine ab_aload_n C dX9_next_42 rfl rfl ?_
      refine gf_RX9_104 C s_t rfl dX9_next_43 ?_
      rw [s11]
      refine ab_icmp_ge (tgt := 61) C dX9_next_46 rfl (fun h_46 => ?_) (fun h_46 => ?_)
      · skip
        refine ab_iconst C dX9_next_61 (by decide) ?_
        refine ab_iret (st := []) C r dX9_next_62 ?_
        refine ⟨_, rfl, j, ⟨j0, by omega⟩, hsp, ?_, rfl, ?_⟩
        · intro z; first | exact h_22 | (exfalso; omega)
        · first | exact if_pos (by omega) | exact if_neg (by omega)
      · skip
        refine ab_aload_n C dX9_next_49 rfl rfl ?_
        refine gf_RX9_38 C s_t rfl dX9_next_50 ?_
        refine ab_aload_n C dX9_next_53 rfl rfl ?_
        refine gf_RX9_107 C s_t rfl dX9_next_54 ?_
        rw [s12]
        refine ab_iaload C s_t_tape (by omega) (by omega) dX9_next_57 ?_
        rw [s7]
        refine ab_goto (tgt := 62) C dX9_next_58 rfl ?_
        refine ab_iret (st := []) C r dX9_next_62 ?_
        refine ⟨_, rfl, j, ⟨j0, by omega⟩, hsp, ?_, rfl, ?_⟩
        · intro z; first | exact h_22 | (exfalso; omega)
        · first | exact if_pos (by omega) | exact if_neg (by omega)
    · skip
      refine ab_aload_n C dX9_next_11 rfl rfl ?_
      refine gf_RX9_38 C s_t rfl dX9_next_12 ?_
      refine ab_aload_n C dX9_next_15 rfl rfl ?_
      refine gf_RX9_107 C s_t rfl dX9_next_16 ?_
      rw [s12]
      refine ab_iaload C s_t_tape (by omega) (by omega) dX9_next_19 ?_
      rw [s7]
      refine ab_bipush C dX9_next_20 (by decide) (by decide +kernel) ?_
      refine ab_icmp_ne (tgt := 38) C dX9_next_22 rfl (fun h_22 => ?_) (fun h_22 => ?_)
      · skip
        refine ab_aload_n C dX9_next_38 rfl rfl ?_
        refine gf_RX9_107 C s_t rfl dX9_next_39 ?_
        rw [s12]
        refine ab_aload_n C dX9_next_42 rfl rfl ?_
        refine gf_RX9_104 C s_t rfl dX9_next_43 ?_
        rw [s11]
        refine ab_icmp_ge (tgt := 61) C dX9_next_46 rfl (fun h_46 => ?_) (fun h_46 => ?_)
        · skip
          refine ab_iconst C dX9_next_61 (by decide) ?_
          refine ab_iret (st := []) C r dX9_next_62 ?_
          refine ⟨_, rfl, j, ⟨j0, by omega⟩, hsp, ?_, rfl, ?_⟩
          · intro z; first | exact h_22 | (exfalso; omega)
          · first | exact if_pos (by omega) | exact if_neg (by omega)
        · skip
          refine ab_aload_n C dX9_next_49 rfl rfl ?_
          refine gf_RX9_38 C s_t rfl dX9_next_50 ?_
          refine ab_aload_n C dX9_next_53 rfl rfl ?_
          refine gf_RX9_107 C s_t rfl dX9_next_54 ?_
          rw [s12]
          refine ab_iaload C s_t_tape (by omega) (by omega) dX9_next_57 ?_
          rw [s7]
          refine ab_goto (tgt := 62) C dX9_next_58 rfl ?_
          refine ab_iret (st := []) C r dX9_next_62 ?_
          refine ⟨_, rfl, j, ⟨j0, by omega⟩, hsp, ?_, rfl, ?_⟩
          · intro z; first | exact h_22 | (exfalso; omega)
          · first | exact if_pos (by omega) | exact if_neg (by omega)
      · skip
        refine ab_aload_n C dX9_next_25 rfl rfl ?_
        refine ab_dup C dX9_next_26 rfl ?_
        refine gf_RX9_107 C s_t rfl dX9_next_27 ?_
        rw [s12]
        refine ab_iconst C dX9_next_30 (by decide) ?_
        refine ab_iadd C dX9_next_31 (by omega) ?_
        refine pf_RX9_107 C s_t rfl dX9_next_32 ?_
        refine ab_goto (tgt := 0) C dX9_next_35 rfl ?_
        rw [up_up]
        exact ih () (by omega) ⟨by omega, fun k a b => by
          rcases (show k < j ∨ k = j by omega) with q | q
          · exact hsp k a q
          · rw [q]; exact h_22⟩
set_option maxRecDepth 100000 in
set_option maxHeartbeats 4000000 in
theorem m_X9_readTerm {D : va_G} {cA : Nat → ClassId} {S : List AbS} {M : AbM} {m : Nat} {n p : Int} (B_t : shMo S m) (A_t : MoA M m n p) {np g : Int} (h2 : M m 11 ≤ 80) (hb : ∀ i, 0 ≤ i → i < M m 11 → 32 ≤ M (m + 7) i ∧ M (m + 7) i ≤ 126) (hP : QP n p (M (m + 7)) np (M m 11) (M m 12) g (M (m + 6))) : Meth yX9_readTerm cX9_readTerm 9 (some .boolean) rmX9_readTerm D cA S [vP m, vI g] M (qI fun q M2 => same [m, m + 6] M M2 ∧ (∀ j, j ≠ 12 → M2 m j = M m j) ∧ M m 12 ≤ M2 m 12 ∧ ((q = 1 ∧ QE n p (M (m + 7)) np (M m 11) (M2 m 12) (M2 (m + 6))) ∨ (q = 0 ∧ QB n p (M (m + 7)) np (M m 11) (M2 m 12)))) := by
  refine ab_intro (lv := [vP m, vI g, vU, vU, vU, vU, vU, vU, vU]) (by decide +kernel) rfl (Nat.le_of_ble_eq_true rfl) ?_
  intro hO hargs K hKD hKA C r
  have C : Cx K cX9_readTerm RX9 rmX9_readTerm := C
  have i_g : inI g := hargs _ (List.mem_cons_of_mem _ (List.mem_cons_self))
  obtain ⟨s_t, s_t_words, s_t_begins, s_t_squares, s_t_lengths, s_t_numbers, s_t_made, s_t_tape, s_t_rows, s_t_leads, s_t_otherRows, s_t_otherLeads, s_t_row, s_t_equations, s_t_firsts, s_t_sum, s_t_lanes, s_t_sizes, s_t_items⟩ := id B_t
  obtain ⟨⟨n1, n2, hPr⟩, m_n, m_p, m_L, m_w⟩ := id A_t
  obtain ⟨p1, p2, -⟩ := id hPr
  have hLB := Lg_B n
  obtain ⟨hi0, hi1, hg, ⟨s, a0, V, hQ, hs, hMV⟩, hM0⟩ := id hP
  have SM : ∀ x, same [m, m + 6] M (up M m 12 x) ∧ ∀ j, j ≠ 12 → up M m 12 x m j = M m j := fun x => ⟨same_up (by simp), fun j hj => up_i hj⟩
  refine ab_aload_n C dX9_readTerm_0 rfl rfl ?_
  refine ab_callV C cl_RX9_110 (m_X9_next B_t hi0 hi1 h2) (by decide) rfl s_t rfl rfl (Nat.le_of_ble_eq_true rfl) dX9_readTerm_1 (ab_kI (fun r_1 M_1 h_1 => ?_))
  obtain ⟨f, ⟨f0, f1⟩, fsp, f32, rfl, rfl⟩ := h_1
  have s12 : up M m 12 f m 12 = f := up_s
  have s11 : up M m 12 f m 11 = M m 11 := up_i (by decide)
  have s7 : ∀ x, up M m 12 f (m + 7) x = M (m + 7) x := fun x => up_k (by omega)
  have t7 : up M m 12 f (m + 7) = M (m + 7) := up_row (by omega)
  have sn : up M m 12 f m 0 = n := by rw [up_i (by decide), m_n]
  have sp_ : up M m 12 f m 1 = p := by rw [up_i (by decide), m_p]
  have sL : up M m 12 f m 2 = Lg n := by rw [up_i (by decide), m_L]
  have s6 : up M m 12 f (m + 6) = M (m + 6) := up_row (by omega)
  have s2 : up M m 12 f (m + 2) = M (m + 2) := up_row (by omega)
  have hQf : runR n p (M (m + 7)) np f.toNat = (-1, (s, g, 1, a0, 0, 0), V) := q_sps hi0 f0 fsp hQ (by omega)
  have hsf : s = 1 ∨ (s = 0 ∧ (f < M m 11 → (M (m + 7)) f ≠ 45)) := hs.imp (fun z => z) (fun z => ⟨z.1, fun y => by
    have e : f = M m 12 := by
      rcases (show f = M m 12 ∨ M m 12 < f by omega) with q | q
      · exact q
      · exact absurd (fsp (M m 12) (by omega) q) (z.2 (by omega)).2
    rw [e] at y ⊢
    exact (z.2 y).1⟩)
  obtain ⟨c, hc⟩ : ∃ c, (if f < M m 11 then M (m + 7) f else -1) = c := ⟨_, rfl⟩
  rw [hc]
  have cB : -1 ≤ c ∧ c ≤ 126 := by
    rw [← hc]
    split
    · have := hb f (by omega) (by assumption); omega
    · omega
  refine ab_istore2 (lv := []) C rfl dX9_readTerm_4 ?_
  refine ab_aload_n C dX9_readTerm_5 rfl rfl ?_
  refine gf_RX9_107 C s_t rfl dX9_readTerm_6 ?_
  rw [s12]
  refine ab_istore3 (lv := []) C rfl dX9_readTerm_9 ?_
  refine ab_iload_n C dX9_readTerm_10 rfl rfl ?_
  refine ab_i2l C dX9_readTerm_11 ?_
  refine ab_ldc2 (n := 48) C gw803 dX9_readTerm_12 (by decide) (by decide +kernel) ?_
  refine ab_ldc2 (n := 57) C gw804 dX9_readTerm_15 (by decide) (by decide +kernel) ?_
  refine ab_callS C cl_RX9_90 (m_X9_in) (by decide) rfl rfl (Nat.le_of_ble_eq_true rfl) dX9_readTerm_18 (ab_kI (fun r_18 M_18 h_18 => ?_))
  obtain ⟨rfl, rfl⟩ := h_18
  obtain ⟨h, hh⟩ : ∃ h, (if 48 ≤ c ∧ c ≤ 57 then (1 : Int) else 0) = h := ⟨_, rfl⟩
  rw [hh]
  have hD0 : QD n p (M (m + 7)) np (M m 11) V g f f (if h = 0 then 1 else 0) h := by
    refine ⟨⟨by omega, by omega, f1, f32⟩, by split <;> omega, Or.inl ⟨s, a0, hsf, hQf, rfl, ?_⟩⟩
    by_cases z : 48 ≤ c ∧ c ≤ 57
    · right
      rw [if_pos z] at hh
      have y : f < M m 11 := by
        by_cases y : f < M m 11
        · exact y
        · rw [if_neg y] at hc; omega
      rw [if_pos y] at hc
      exact ⟨hh.symm, if_neg (by omega), y, by rw [hc]; exact z⟩
    · left
      rw [if_neg z] at hh
      refine ⟨hh.symm, if_pos hh.symm, fun y => z ?_⟩
      rw [if_pos y.1] at hc
      rw [← hc]
      exact y.2
  have hh01 : h = 0 ∨ h = 1 := by rw [← hh]; split <;> omega
  refine ab_istore4 (lv := []) C rfl dX9_readTerm_21 ?_
  refine ab_iload C dX9_readTerm_23 rfl ?_
  refine ab_if_eq (tgt := 32) C dX9_readTerm_25 rfl (fun h_25 => ?_) (fun h_25 => ?_)
  · skip
    rw [if_pos h_25] at hD0
    refine ab_iconst C dX9_readTerm_32 (by decide) ?_
    refine ab_istore5 (lv := []) C rfl dX9_readTerm_33 ?_
    refine ab_loop (fun a (v : Int) => AJ K S 35 [vP m, vI g, vI c, vI f, vI h, vI v, vU, vU, vU] [] (up M m 12 a)) (fun a v => QD n p (M (m + 7)) np (M m 11) V g f a v h) (M m 11) ?_ f _ (by omega) hD0
    · intro a v ha hD ih
      have hD1 := hD.1
      have hD2 := hD.2.1
      clear s12 s11 s7 t7 sn sp_ sL s6 s2
      have s12 : up M m 12 a m 12 = a := up_s
      have s11 : up M m 12 a m 11 = M m 11 := up_i (by decide)
      have s7 : ∀ x, up M m 12 a (m + 7) x = M (m + 7) x := fun x => up_k (by omega)
      have t7 : up M m 12 a (m + 7) = M (m + 7) := up_row (by omega)
      have sn : up M m 12 a m 0 = n := by rw [up_i (by decide), m_n]
      have sp_ : up M m 12 a m 1 = p := by rw [up_i (by decide), m_p]
      have sL : up M m 12 a m 2 = Lg n := by rw [up_i (by decide), m_L]
      have s6 : up M m 12 a (m + 6) = M (m + 6) := up_row (by omega)
      have s2 : up M m 12 a (m + 2) = M (m + 2) := up_row (by omega)
      refine ab_aload_n C dX9_readTerm_35 rfl rfl ?_
      refine gf_RX9_107 C s_t rfl dX9_readTerm_36 ?_
      rw [s12]
      refine ab_aload_n C dX9_readTerm_39 rfl rfl ?_
      refine gf_RX9_104 C s_t rfl dX9_readTerm_40 ?_
      rw [s11]
      refine ab_icmp_ge (tgt := 114) C dX9_readTerm_43 rfl (fun h_43 => ?_) (fun h_43 => ?_)
      · skip
        refine ab_iload C dX9_readTerm_114 rfl ?_
        refine ab_sipush C dX9_readTerm_116 (by decide) (by decide +kernel) ?_
        refine ab_icmp_le (tgt := 129) C dX9_readTerm_119 rfl (fun h_119 => ?_) (fun h_119 => ?_)
        · skip
          refine ab_iconst C dX9_readTerm_129 (by decide) ?_
          refine ab_istore6 (lv := []) C rfl dX9_readTerm_130 ?_
          refine ab_iconst C dX9_readTerm_132 (by decide) ?_
          refine ab_istore7 (lv := []) C rfl dX9_readTerm_133 ?_
          refine ab_aload_n C dX9_readTerm_135 rfl rfl ?_
          refine ab_callV C cl_RX9_110 (m_X9_next B_t (by rw [s12]; omega) (by rw [s12, s11]; omega) (by rw [s11]; omega)) (by decide) rfl s_t rfl rfl (Nat.le_of_ble_eq_true rfl) dX9_readTerm_136 (ab_kI (fun r_136 M_136 h_136 => ?_))
          obtain ⟨b, ⟨b0, b1⟩, bsp, b32, rfl, rfl⟩ := h_136
          rw [s12] at b0 bsp
          rw [s11] at b1 b32 ⊢
          rw [t7] at bsp b32 ⊢
          rw [up_up]
          have hTm := QD_x n1 hD (fun z y => by first | omega | exact (b01_eq h_65) (by obtain ⟨y1, y2⟩ := y; omega)) (by omega) b0 b1 bsp b32
          refine ab_istore2 (lv := []) C rfl dX9_readTerm_139 ?_
          refine ab_loopM (fun (y : Int × Int × Int) => AJ K S 140 [vP m, vI g, vI (if y.1 < M m 11 then M (m + 7) y.1 else -1), vI f, vI h, vI v, vI y.2.1, vI y.2.2, vU] [] (up M m 12 y.1)) (fun y => M m 12 ≤ y.1 ∧ QT n p (M (m + 7)) np (M m 11) V g y.1 h v y.2.1 y.2.2) (fun y => (M m 11 - y.1).toNat) ?_ (b, 0, 0) ⟨by dsimp only; omega, hTm⟩
          · clear hTm
            intro y hI2 ih2
            obtain ⟨b, d, w⟩ := y
            obtain ⟨hmo, hTm⟩ := hI2
            dsimp only at hmo hTm ih2 ⊢
            have hT1 := hTm.1
            clear s12 s11 s7 t7 sn sp_ sL s6 s2
            have s12 : up M m 12 b m 12 = b := up_s
            have s11 : up M m 12 b m 11 = M m 11 := up_i (by decide)
            have s7 : ∀ x, up M m 12 b (m + 7) x = M (m + 7) x := fun x => up_k (by omega)
            have t7 : up M m 12 b (m + 7) = M (m + 7) := up_row (by omega)
            have sn : up M m 12 b m 0 = n := by rw [up_i (by decide), m_n]
            have sp_ : up M m 12 b m 1 = p := by rw [up_i (by decide), m_p]
            have sL : up M m 12 b m 2 = Lg n := by rw [up_i (by decide), m_L]
            have s6 : up M m 12 b (m + 6) = M (m + 6) := up_row (by omega)
            have s2 : up M m 12 b (m + 2) = M (m + 2) := up_row (by omega)
            have cB2 : -1 ≤ (if b < M m 11 then M (m + 7) b else -1) ∧ (if b < M m 11 then M (m + 7) b else -1) ≤ 126 := by
              split
              · have := hb b (by omega) (by assumption); omega
              · omega
            refine ab_iload_n C dX9_readTerm_140 rfl rfl ?_
            refine ab_i2l C dX9_readTerm_141 ?_
            refine ab_ldc2 (n := 97) C gw809 dX9_readTerm_142 (by decide) (by decide +kernel) ?_
            refine ab_bipush C dX9_readTerm_145 (by decide) (by decide +kernel) ?_
            refine ab_aload_n C dX9_readTerm_147 rfl rfl ?_
            refine gf_RX9_7 C s_t rfl dX9_readTerm_148 ?_
            rw [sn]
            refine ab_iadd C dX9_readTerm_151 (by omega) ?_
            refine ab_iconst C dX9_readTerm_152 (by decide) ?_
            refine ab_isub C dX9_readTerm_153 (by omega) ?_
            refine ab_i2l C dX9_readTerm_154 ?_
            refine ab_callS C cl_RX9_90 (m_X9_in) (by decide) rfl rfl (Nat.le_of_ble_eq_true rfl) dX9_readTerm_155 (ab_kI (fun r_155 M_155 h_155 => ?_))
            obtain ⟨rfl, rfl⟩ := h_155
            refine ab_if_eq (tgt := 207) C dX9_readTerm_158 rfl (fun h_158 => ?_) (fun h_158 => ?_)
            · skip
              have hnl := b01_eq h_158
              refine ab_iload C dX9_readTerm_207 rfl ?_
              refine ab_if_ne (tgt := 219) C dX9_readTerm_209 rfl (fun h_209 => ?_) (fun h_209 => ?_)
              · skip
                refine ab_aload_n C dX9_readTerm_219 rfl rfl ?_
                have hnl2 : b < M m 11 → ¬ (97 ≤ (M (m + 7)) b ∧ (M (m + 7)) b ≤ 97 + n - 1) := fun y z => by
                  rw [if_pos y] at hnl
                  exact hnl z
                have hdB := hTm.2.2.1
                have hB := sz_B n1 n2 hdB.1 hdB.2.1
                obtain ⟨e_w, e_b, -⟩ := m_w d hdB.1 hdB.2.1
                have hvB := hTm.2.1
                have hx := hMV (wsm n d + w) (by omega) (by omega)
                have hvp := emod_in (a := v) p1
                have hgv : -97 ≤ g * (v % p) ∧ g * (v % p) ≤ 97 ∧ -p < g * (v % p) := by
                  rcases hg with q | q <;> rw [q]
                  · rw [Int.one_mul]; omega
                  · rw [Int.neg_one_mul]; omega
                refine gf_RX9_23 C s_t rfl dX9_readTerm_220 ?_
                refine ab_iload C dX9_readTerm_223 rfl ?_
                refine ab_iaload C s_t_begins (by omega) (by omega) dX9_readTerm_225 ?_
                rw [s2, e_b]
                refine ab_iload C dX9_readTerm_226 rfl ?_
                refine ab_iadd C dX9_readTerm_228 (by omega) ?_
                refine ab_istore8 (lv := []) C rfl dX9_readTerm_229 ?_
                refine ab_aload_n C dX9_readTerm_231 rfl rfl ?_
                refine gf_RX9_35 C s_t rfl dX9_readTerm_232 ?_
                refine ab_iload C dX9_readTerm_235 rfl ?_
                refine ab_aload_n C dX9_readTerm_237 rfl rfl ?_
                refine gf_RX9_35 C s_t rfl dX9_readTerm_238 ?_
                refine ab_iload C dX9_readTerm_241 rfl ?_
                refine ab_iaload C s_t_made (by omega) (by omega) dX9_readTerm_243 ?_
                rw [s6]
                refine ab_iload_n C dX9_readTerm_244 rfl rfl ?_
                refine ab_iload C dX9_readTerm_245 rfl ?_
                refine ab_aload_n C dX9_readTerm_247 rfl rfl ?_
                refine gf_RX9_13 C s_t rfl dX9_readTerm_248 ?_
                rw [sp_]
                refine ab_irem C dX9_readTerm_251 (by omega) (by omega) ?_
                refine ab_imul C dX9_readTerm_252 (by omega) ?_
                refine ab_iadd C dX9_readTerm_253 (by omega) ?_
                refine ab_aload_n C dX9_readTerm_254 rfl rfl ?_
                refine gf_RX9_13 C s_t rfl dX9_readTerm_255 ?_
                rw [sp_]
                refine ab_iadd C dX9_readTerm_258 (by omega) ?_
                refine ab_aload_n C dX9_readTerm_259 rfl rfl ?_
                refine gf_RX9_13 C s_t rfl dX9_readTerm_260 ?_
                rw [sp_]
                refine ab_irem C dX9_readTerm_263 (by omega) (by omega) ?_
                refine ab_iastore C s_t_made (by omega) (by omega) dX9_readTerm_264 ?_
                refine ab_iconst C dX9_readTerm_265 (by decide) ?_
                refine ab_zret (st := []) C r (by decide) dX9_readTerm_266 ?_
                refine ⟨_, rfl, same_tr (SM b).1 (same_up (by simp)), fun j hj => by rw [up_k (by omega)]; exact (SM b).2 j hj, by rw [up_k (by omega), up_s]; omega, Or.inl ⟨rfl, ?_⟩⟩
                rw [up_k (by omega), up_s]
                refine QT_end (Md := M (m + 6)) p1 n1 n2 hg hTm hnl2 (by omega) hMV hM0 (fun j => ?_)
                by_cases q : j = wsm n d + w
                · rw [if_pos q, q, up_s]
                · rw [if_neg q, up_i q, s6]
              · skip
                refine ab_iload C dX9_readTerm_212 rfl ?_
                refine ab_if_ne (tgt := 219) C dX9_readTerm_214 rfl (fun h_214 => ?_) (fun h_214 => ?_)
                · skip
                  refine ab_aload_n C dX9_readTerm_219 rfl rfl ?_
                  have hnl2 : b < M m 11 → ¬ (97 ≤ (M (m + 7)) b ∧ (M (m + 7)) b ≤ 97 + n - 1) := fun y z => by
                    rw [if_pos y] at hnl
                    exact hnl z
                  have hdB := hTm.2.2.1
                  have hB := sz_B n1 n2 hdB.1 hdB.2.1
                  obtain ⟨e_w, e_b, -⟩ := m_w d hdB.1 hdB.2.1
                  have hvB := hTm.2.1
                  have hx := hMV (wsm n d + w) (by omega) (by omega)
                  have hvp := emod_in (a := v) p1
                  have hgv : -97 ≤ g * (v % p) ∧ g * (v % p) ≤ 97 ∧ -p < g * (v % p) := by
                    rcases hg with q | q <;> rw [q]
                    · rw [Int.one_mul]; omega
                    · rw [Int.neg_one_mul]; omega
                  refine gf_RX9_23 C s_t rfl dX9_readTerm_220 ?_
                  refine ab_iload C dX9_readTerm_223 rfl ?_
                  refine ab_iaload C s_t_begins (by omega) (by omega) dX9_readTerm_225 ?_
                  rw [s2, e_b]
                  refine ab_iload C dX9_readTerm_226 rfl ?_
                  refine ab_iadd C dX9_readTerm_228 (by omega) ?_
                  refine ab_istore8 (lv := []) C rfl dX9_readTerm_229 ?_
                  refine ab_aload_n C dX9_readTerm_231 rfl rfl ?_
                  refine gf_RX9_35 C s_t rfl dX9_readTerm_232 ?_
                  refine ab_iload C dX9_readTerm_235 rfl ?_
                  refine ab_aload_n C dX9_readTerm_237 rfl rfl ?_
                  refine gf_RX9_35 C s_t rfl dX9_readTerm_238 ?_
                  refine ab_iload C dX9_readTerm_241 rfl ?_
                  refine ab_iaload C s_t_made (by omega) (by omega) dX9_readTerm_243 ?_
                  rw [s6]
                  refine ab_iload_n C dX9_readTerm_244 rfl rfl ?_
                  refine ab_iload C dX9_readTerm_245 rfl ?_
                  refine ab_aload_n C dX9_readTerm_247 rfl rfl ?_
                  refine gf_RX9_13 C s_t rfl dX9_readTerm_248 ?_
                  rw [sp_]
                  refine ab_irem C dX9_readTerm_251 (by omega) (by omega) ?_
                  refine ab_imul C dX9_readTerm_252 (by omega) ?_
                  refine ab_iadd C dX9_readTerm_253 (by omega) ?_
                  refine ab_aload_n C dX9_readTerm_254 rfl rfl ?_
                  refine gf_RX9_13 C s_t rfl dX9_readTerm_255 ?_
                  rw [sp_]
                  refine ab_iadd C dX9_readTerm_258 (by omega) ?_
                  refine ab_aload_n C dX9_readTerm_259 rfl rfl ?_
                  refine gf_RX9_13 C s_t rfl dX9_readTerm_260 ?_
                  rw [sp_]
                  refine ab_irem C dX9_readTerm_263 (by omega) (by omega) ?_
                  refine ab_iastore C s_t_made (by omega) (by omega) dX9_readTerm_264 ?_
                  refine ab_iconst C dX9_readTerm_265 (by decide) ?_
                  refine ab_zret (st := []) C r (by decide) dX9_readTerm_266 ?_
                  refine ⟨_, rfl, same_tr (SM b).1 (same_up (by simp)), fun j hj => by rw [up_k (by omega)]; exact (SM b).2 j hj, by rw [up_k (by omega), up_s]; omega, Or.inl ⟨rfl, ?_⟩⟩
                  rw [up_k (by omega), up_s]
                  refine QT_end (Md := M (m + 6)) p1 n1 n2 hg hTm hnl2 (by omega) hMV hM0 (fun j => ?_)
                  by_cases q : j = wsm n d + w
                  · rw [if_pos q, q, up_s]
                  · rw [if_neg q, up_i q, s6]
                · skip
                  refine ab_iconst C dX9_readTerm_217 (by decide) ?_
                  refine ab_zret (st := []) C r (by decide) dX9_readTerm_218 ?_
                  refine ⟨_, rfl, (SM b).1, (SM b).2, by rw [up_s]; omega, Or.inr ⟨rfl, ?_⟩⟩
                  rw [up_s]
                  exact QT_bad hTm (fun y z => by
                    rw [if_pos y] at hnl
                    exact hnl z) h_209 h_214
            · skip
              have hbN : b < M m 11 := by
                by_cases y : b < M m 11
                · exact y
                · have z := b01_ne h_158
                  rw [if_neg y] at z
                  omega
              have hlet := b01_ne h_158
              rw [if_pos hbN] at hlet
              obtain ⟨hl1, hl2⟩ := hlet
              have hB := sz_B n1 n2 hTm.2.2.1.1 hTm.2.2.1.2.1
              have hnw : 0 ≤ n * w ∧ n * w ≤ 3 * 243 := ⟨Int.mul_nonneg (by omega) hTm.2.2.1.2.2.1, Int.mul_le_mul (by omega) (by have := hTm.2.2.1.2.2; omega) hTm.2.2.1.2.2.1 (by omega)⟩
              have hdB := hTm.2.2.1
              refine ab_iload C dX9_readTerm_161 rfl ?_
              refine ab_aload_n C dX9_readTerm_163 rfl rfl ?_
              refine gf_RX9_16 C s_t rfl dX9_readTerm_164 ?_
              rw [sL]
              refine ab_icmp_ne (tgt := 172) C dX9_readTerm_167 rfl (fun h_167 => ?_) (fun h_167 => ?_)
              · skip
                refine ab_aload_n C dX9_readTerm_172 rfl rfl ?_
                refine gf_RX9_7 C s_t rfl dX9_readTerm_173 ?_
                rw [sn]
                refine ab_iload C dX9_readTerm_176 rfl ?_
                refine ab_imul C dX9_readTerm_178 (by omega) ?_
                refine ab_iload_n C dX9_readTerm_179 rfl rfl ?_
                rw [if_pos hbN]
                refine ab_iadd C dX9_readTerm_180 (by omega) ?_
                refine ab_bipush C dX9_readTerm_181 (by decide) (by decide +kernel) ?_
                refine ab_isub C dX9_readTerm_183 (by omega) ?_
                refine ab_istore7 (lv := []) C rfl dX9_readTerm_184 ?_
                refine ab_iinc6 (lv := []) C rfl dX9_readTerm_186 (by omega) ?_
                refine ab_aload_n C dX9_readTerm_189 rfl rfl ?_
                refine ab_dup C dX9_readTerm_190 rfl ?_
                refine gf_RX9_107 C s_t rfl dX9_readTerm_191 ?_
                rw [s12]
                refine ab_iconst C dX9_readTerm_194 (by decide) ?_
                refine ab_iadd C dX9_readTerm_195 (by omega) ?_
                refine pf_RX9_107 C s_t rfl dX9_readTerm_196 ?_
                rw [up_up]
                clear s12 s11 s7 t7 sn sp_ sL s6 s2
                have s12 : up M m 12 (b + 1) m 12 = (b + 1) := up_s
                have s11 : up M m 12 (b + 1) m 11 = M m 11 := up_i (by decide)
                have s7 : ∀ x, up M m 12 (b + 1) (m + 7) x = M (m + 7) x := fun x => up_k (by omega)
                have t7 : up M m 12 (b + 1) (m + 7) = M (m + 7) := up_row (by omega)
                have sn : up M m 12 (b + 1) m 0 = n := by rw [up_i (by decide), m_n]
                have sp_ : up M m 12 (b + 1) m 1 = p := by rw [up_i (by decide), m_p]
                have sL : up M m 12 (b + 1) m 2 = Lg n := by rw [up_i (by decide), m_L]
                have s6 : up M m 12 (b + 1) (m + 6) = M (m + 6) := up_row (by omega)
                have s2 : up M m 12 (b + 1) (m + 2) = M (m + 2) := up_row (by omega)
                refine ab_aload_n C dX9_readTerm_199 rfl rfl ?_
                refine ab_callV C cl_RX9_110 (m_X9_next B_t (by rw [s12]; omega) (by rw [s12, s11]; omega) (by rw [s11]; omega)) (by decide) rfl s_t rfl rfl (Nat.le_of_ble_eq_true rfl) dX9_readTerm_200 (ab_kI (fun r_200 M_200 h_200 => ?_))
                obtain ⟨b2, ⟨b0, b1⟩, bsp, b32, rfl, rfl⟩ := h_200
                rw [s12] at b0 bsp
                rw [s11] at b1 b32 ⊢
                rw [t7] at bsp b32 ⊢
                rw [up_up]
                have hTm2 := QT_s n1 n2 hTm hbN hl1 hl2 h_167 b0 b1 bsp b32
                refine ab_istore2 (lv := []) C rfl dX9_readTerm_203 ?_
                refine ab_goto (tgt := 140) C dX9_readTerm_204 rfl ?_
                exact ih2 (b2, d + 1, n * w + M (m + 7) b - 97) (by dsimp only; omega) ⟨by dsimp only; omega, hTm2⟩
              · skip
                refine ab_iconst C dX9_readTerm_170 (by decide) ?_
                refine ab_zret (st := []) C r (by decide) dX9_readTerm_171 ?_
                refine ⟨_, rfl, (SM b).1, (SM b).2, by rw [up_s]; omega, Or.inr ⟨rfl, ?_⟩⟩
                rw [up_s]
                exact QT_long n2 hTm hbN hl1 hl2 h_167
        · skip
          refine ab_aload_n C dX9_readTerm_122 rfl rfl ?_
          refine ab_iload_n C dX9_readTerm_123 rfl rfl ?_
          refine pf_RX9_107 C s_t rfl dX9_readTerm_124 ?_
          refine ab_iconst C dX9_readTerm_127 (by decide) ?_
          refine ab_zret (st := []) C r (by decide) dX9_readTerm_128 ?_
          refine ⟨_, rfl, ?_⟩
          rw [up_up]
          refine ⟨(SM f).1, (SM f).2, by rw [up_s]; omega, Or.inr ⟨rfl, ?_⟩⟩
          rw [up_s]
          rcases hD.2.2 with ⟨s9, b9, -, -, -, z | z⟩ | z | z
          · omega
          · omega
          · omega
          · exact ⟨by omega, by omega, z.2.2, f32⟩
      · skip
        refine ab_aload_n C dX9_readTerm_46 rfl rfl ?_
        refine gf_RX9_38 C s_t rfl dX9_readTerm_47 ?_
        refine ab_aload_n C dX9_readTerm_50 rfl rfl ?_
        refine gf_RX9_107 C s_t rfl dX9_readTerm_51 ?_
        rw [s12]
        refine ab_iaload C s_t_tape (by omega) (by omega) dX9_readTerm_54 ?_
        rw [s7]
        have hba := hb a (by omega) (by omega)
        refine ab_i2l C dX9_readTerm_55 ?_
        refine ab_ldc2 (n := 48) C gw803 dX9_readTerm_56 (by decide) (by decide +kernel) ?_
        refine ab_ldc2 (n := 57) C gw804 dX9_readTerm_59 (by decide) (by decide +kernel) ?_
        refine ab_callS C cl_RX9_90 (m_X9_in) (by decide) rfl rfl (Nat.le_of_ble_eq_true rfl) dX9_readTerm_62 (ab_kI (fun r_62 M_62 h_62 => ?_))
        obtain ⟨rfl, rfl⟩ := h_62
        refine ab_if_eq (tgt := 114) C dX9_readTerm_65 rfl (fun h_65 => ?_) (fun h_65 => ?_)
        · skip
          refine ab_iload C dX9_readTerm_114 rfl ?_
          refine ab_sipush C dX9_readTerm_116 (by decide) (by decide +kernel) ?_
          refine ab_icmp_le (tgt := 129) C dX9_readTerm_119 rfl (fun h_119 => ?_) (fun h_119 => ?_)
          · skip
            refine ab_iconst C dX9_readTerm_129 (by decide) ?_
            refine ab_istore6 (lv := []) C rfl dX9_readTerm_130 ?_
            refine ab_iconst C dX9_readTerm_132 (by decide) ?_
            refine ab_istore7 (lv := []) C rfl dX9_readTerm_133 ?_
            refine ab_aload_n C dX9_readTerm_135 rfl rfl ?_
            refine ab_callV C cl_RX9_110 (m_X9_next B_t (by rw [s12]; omega) (by rw [s12, s11]; omega) (by rw [s11]; omega)) (by decide) rfl s_t rfl rfl (Nat.le_of_ble_eq_true rfl) dX9_readTerm_136 (ab_kI (fun r_136 M_136 h_136 => ?_))
            obtain ⟨b, ⟨b0, b1⟩, bsp, b32, rfl, rfl⟩ := h_136
            rw [s12] at b0 bsp
            rw [s11] at b1 b32 ⊢
            rw [t7] at bsp b32 ⊢
            rw [up_up]
            have hTm := QD_x n1 hD (fun z y => by first | omega | exact (b01_eq h_65) (by obtain ⟨y1, y2⟩ := y; omega)) (by omega) b0 b1 bsp b32
            refine ab_istore2 (lv := []) C rfl dX9_readTerm_139 ?_
            refine ab_loopM (fun (y : Int × Int × Int) => AJ K S 140 [vP m, vI g, vI (if y.1 < M m 11 then M (m + 7) y.1 else -1), vI f, vI h, vI v, vI y.2.1, vI y.2.2, vU] [] (up M m 12 y.1)) (fun y => M m 12 ≤ y.1 ∧ QT n p (M (m + 7)) np (M m 11) V g y.1 h v y.2.1 y.2.2) (fun y => (M m 11 - y.1).toNat) ?_ (b, 0, 0) ⟨by dsimp only; omega, hTm⟩
            · clear hTm
              intro y hI2 ih2
              obtain ⟨b, d, w⟩ := y
              obtain ⟨hmo, hTm⟩ := hI2
              dsimp only at hmo hTm ih2 ⊢
              have hT1 := hTm.1
              clear s12 s11 s7 t7 sn sp_ sL s6 s2
              have s12 : up M m 12 b m 12 = b := up_s
              have s11 : up M m 12 b m 11 = M m 11 := up_i (by decide)
              have s7 : ∀ x, up M m 12 b (m + 7) x = M (m + 7) x := fun x => up_k (by omega)
              have t7 : up M m 12 b (m + 7) = M (m + 7) := up_row (by omega)
              have sn : up M m 12 b m 0 = n := by rw [up_i (by decide), m_n]
              have sp_ : up M m 12 b m 1 = p := by rw [up_i (by decide), m_p]
              have sL : up M m 12 b m 2 = Lg n := by rw [up_i (by decide), m_L]
              have s6 : up M m 12 b (m + 6) = M (m + 6) := up_row (by omega)
              have s2 : up M m 12 b (m + 2) = M (m + 2) := up_row (by omega)
              have cB2 : -1 ≤ (if b < M m 11 then M (m + 7) b else -1) ∧ (if b < M m 11 then M (m + 7) b else -1) ≤ 126 := by
                split
                · have := hb b (by omega) (by assumption); omega
                · omega
              refine ab_iload_n C dX9_readTerm_140 rfl rfl ?_
              refine ab_i2l C dX9_readTerm_141 ?_
              refine ab_ldc2 (n := 97) C gw809 dX9_readTerm_142 (by decide) (by decide +kernel) ?_
              refine ab_bipush C dX9_readTerm_145 (by decide) (by decide +kernel) ?_
              refine ab_aload_n C dX9_readTerm_147 rfl rfl ?_
              refine gf_RX9_7 C s_t rfl dX9_readTerm_148 ?_
              rw [sn]
              refine ab_iadd C dX9_readTerm_151 (by omega) ?_
              refine ab_iconst C dX9_readTerm_152 (by decide) ?_
              refine ab_isub C dX9_readTerm_153 (by omega) ?_
              refine ab_i2l C dX9_readTerm_154 ?_
              refine ab_callS C cl_RX9_90 (m_X9_in) (by decide) rfl rfl (Nat.le_of_ble_eq_true rfl) dX9_readTerm_155 (ab_kI (fun r_155 M_155 h_155 => ?_))
              obtain ⟨rfl, rfl⟩ := h_155
              refine ab_if_eq (tgt := 207) C dX9_readTerm_158 rfl (fun h_158 => ?_) (fun h_158 => ?_)
              · skip
                have hnl := b01_eq h_158
                refine ab_iload C dX9_readTerm_207 rfl ?_
                refine ab_if_ne (tgt := 219) C dX9_readTerm_209 rfl (fun h_209 => ?_) (fun h_209 => ?_)
                · skip
                  refine ab_aload_n C dX9_readTerm_219 rfl rfl ?_
                  have hnl2 : b < M m 11 → ¬ (97 ≤ (M (m + 7)) b ∧ (M (m + 7)) b ≤ 97 + n - 1) := fun y z => by
                    rw [if_pos y] at hnl
                    exact hnl z
                  have hdB := hTm.2.2.1
                  have hB := sz_B n1 n2 hdB.1 hdB.2.1
                  obtain ⟨e_w, e_b, -⟩ := m_w d hdB.1 hdB.2.1
                  have hvB := hTm.2.1
                  have hx := hMV (wsm n d + w) (by omega) (by omega)
                  have hvp := emod_in (a := v) p1
                  have hgv : -97 ≤ g * (v % p) ∧ g * (v % p) ≤ 97 ∧ -p < g * (v % p) := by
                    rcases hg with q | q <;> rw [q]
                    · rw [Int.one_mul]; omega
                    · rw [Int.neg_one_mul]; omega
                  refine gf_RX9_23 C s_t rfl dX9_readTerm_220 ?_
                  refine ab_iload C dX9_readTerm_223 rfl ?_
                  refine ab_iaload C s_t_begins (by omega) (by omega) dX9_readTerm_225 ?_
                  rw [s2, e_b]
                  refine ab_iload C dX9_readTerm_226 rfl ?_
                  refine ab_iadd C dX9_readTerm_228 (by omega) ?_
                  refine ab_istore8 (lv := []) C rfl dX9_readTerm_229 ?_
                  refine ab_aload_n C dX9_readTerm_231 rfl rfl ?_
                  refine gf_RX9_35 C s_t rfl dX9_readTerm_232 ?_
                  refine ab_iload C dX9_readTerm_235 rfl ?_
                  refine ab_aload_n C dX9_readTerm_237 rfl rfl ?_
                  refine gf_RX9_35 C s_t rfl dX9_readTerm_238 ?_
                  refine ab_iload C dX9_readTerm_241 rfl ?_
                  refine ab_iaload C s_t_made (by omega) (by omega) dX9_readTerm_243 ?_
                  rw [s6]
                  refine ab_iload_n C dX9_readTerm_244 rfl rfl ?_
                  refine ab_iload C dX9_readTerm_245 rfl ?_
                  refine ab_aload_n C dX9_readTerm_247 rfl rfl ?_
                  refine gf_RX9_13 C s_t rfl dX9_readTerm_248 ?_
                  rw [sp_]
                  refine ab_irem C dX9_readTerm_251 (by omega) (by omega) ?_
                  refine ab_imul C dX9_readTerm_252 (by omega) ?_
                  refine ab_iadd C dX9_readTerm_253 (by omega) ?_
                  refine ab_aload_n C dX9_readTerm_254 rfl rfl ?_
                  refine gf_RX9_13 C s_t rfl dX9_readTerm_255 ?_
                  rw [sp_]
                  refine ab_iadd C dX9_readTerm_258 (by omega) ?_
                  refine ab_aload_n C dX9_readTerm_259 rfl rfl ?_
                  refine gf_RX9_13 C s_t rfl dX9_readTerm_260 ?_
                  rw [sp_]
                  refine ab_irem C dX9_readTerm_263 (by omega) (by omega) ?_
                  refine ab_iastore C s_t_made (by omega) (by omega) dX9_readTerm_264 ?_
                  refine ab_iconst C dX9_readTerm_265 (by decide) ?_
                  refine ab_zret (st := []) C r (by decide) dX9_readTerm_266 ?_
                  refine ⟨_, rfl, same_tr (SM b).1 (same_up (by simp)), fun j hj => by rw [up_k (by omega)]; exact (SM b).2 j hj, by rw [up_k (by omega), up_s]; omega, Or.inl ⟨rfl, ?_⟩⟩
                  rw [up_k (by omega), up_s]
                  refine QT_end (Md := M (m + 6)) p1 n1 n2 hg hTm hnl2 (by omega) hMV hM0 (fun j => ?_)
                  by_cases q : j = wsm n d + w
                  · rw [if_pos q, q, up_s]
                  · rw [if_neg q, up_i q, s6]
                · skip
                  refine ab_iload C dX9_readTerm_212 rfl ?_
                  refine ab_if_ne (tgt := 219) C dX9_readTerm_214 rfl (fun h_214 => ?_) (fun h_214 => ?_)
                  · skip
                    refine ab_aload_n C dX9_readTerm_219 rfl rfl ?_
                    have hnl2 : b < M m 11 → ¬ (97 ≤ (M (m + 7)) b ∧ (M (m + 7)) b ≤ 97 + n - 1) := fun y z => by
                      rw [if_pos y] at hnl
                      exact hnl z
                    have hdB := hTm.2.2.1
                    have hB := sz_B n1 n2 hdB.1 hdB.2.1
                    obtain ⟨e_w, e_b, -⟩ := m_w d hdB.1 hdB.2.1
                    have hvB := hTm.2.1
                    have hx := hMV (wsm n d + w) (by omega) (by omega)
                    have hvp := emod_in (a := v) p1
                    have hgv : -97 ≤ g * (v % p) ∧ g * (v % p) ≤ 97 ∧ -p < g * (v % p) := by
                      rcases hg with q | q <;> rw [q]
                      · rw [Int.one_mul]; omega
                      · rw [Int.neg_one_mul]; omega
                    refine gf_RX9_23 C s_t rfl dX9_readTerm_220 ?_
                    refine ab_iload C dX9_readTerm_223 rfl ?_
                    refine ab_iaload C s_t_begins (by omega) (by omega) dX9_readTerm_225 ?_
                    rw [s2, e_b]
                    refine ab_iload C dX9_readTerm_226 rfl ?_
                    refine ab_iadd C dX9_readTerm_228 (by omega) ?_
                    refine ab_istore8 (lv := []) C rfl dX9_readTerm_229 ?_
                    refine ab_aload_n C dX9_readTerm_231 rfl rfl ?_
                    refine gf_RX9_35 C s_t rfl dX9_readTerm_232 ?_
                    refine ab_iload C dX9_readTerm_235 rfl ?_
                    refine ab_aload_n C dX9_readTerm_237 rfl rfl ?_
                    refine gf_RX9_35 C s_t rfl dX9_readTerm_238 ?_
                    refine ab_iload C dX9_readTerm_241 rfl ?_
                    refine ab_iaload C s_t_made (by omega) (by omega) dX9_readTerm_243 ?_
                    rw [s6]
                    refine ab_iload_n C dX9_readTerm_244 rfl rfl ?_
                    refine ab_iload C dX9_readTerm_245 rfl ?_
                    refine ab_aload_n C dX9_readTerm_247 rfl rfl ?_
                    refine gf_RX9_13 C s_t rfl dX9_readTerm_248 ?_
                    rw [sp_]
                    refine ab_irem C dX9_readTerm_251 (by omega) (by omega) ?_
                    refine ab_imul C dX9_readTerm_252 (by omega) ?_
                    refine ab_iadd C dX9_readTerm_253 (by omega) ?_
                    refine ab_aload_n C dX9_readTerm_254 rfl rfl ?_
                    refine gf_RX9_13 C s_t rfl dX9_readTerm_255 ?_
                    rw [sp_]
                    refine ab_iadd C dX9_readTerm_258 (by omega) ?_
                    refine ab_aload_n C dX9_readTerm_259 rfl rfl ?_
                    refine gf_RX9_13 C s_t rfl dX9_readTerm_260 ?_
                    rw [sp_]
                    refine ab_irem C dX9_readTerm_263 (by omega) (by omega) ?_
                    refine ab_iastore C s_t_made (by omega) (by omega) dX9_readTerm_264 ?_
                    refine ab_iconst C dX9_readTerm_265 (by decide) ?_
                    refine ab_zret (st := []) C r (by decide) dX9_readTerm_266 ?_
                    refine ⟨_, rfl, same_tr (SM b).1 (same_up (by simp)), fun j hj => by rw [up_k (by omega)]; exact (SM b).2 j hj, by rw [up_k (by omega), up_s]; omega, Or.inl ⟨rfl, ?_⟩⟩
                    rw [up_k (by omega), up_s]
                    refine QT_end (Md := M (m + 6)) p1 n1 n2 hg hTm hnl2 (by omega) hMV hM0 (fun j => ?_)
                    by_cases q : j = wsm n d + w
                    · rw [if_pos q, q, up_s]
                    · rw [if_neg q, up_i q, s6]
                  · skip
                    refine ab_iconst C dX9_readTerm_217 (by decide) ?_
                    refine ab_zret (st := []) C r (by decide) dX9_readTerm_218 ?_
                    refine ⟨_, rfl, (SM b).1, (SM b).2, by rw [up_s]; omega, Or.inr ⟨rfl, ?_⟩⟩
                    rw [up_s]
                    exact QT_bad hTm (fun y z => by
                      rw [if_pos y] at hnl
                      exact hnl z) h_209 h_214
              · skip
                have hbN : b < M m 11 := by
                  by_cases y : b < M m 11
                  · exact y
                  · have z := b01_ne h_158
                    rw [if_neg y] at z
                    omega
                have hlet := b01_ne h_158
                rw [if_pos hbN] at hlet
                obtain ⟨hl1, hl2⟩ := hlet
                have hB := sz_B n1 n2 hTm.2.2.1.1 hTm.2.2.1.2.1
                have hnw : 0 ≤ n * w ∧ n * w ≤ 3 * 243 := ⟨Int.mul_nonneg (by omega) hTm.2.2.1.2.2.1, Int.mul_le_mul (by omega) (by have := hTm.2.2.1.2.2; omega) hTm.2.2.1.2.2.1 (by omega)⟩
                have hdB := hTm.2.2.1
                refine ab_iload C dX9_readTerm_161 rfl ?_
                refine ab_aload_n C dX9_readTerm_163 rfl rfl ?_
                refine gf_RX9_16 C s_t rfl dX9_readTerm_164 ?_
                rw [sL]
                refine ab_icmp_ne (tgt := 172) C dX9_readTerm_167 rfl (fun h_167 => ?_) (fun h_167 => ?_)
                · skip
                  refine ab_aload_n C dX9_readTerm_172 rfl rfl ?_
                  refine gf_RX9_7 C s_t rfl dX9_readTerm_173 ?_
                  rw [sn]
                  refine ab_iload C dX9_readTerm_176 rfl ?_
                  refine ab_imul C dX9_readTerm_178 (by omega) ?_
                  refine ab_iload_n C dX9_readTerm_179 rfl rfl ?_
                  rw [if_pos hbN]
                  refine ab_iadd C dX9_readTerm_180 (by omega) ?_
                  refine ab_bipush C dX9_readTerm_181 (by decide) (by decide +kernel) ?_
                  refine ab_isub C dX9_readTerm_183 (by omega) ?_
                  refine ab_istore7 (lv := []) C rfl dX9_readTerm_184 ?_
                  refine ab_iinc6 (lv := []) C rfl dX9_readTerm_186 (by omega) ?_
                  refine ab_aload_n C dX9_readTerm_189 rfl rfl ?_
                  refine ab_dup C dX9_readTerm_190 rfl ?_
                  refine gf_RX9_107 C s_t rfl dX9_readTerm_191 ?_
                  rw [s12]
                  refine ab_iconst C dX9_readTerm_194 (by decide) ?_
                  refine ab_iadd C dX9_readTerm_195 (by omega) ?_
                  refine pf_RX9_107 C s_t rfl dX9_readTerm_196 ?_
                  rw [up_up]
                  clear s12 s11 s7 t7 sn sp_ sL s6 s2
                  have s12 : up M m 12 (b + 1) m 12 = (b + 1) := up_s
                  have s11 : up M m 12 (b + 1) m 11 = M m 11 := up_i (by decide)
                  have s7 : ∀ x, up M m 12 (b + 1) (m + 7) x = M (m + 7) x := fun x => up_k (by omega)
                  have t7 : up M m 12 (b + 1) (m + 7) = M (m + 7) := up_row (by omega)
                  have sn : up M m 12 (b + 1) m 0 = n := by rw [up_i (by decide), m_n]
                  have sp_ : up M m 12 (b + 1) m 1 = p := by rw [up_i (by decide), m_p]
                  have sL : up M m 12 (b + 1) m 2 = Lg n := by rw [up_i (by decide), m_L]
                  have s6 : up M m 12 (b + 1) (m + 6) = M (m + 6) := up_row (by omega)
                  have s2 : up M m 12 (b + 1) (m + 2) = M (m + 2) := up_row (by omega)
                  refine ab_aload_n C dX9_readTerm_199 rfl rfl ?_
                  refine ab_callV C cl_RX9_110 (m_X9_next B_t (by rw [s12]; omega) (by rw [s12, s11]; omega) (by rw [s11]; omega)) (by decide) rfl s_t rfl rfl (Nat.le_of_ble_eq_true rfl) dX9_readTerm_200 (ab_kI (fun r_200 M_200 h_200 => ?_))
                  obtain ⟨b2, ⟨b0, b1⟩, bsp, b32, rfl, rfl⟩ := h_200
                  rw [s12] at b0 bsp
                  rw [s11] at b1 b32 ⊢
                  rw [t7] at bsp b32 ⊢
                  rw [up_up]
                  have hTm2 := QT_s n1 n2 hTm hbN hl1 hl2 h_167 b0 b1 bsp b32
                  refine ab_istore2 (lv := []) C rfl dX9_readTerm_203 ?_
                  refine ab_goto (tgt := 140) C dX9_readTerm_204 rfl ?_
                  exact ih2 (b2, d + 1, n * w + M (m + 7) b - 97) (by dsimp only; omega) ⟨by dsimp only; omega, hTm2⟩
                · skip
                  refine ab_iconst C dX9_readTerm_170 (by decide) ?_
                  refine ab_zret (st := []) C r (by decide) dX9_readTerm_171 ?_
                  refine ⟨_, rfl, (SM b).1, (SM b).2, by rw [up_s]; omega, Or.inr ⟨rfl, ?_⟩⟩
                  rw [up_s]
                  exact QT_long n2 hTm hbN hl1 hl2 h_167
          · skip
            refine ab_aload_n C dX9_readTerm_122 rfl rfl ?_
            refine ab_iload_n C dX9_readTerm_123 rfl rfl ?_
            refine pf_RX9_107 C s_t rfl dX9_readTerm_124 ?_
            refine ab_iconst C dX9_readTerm_127 (by decide) ?_
            refine ab_zret (st := []) C r (by decide) dX9_readTerm_128 ?_
            refine ⟨_, rfl, ?_⟩
            rw [up_up]
            refine ⟨(SM f).1, (SM f).2, by rw [up_s]; omega, Or.inr ⟨rfl, ?_⟩⟩
            rw [up_s]
            rcases hD.2.2 with ⟨s9, b9, -, -, -, z | z⟩ | z | z
            · omega
            · omega
            · omega
            · exact ⟨by omega, by omega, z.2.2, f32⟩
        · skip
          have hdg := b01_ne h_65
          have hDs := QD_s hD (by omega) hdg
          refine ab_iload C dX9_readTerm_68 rfl ?_
          refine ab_sipush C dX9_readTerm_70 (by decide) (by decide +kernel) ?_
          refine ab_icmp_le (tgt := 81) C dX9_readTerm_73 rfl (fun h_73 => ?_) (fun h_73 => ?_)
          · skip
            refine ab_bipush C dX9_readTerm_81 (by decide) (by decide +kernel) ?_
            refine ab_iload C dX9_readTerm_83 rfl ?_
            refine ab_imul C dX9_readTerm_85 (by omega) ?_
            refine ab_aload_n C dX9_readTerm_86 rfl rfl ?_
            refine gf_RX9_38 C s_t rfl dX9_readTerm_87 ?_
            refine ab_aload_n C dX9_readTerm_90 rfl rfl ?_
            refine gf_RX9_107 C s_t rfl dX9_readTerm_91 ?_
            rw [s12]
            refine ab_iaload C s_t_tape (by omega) (by omega) dX9_readTerm_94 ?_
            rw [s7]
            refine ab_iadd C dX9_readTerm_95 (by omega) ?_
            refine ab_bipush C dX9_readTerm_96 (by decide) (by decide +kernel) ?_
            refine ab_isub C dX9_readTerm_98 (by omega) ?_
            refine ab_istore5 (lv := []) C rfl dX9_readTerm_99 ?_
            refine ab_aload_n C dX9_readTerm_101 rfl rfl ?_
            refine ab_dup C dX9_readTerm_102 rfl ?_
            refine gf_RX9_107 C s_t rfl dX9_readTerm_103 ?_
            rw [s12]
            refine ab_iconst C dX9_readTerm_106 (by decide) ?_
            refine ab_iadd C dX9_readTerm_107 (by omega) ?_
            refine pf_RX9_107 C s_t rfl dX9_readTerm_108 ?_
            refine ab_goto (tgt := 35) C dX9_readTerm_111 rfl ?_
            rw [up_up]
            first
            | (rw [if_pos (show v > 999 by omega)] at hDs; exact ih _ (by omega) hDs)
            | (rw [if_neg (show ¬ v > 999 by omega)] at hDs; exact ih _ (by omega) hDs)
          · skip
            refine ab_iload C dX9_readTerm_76 rfl ?_
            refine ab_goto (tgt := 99) C dX9_readTerm_78 rfl ?_
            refine ab_istore5 (lv := []) C rfl dX9_readTerm_99 ?_
            refine ab_aload_n C dX9_readTerm_101 rfl rfl ?_
            refine ab_dup C dX9_readTerm_102 rfl ?_
            refine gf_RX9_107 C s_t rfl dX9_readTerm_103 ?_
            rw [s12]
            refine ab_iconst C dX9_readTerm_106 (by decide) ?_
            refine ab_iadd C dX9_readTerm_107 (by omega) ?_
            refine pf_RX9_107 C s_t rfl dX9_readTerm_108 ?_
            refine ab_goto (tgt := 35) C dX9_readTerm_111 rfl ?_
            rw [up_up]
            first
            | (rw [if_pos (show v > 999 by omega)] at hDs; exact ih _ (by omega) hDs)
            | (rw [if_neg (show ¬ v > 999 by omega)] at hDs; exact ih _ (by omega) hDs)
  · skip
    rw [if_neg h_25] at hD0
    refine ab_iconst C dX9_readTerm_28 (by decide) ?_
    refine ab_goto (tgt := 33) C dX9_readTerm_29 rfl ?_
    refine ab_istore5 (lv := []) C rfl dX9_readTerm_33 ?_
    refine ab_loop (fun a (v : Int) => AJ K S 35 [vP m, vI g, vI c, vI f, vI h, vI v, vU, vU, vU] [] (up M m 12 a)) (fun a v => QD n p (M (m + 7)) np (M m 11) V g f a v h) (M m 11) ?_ f _ (by omega) hD0
    · intro a v ha hD ih
      have hD1 := hD.1
      have hD2 := hD.2.1
      clear s12 s11 s7 t7 sn sp_ sL s6 s2
      have s12 : up M m 12 a m 12 = a := up_s
      have s11 : up M m 12 a m 11 = M m 11 := up_i (by decide)
      have s7 : ∀ x, up M m 12 a (m + 7) x = M (m + 7) x := fun x => up_k (by omega)
      have t7 : up M m 12 a (m + 7) = M (m + 7) := up_row (by omega)
      have sn : up M m 12 a m 0 = n := by rw [up_i (by decide), m_n]
      have sp_ : up M m 12 a m 1 = p := by rw [up_i (by decide), m_p]
      have sL : up M m 12 a m 2 = Lg n := by rw [up_i (by decide), m_L]
      have s6 : up M m 12 a (m + 6) = M (m + 6) := up_row (by omega)
      have s2 : up M m 12 a (m + 2) = M (m + 2) := up_row (by omega)
      refine ab_aload_n C dX9_readTerm_35 rfl rfl ?_
      refine gf_RX9_107 C s_t rfl dX9_readTerm_36 ?_
      rw [s12]
      refine ab_aload_n C dX9_readTerm_39 rfl rfl ?_
      refine gf_RX9_104 C s_t rfl dX9_readTerm_40 ?_
      rw [s11]
      refine ab_icmp_ge (tgt := 114) C dX9_readTerm_43 rfl (fun h_43 => ?_) (fun h_43 => ?_)
      · skip
        refine ab_iload C dX9_readTerm_114 rfl ?_
        refine ab_sipush C dX9_readTerm_116 (by decide) (by decide +kernel) ?_
        refine ab_icmp_le (tgt := 129) C dX9_readTerm_119 rfl (fun h_119 => ?_) (fun h_119 => ?_)
        · skip
          refine ab_iconst C dX9_readTerm_129 (by decide) ?_
          refine ab_istore6 (lv := []) C rfl dX9_readTerm_130 ?_
          refine ab_iconst C dX9_readTerm_132 (by decide) ?_
          refine ab_istore7 (lv := []) C rfl dX9_readTerm_133 ?_
          refine ab_aload_n C dX9_readTerm_135 rfl rfl ?_
          refine ab_callV C cl_RX9_110 (m_X9_next B_t (by rw [s12]; omega) (by rw [s12, s11]; omega) (by rw [s11]; omega)) (by decide) rfl s_t rfl rfl (Nat.le_of_ble_eq_true rfl) dX9_readTerm_136 (ab_kI (fun r_136 M_136 h_136 => ?_))
          obtain ⟨b, ⟨b0, b1⟩, bsp, b32, rfl, rfl⟩ := h_136
          rw [s12] at b0 bsp
          rw [s11] at b1 b32 ⊢
          rw [t7] at bsp b32 ⊢
          rw [up_up]
          have hTm := QD_x n1 hD (fun z y => by first | omega | exact (b01_eq h_65) (by obtain ⟨y1, y2⟩ := y; omega)) (by omega) b0 b1 bsp b32
          refine ab_istore2 (lv := []) C rfl dX9_readTerm_139 ?_
          refine ab_loopM (fun (y : Int × Int × Int) => AJ K S 140 [vP m, vI g, vI (if y.1 < M m 11 then M (m + 7) y.1 else -1), vI f, vI h, vI v, vI y.2.1, vI y.2.2, vU] [] (up M m 12 y.1)) (fun y => M m 12 ≤ y.1 ∧ QT n p (M (m + 7)) np (M m 11) V g y.1 h v y.2.1 y.2.2) (fun y => (M m 11 - y.1).toNat) ?_ (b, 0, 0) ⟨by dsimp only; omega, hTm⟩
          · clear hTm
            intro y hI2 ih2
            obtain ⟨b, d, w⟩ := y
            obtain ⟨hmo, hTm⟩ := hI2
            dsimp only at hmo hTm ih2 ⊢
            have hT1 := hTm.1
            clear s12 s11 s7 t7 sn sp_ sL s6 s2
            have s12 : up M m 12 b m 12 = b := up_s
            have s11 : up M m 12 b m 11 = M m 11 := up_i (by decide)
            have s7 : ∀ x, up M m 12 b (m + 7) x = M (m + 7) x := fun x => up_k (by omega)
            have t7 : up M m 12 b (m + 7) = M (m + 7) := up_row (by omega)
            have sn : up M m 12 b m 0 = n := by rw [up_i (by decide), m_n]
            have sp_ : up M m 12 b m 1 = p := by rw [up_i (by decide), m_p]
            have sL : up M m 12 b m 2 = Lg n := by rw [up_i (by decide), m_L]
            have s6 : up M m 12 b (m + 6) = M (m + 6) := up_row (by omega)
            have s2 : up M m 12 b (m + 2) = M (m + 2) := up_row (by omega)
            have cB2 : -1 ≤ (if b < M m 11 then M (m + 7) b else -1) ∧ (if b < M m 11 then M (m + 7) b else -1) ≤ 126 := by
              split
              · have := hb b (by omega) (by assumption); omega
              · omega
            refine ab_iload_n C dX9_readTerm_140 rfl rfl ?_
            refine ab_i2l C dX9_readTerm_141 ?_
            refine ab_ldc2 (n := 97) C gw809 dX9_readTerm_142 (by decide) (by decide +kernel) ?_
            refine ab_bipush C dX9_readTerm_145 (by decide) (by decide +kernel) ?_
            refine ab_aload_n C dX9_readTerm_147 rfl rfl ?_
            refine gf_RX9_7 C s_t rfl dX9_readTerm_148 ?_
            rw [sn]
            refine ab_iadd C dX9_readTerm_151 (by omega) ?_
            refine ab_iconst C dX9_readTerm_152 (by decide) ?_
            refine ab_isub C dX9_readTerm_153 (by omega) ?_
            refine ab_i2l C dX9_readTerm_154 ?_
            refine ab_callS C cl_RX9_90 (m_X9_in) (by decide) rfl rfl (Nat.le_of_ble_eq_true rfl) dX9_readTerm_155 (ab_kI (fun r_155 M_155 h_155 => ?_))
            obtain ⟨rfl, rfl⟩ := h_155
            refine ab_if_eq (tgt := 207) C dX9_readTerm_158 rfl (fun h_158 => ?_) (fun h_158 => ?_)
            · skip
              have hnl := b01_eq h_158
              refine ab_iload C dX9_readTerm_207 rfl ?_
              refine ab_if_ne (tgt := 219) C dX9_readTerm_209 rfl (fun h_209 => ?_) (fun h_209 => ?_)
              · skip
                refine ab_aload_n C dX9_readTerm_219 rfl rfl ?_
                have hnl2 : b < M m 11 → ¬ (97 ≤ (M (m + 7)) b ∧ (M (m + 7)) b ≤ 97 + n - 1) := fun y z => by
                  rw [if_pos y] at hnl
                  exact hnl z
                have hdB := hTm.2.2.1
                have hB := sz_B n1 n2 hdB.1 hdB.2.1
                obtain ⟨e_w, e_b, -⟩ := m_w d hdB.1 hdB.2.1
                have hvB := hTm.2.1
                have hx := hMV (wsm n d + w) (by omega) (by omega)
                have hvp := emod_in (a := v) p1
                have hgv : -97 ≤ g * (v % p) ∧ g * (v % p) ≤ 97 ∧ -p < g * (v % p) := by
                  rcases hg with q | q <;> rw [q]
                  · rw [Int.one_mul]; omega
                  · rw [Int.neg_one_mul]; omega
                refine gf_RX9_23 C s_t rfl dX9_readTerm_220 ?_
                refine ab_iload C dX9_readTerm_223 rfl ?_
                refine ab_iaload C s_t_begins (by omega) (by omega) dX9_readTerm_225 ?_
                rw [s2, e_b]
                refine ab_iload C dX9_readTerm_226 rfl ?_
                refine ab_iadd C dX9_readTerm_228 (by omega) ?_
                refine ab_istore8 (lv := []) C rfl dX9_readTerm_229 ?_
                refine ab_aload_n C dX9_readTerm_231 rfl rfl ?_
                refine gf_RX9_35 C s_t rfl dX9_readTerm_232 ?_
                refine ab_iload C dX9_readTerm_235 rfl ?_
                refine ab_aload_n C dX9_readTerm_237 rfl rfl ?_
                refine gf_RX9_35 C s_t rfl dX9_readTerm_238 ?_
                refine ab_iload C dX9_readTerm_241 rfl ?_
                refine ab_iaload C s_t_made (by omega) (by omega) dX9_readTerm_243 ?_
                rw [s6]
                refine ab_iload_n C dX9_readTerm_244 rfl rfl ?_
                refine ab_iload C dX9_readTerm_245 rfl ?_
                refine ab_aload_n C dX9_readTerm_247 rfl rfl ?_
                refine gf_RX9_13 C s_t rfl dX9_readTerm_248 ?_
                rw [sp_]
                refine ab_irem C dX9_readTerm_251 (by omega) (by omega) ?_
                refine ab_imul C dX9_readTerm_252 (by omega) ?_
                refine ab_iadd C dX9_readTerm_253 (by omega) ?_
                refine ab_aload_n C dX9_readTerm_254 rfl rfl ?_
                refine gf_RX9_13 C s_t rfl dX9_readTerm_255 ?_
                rw [sp_]
                refine ab_iadd C dX9_readTerm_258 (by omega) ?_
                refine ab_aload_n C dX9_readTerm_259 rfl rfl ?_
                refine gf_RX9_13 C s_t rfl dX9_readTerm_260 ?_
                rw [sp_]
                refine ab_irem C dX9_readTerm_263 (by omega) (by omega) ?_
                refine ab_iastore C s_t_made (by omega) (by omega) dX9_readTerm_264 ?_
                refine ab_iconst C dX9_readTerm_265 (by decide) ?_
                refine ab_zret (st := []) C r (by decide) dX9_readTerm_266 ?_
                refine ⟨_, rfl, same_tr (SM b).1 (same_up (by simp)), fun j hj => by rw [up_k (by omega)]; exact (SM b).2 j hj, by rw [up_k (by omega), up_s]; omega, Or.inl ⟨rfl, ?_⟩⟩
                rw [up_k (by omega), up_s]
                refine QT_end (Md := M (m + 6)) p1 n1 n2 hg hTm hnl2 (by omega) hMV hM0 (fun j => ?_)
                by_cases q : j = wsm n d + w
                · rw [if_pos q, q, up_s]
                · rw [if_neg q, up_i q, s6]
              · skip
                refine ab_iload C dX9_readTerm_212 rfl ?_
                refine ab_if_ne (tgt := 219) C dX9_readTerm_214 rfl (fun h_214 => ?_) (fun h_214 => ?_)
                · skip
                  refine ab_aload_n C dX9_readTerm_219 rfl rfl ?_
                  have hnl2 : b < M m 11 → ¬ (97 ≤ (M (m + 7)) b ∧ (M (m + 7)) b ≤ 97 + n - 1) := fun y z => by
                    rw [if_pos y] at hnl
                    exact hnl z
                  have hdB := hTm.2.2.1
                  have hB := sz_B n1 n2 hdB.1 hdB.2.1
                  obtain ⟨e_w, e_b, -⟩ := m_w d hdB.1 hdB.2.1
                  have hvB := hTm.2.1
                  have hx := hMV (wsm n d + w) (by omega) (by omega)
                  have hvp := emod_in (a := v) p1
                  have hgv : -97 ≤ g * (v % p) ∧ g * (v % p) ≤ 97 ∧ -p < g * (v % p) := by
                    rcases hg with q | q <;> rw [q]
                    · rw [Int.one_mul]; omega
                    · rw [Int.neg_one_mul]; omega
                  refine gf_RX9_23 C s_t rfl dX9_readTerm_220 ?_
                  refine ab_iload C dX9_readTerm_223 rfl ?_
                  refine ab_iaload C s_t_begins (by omega) (by omega) dX9_readTerm_225 ?_
                  rw [s2, e_b]
                  refine ab_iload C dX9_readTerm_226 rfl ?_
                  refine ab_iadd C dX9_readTerm_228 (by omega) ?_
                  refine ab_istore8 (lv := []) C rfl dX9_readTerm_229 ?_
                  refine ab_aload_n C dX9_readTerm_231 rfl rfl ?_
                  refine gf_RX9_35 C s_t rfl dX9_readTerm_232 ?_
                  refine ab_iload C dX9_readTerm_235 rfl ?_
                  refine ab_aload_n C dX9_readTerm_237 rfl rfl ?_
                  refine gf_RX9_35 C s_t rfl dX9_readTerm_238 ?_
                  refine ab_iload C dX9_readTerm_241 rfl ?_
                  refine ab_iaload C s_t_made (by omega) (by omega) dX9_readTerm_243 ?_
                  rw [s6]
                  refine ab_iload_n C dX9_readTerm_244 rfl rfl ?_
                  refine ab_iload C dX9_readTerm_245 rfl ?_
                  refine ab_aload_n C dX9_readTerm_247 rfl rfl ?_
                  refine gf_RX9_13 C s_t rfl dX9_readTerm_248 ?_
                  rw [sp_]
                  refine ab_irem C dX9_readTerm_251 (by omega) (by omega) ?_
                  refine ab_imul C dX9_readTerm_252 (by omega) ?_
                  refine ab_iadd C dX9_readTerm_253 (by omega) ?_
                  refine ab_aload_n C dX9_readTerm_254 rfl rfl ?_
                  refine gf_RX9_13 C s_t rfl dX9_readTerm_255 ?_
                  rw [sp_]
                  refine ab_iadd C dX9_readTerm_258 (by omega) ?_
                  refine ab_aload_n C dX9_readTerm_259 rfl rfl ?_
                  refine gf_RX9_13 C s_t rfl dX9_readTerm_260 ?_
                  rw [sp_]
                  refine ab_irem C dX9_readTerm_263 (by omega) (by omega) ?_
                  refine ab_iastore C s_t_made (by omega) (by omega) dX9_readTerm_264 ?_
                  refine ab_iconst C dX9_readTerm_265 (by decide) ?_
                  refine ab_zret (st := []) C r (by decide) dX9_readTerm_266 ?_
                  refine ⟨_, rfl, same_tr (SM b).1 (same_up (by simp)), fun j hj => by rw [up_k (by omega)]; exact (SM b).2 j hj, by rw [up_k (by omega), up_s]; omega, Or.inl ⟨rfl, ?_⟩⟩
                  rw [up_k (by omega), up_s]
                  refine QT_end (Md := M (m + 6)) p1 n1 n2 hg hTm hnl2 (by omega) hMV hM0 (fun j => ?_)
                  by_cases q : j = wsm n d + w
                  · rw [if_pos q, q, up_s]
                  · rw [if_neg q, up_i q, s6]
                · skip
                  refine ab_iconst C dX9_readTerm_217 (by decide) ?_
                  refine ab_zret (st := []) C r (by decide) dX9_readTerm_218 ?_
                  refine ⟨_, rfl, (SM b).1, (SM b).2, by rw [up_s]; omega, Or.inr ⟨rfl, ?_⟩⟩
                  rw [up_s]
                  exact QT_bad hTm (fun y z => by
                    rw [if_pos y] at hnl
                    exact hnl z) h_209 h_214
            · skip
              have hbN : b < M m 11 := by
                by_cases y : b < M m 11
                · exact y
                · have z := b01_ne h_158
                  rw [if_neg y] at z
                  omega
              have hlet := b01_ne h_158
              rw [if_pos hbN] at hlet
              obtain ⟨hl1, hl2⟩ := hlet
              have hB := sz_B n1 n2 hTm.2.2.1.1 hTm.2.2.1.2.1
              have hnw : 0 ≤ n * w ∧ n * w ≤ 3 * 243 := ⟨Int.mul_nonneg (by omega) hTm.2.2.1.2.2.1, Int.mul_le_mul (by omega) (by have := hTm.2.2.1.2.2; omega) hTm.2.2.1.2.2.1 (by omega)⟩
              have hdB := hTm.2.2.1
              refine ab_iload C dX9_readTerm_161 rfl ?_
              refine ab_aload_n C dX9_readTerm_163 rfl rfl ?_
              refine gf_RX9_16 C s_t rfl dX9_readTerm_164 ?_
              rw [sL]
              refine ab_icmp_ne (tgt := 172) C dX9_readTerm_167 rfl (fun h_167 => ?_) (fun h_167 => ?_)
              · skip
                refine ab_aload_n C dX9_readTerm_172 rfl rfl ?_
                refine gf_RX9_7 C s_t rfl dX9_readTerm_173 ?_
                rw [sn]
                refine ab_iload C dX9_readTerm_176 rfl ?_
                refine ab_imul C dX9_readTerm_178 (by omega) ?_
                refine ab_iload_n C dX9_readTerm_179 rfl rfl ?_
                rw [if_pos hbN]
                refine ab_iadd C dX9_readTerm_180 (by omega) ?_
                refine ab_bipush C dX9_readTerm_181 (by decide) (by decide +kernel) ?_
                refine ab_isub C dX9_readTerm_183 (by omega) ?_
                refine ab_istore7 (lv := []) C rfl dX9_readTerm_184 ?_
                refine ab_iinc6 (lv := []) C rfl dX9_readTerm_186 (by omega) ?_
                refine ab_aload_n C dX9_readTerm_189 rfl rfl ?_
                refine ab_dup C dX9_readTerm_190 rfl ?_
                refine gf_RX9_107 C s_t rfl dX9_readTerm_191 ?_
                rw [s12]
                refine ab_iconst C dX9_readTerm_194 (by decide) ?_
                refine ab_iadd C dX9_readTerm_195 (by omega) ?_
                refine pf_RX9_107 C s_t rfl dX9_readTerm_196 ?_
                rw [up_up]
                clear s12 s11 s7 t7 sn sp_ sL s6 s2
                have s12 : up M m 12 (b + 1) m 12 = (b + 1) := up_s
                have s11 : up M m 12 (b + 1) m 11 = M m 11 := up_i (by decide)
                have s7 : ∀ x, up M m 12 (b + 1) (m + 7) x = M (m + 7) x := fun x => up_k (by omega)
                have t7 : up M m 12 (b + 1) (m + 7) = M (m + 7) := up_row (by omega)
                have sn : up M m 12 (b + 1) m 0 = n := by rw [up_i (by decide), m_n]
                have sp_ : up M m 12 (b + 1) m 1 = p := by rw [up_i (by decide), m_p]
                have sL : up M m 12 (b + 1) m 2 = Lg n := by rw [up_i (by decide), m_L]
                have s6 : up M m 12 (b + 1) (m + 6) = M (m + 6) := up_row (by omega)
                have s2 : up M m 12 (b + 1) (m + 2) = M (m + 2) := up_row (by omega)
                refine ab_aload_n C dX9_readTerm_199 rfl rfl ?_
                refine ab_callV C cl_RX9_110 (m_X9_next B_t (by rw [s12]; omega) (by rw [s12, s11]; omega) (by rw [s11]; omega)) (by decide) rfl s_t rfl rfl (Nat.le_of_ble_eq_true rfl) dX9_readTerm_200 (ab_kI (fun r_200 M_200 h_200 => ?_))
                obtain ⟨b2, ⟨b0, b1⟩, bsp, b32, rfl, rfl⟩ := h_200
                rw [s12] at b0 bsp
                rw [s11] at b1 b32 ⊢
                rw [t7] at bsp b32 ⊢
                rw [up_up]
                have hTm2 := QT_s n1 n2 hTm hbN hl1 hl2 h_167 b0 b1 bsp b32
                refine ab_istore2 (lv := []) C rfl dX9_readTerm_203 ?_
                refine ab_goto (tgt := 140) C dX9_readTerm_204 rfl ?_
                exact ih2 (b2, d + 1, n * w + M (m + 7) b - 97) (by dsimp only; omega) ⟨by dsimp only; omega, hTm2⟩
              · skip
                refine ab_iconst C dX9_readTerm_170 (by decide) ?_
                refine ab_zret (st := []) C r (by decide) dX9_readTerm_171 ?_
                refine ⟨_, rfl, (SM b).1, (SM b).2, by rw [up_s]; omega, Or.inr ⟨rfl, ?_⟩⟩
                rw [up_s]
                exact QT_long n2 hTm hbN hl1 hl2 h_167
        · skip
          refine ab_aload_n C dX9_readTerm_122 rfl rfl ?_
          refine ab_iload_n C dX9_readTerm_123 rfl rfl ?_
          refine pf_RX9_107 C s_t rfl dX9_readTerm_124 ?_
          refine ab_iconst C dX9_readTerm_127 (by decide) ?_
          refine ab_zret (st := []) C r (by decide) dX9_readTerm_128 ?_
          refine ⟨_, rfl, ?_⟩
          rw [up_up]
          refine ⟨(SM f).1, (SM f).2, by rw [up_s]; omega, Or.inr ⟨rfl, ?_⟩⟩
          rw [up_s]
          rcases hD.2.2 with ⟨s9, b9, -, -, -, z | z⟩ | z | z
          · omega
          · omega
          · omega
          · exact ⟨by omega, by omega, z.2.2, f32⟩
      · skip
        refine ab_aload_n C dX9_readTerm_46 rfl rfl ?_
        refine gf_RX9_38 C s_t rfl dX9_readTerm_47 ?_
        refine ab_aload_n C dX9_readTerm_50 rfl rfl ?_
        refine gf_RX9_107 C s_t rfl dX9_readTerm_51 ?_
        rw [s12]
        refine ab_iaload C s_t_tape (by omega) (by omega) dX9_readTerm_54 ?_
        rw [s7]
        have hba := hb a (by omega) (by omega)
        refine ab_i2l C dX9_readTerm_55 ?_
        refine ab_ldc2 (n := 48) C gw803 dX9_readTerm_56 (by decide) (by decide +kernel) ?_
        refine ab_ldc2 (n := 57) C gw804 dX9_readTerm_59 (by decide) (by decide +kernel) ?_
        refine ab_callS C cl_RX9_90 (m_X9_in) (by decide) rfl rfl (Nat.le_of_ble_eq_true rfl) dX9_readTerm_62 (ab_kI (fun r_62 M_62 h_62 => ?_))
        obtain ⟨rfl, rfl⟩ := h_62
        refine ab_if_eq (tgt := 114) C dX9_readTerm_65 rfl (fun h_65 => ?_) (fun h_65 => ?_)
        · skip
          refine ab_iload C dX9_readTerm_114 rfl ?_
          refine ab_sipush C dX9_readTerm_116 (by decide) (by decide +kernel) ?_
          refine ab_icmp_le (tgt := 129) C dX9_readTerm_119 rfl (fun h_119 => ?_) (fun h_119 => ?_)
          · skip
            refine ab_iconst C dX9_readTerm_129 (by decide) ?_
            refine ab_istore6 (lv := []) C rfl dX9_readTerm_130 ?_
            refine ab_iconst C dX9_readTerm_132 (by decide) ?_
            refine ab_istore7 (lv := []) C rfl dX9_readTerm_133 ?_
            refine ab_aload_n C dX9_readTerm_135 rfl rfl ?_
            refine ab_callV C cl_RX9_110 (m_X9_next B_t (by rw [s12]; omega) (by rw [s12, s11]; omega) (by rw [s11]; omega)) (by decide) rfl s_t rfl rfl (Nat.le_of_ble_eq_true rfl) dX9_readTerm_136 (ab_kI (fun r_136 M_136 h_136 => ?_))
            obtain ⟨b, ⟨b0, b1⟩, bsp, b32, rfl, rfl⟩ := h_136
            rw [s12] at b0 bsp
            rw [s11] at b1 b32 ⊢
            rw [t7] at bsp b32 ⊢
            rw [up_up]
            have hTm := QD_x n1 hD (fun z y => by first | omega | exact (b01_eq h_65) (by obtain ⟨y1, y2⟩ := y; omega)) (by omega) b0 b1 bsp b32
            refine ab_istore2 (lv := []) C rfl dX9_readTerm_139 ?_
            refine ab_loopM (fun (y : Int × Int × Int) => AJ K S 140 [vP m, vI g, vI (if y.1 < M m 11 then M (m + 7) y.1 else -1), vI f, vI h, vI v, vI y.2.1, vI y.2.2, vU] [] (up M m 12 y.1)) (fun y => M m 12 ≤ y.1 ∧ QT n p (M (m + 7)) np (M m 11) V g y.1 h v y.2.1 y.2.2) (fun y => (M m 11 - y.1).toNat) ?_ (b, 0, 0) ⟨by dsimp only; omega, hTm⟩
            · clear hTm
              intro y hI2 ih2
              obtain ⟨b, d, w⟩ := y
              obtain ⟨hmo, hTm⟩ := hI2
              dsimp only at hmo hTm ih2 ⊢
              have hT1 := hTm.1
              clear s12 s11 s7 t7 sn sp_ sL s6 s2
              have s12 : up M m 12 b m 12 = b := up_s
              have s11 : up M m 12 b m 11 = M m 11 := up_i (by decide)
              have s7 : ∀ x, up M m 12 b (m + 7) x = M (m + 7) x := fun x => up_k (by omega)
              have t7 : up M m 12 b (m + 7) = M (m + 7) := up_row (by omega)
              have sn : up M m 12 b m 0 = n := by rw [up_i (by decide), m_n]
              have sp_ : up M m 12 b m 1 = p := by rw [up_i (by decide), m_p]
              have sL : up M m 12 b m 2 = Lg n := by rw [up_i (by decide), m_L]
              have s6 : up M m 12 b (m + 6) = M (m + 6) := up_row (by omega)
              have s2 : up M m 12 b (m + 2) = M (m + 2) := up_row (by omega)
              have cB2 : -1 ≤ (if b < M m 11 then M (m + 7) b else -1) ∧ (if b < M m 11 then M (m + 7) b else -1) ≤ 126 := by
                split
                · have := hb b (by omega) (by assumption); omega
                · omega
              refine ab_iload_n C dX9_readTerm_140 rfl rfl ?_
              refine ab_i2l C dX9_readTerm_141 ?_
              refine ab_ldc2 (n := 97) C gw809 dX9_readTerm_142 (by decide) (by decide +kernel) ?_
              refine ab_bipush C dX9_readTerm_145 (by decide) (by decide +kernel) ?_
              refine ab_aload_n C dX9_readTerm_147 rfl rfl ?_
              refine gf_RX9_7 C s_t rfl dX9_readTerm_148 ?_
              rw [sn]
              refine ab_iadd C dX9_readTerm_151 (by omega) ?_
              refine ab_iconst C dX9_readTerm_152 (by decide) ?_
              refine ab_isub C dX9_readTerm_153 (by omega) ?_
              refine ab_i2l C dX9_readTerm_154 ?_
              refine ab_callS C cl_RX9_90 (m_X9_in) (by decide) rfl rfl (Nat.le_of_ble_eq_true rfl) dX9_readTerm_155 (ab_kI (fun r_155 M_155 h_155 => ?_))
              obtain ⟨rfl, rfl⟩ := h_155
              refine ab_if_eq (tgt := 207) C dX9_readTerm_158 rfl (fun h_158 => ?_) (fun h_158 => ?_)
              · skip
                have hnl := b01_eq h_158
                refine ab_iload C dX9_readTerm_207 rfl ?_
                refine ab_if_ne (tgt := 219) C dX9_readTerm_209 rfl (fun h_209 => ?_) (fun h_209 => ?_)
                · skip
                  refine ab_aload_n C dX9_readTerm_219 rfl rfl ?_
                  have hnl2 : b < M m 11 → ¬ (97 ≤ (M (m + 7)) b ∧ (M (m + 7)) b ≤ 97 + n - 1) := fun y z => by
                    rw [if_pos y] at hnl
                    exact hnl z
                  have hdB := hTm.2.2.1
                  have hB := sz_B n1 n2 hdB.1 hdB.2.1
                  obtain ⟨e_w, e_b, -⟩ := m_w d hdB.1 hdB.2.1
                  have hvB := hTm.2.1
                  have hx := hMV (wsm n d + w) (by omega) (by omega)
                  have hvp := emod_in (a := v) p1
                  have hgv : -97 ≤ g * (v % p) ∧ g * (v % p) ≤ 97 ∧ -p < g * (v % p) := by
                    rcases hg with q | q <;> rw [q]
                    · rw [Int.one_mul]; omega
                    · rw [Int.neg_one_mul]; omega
                  refine gf_RX9_23 C s_t rfl dX9_readTerm_220 ?_
                  refine ab_iload C dX9_readTerm_223 rfl ?_
                  refine ab_iaload C s_t_begins (by omega) (by omega) dX9_readTerm_225 ?_
                  rw [s2, e_b]
                  refine ab_iload C dX9_readTerm_226 rfl ?_
                  refine ab_iadd C dX9_readTerm_228 (by omega) ?_
                  refine ab_istore8 (lv := []) C rfl dX9_readTerm_229 ?_
                  refine ab_aload_n C dX9_readTerm_231 rfl rfl ?_
                  refine gf_RX9_35 C s_t rfl dX9_readTerm_232 ?_
                  refine ab_iload C dX9_readTerm_235 rfl ?_
                  refine ab_aload_n C dX9_readTerm_237 rfl rfl ?_
                  refine gf_RX9_35 C s_t rfl dX9_readTerm_238 ?_
                  refine ab_iload C dX9_readTerm_241 rfl ?_
                  refine ab_iaload C s_t_made (by omega) (by omega) dX9_readTerm_243 ?_
                  rw [s6]
                  refine ab_iload_n C dX9_readTerm_244 rfl rfl ?_
                  refine ab_iload C dX9_readTerm_245 rfl ?_
                  refine ab_aload_n C dX9_readTerm_247 rfl rfl ?_
                  refine gf_RX9_13 C s_t rfl dX9_readTerm_248 ?_
                  rw [sp_]
                  refine ab_irem C dX9_readTerm_251 (by omega) (by omega) ?_
                  refine ab_imul C dX9_readTerm_252 (by omega) ?_
                  refine ab_iadd C dX9_readTerm_253 (by omega) ?_
                  refine ab_aload_n C dX9_readTerm_254 rfl rfl ?_
                  refine gf_RX9_13 C s_t rfl dX9_readTerm_255 ?_
                  rw [sp_]
                  refine ab_iadd C dX9_readTerm_258 (by omega) ?_
                  refine ab_aload_n C dX9_readTerm_259 rfl rfl ?_
                  refine gf_RX9_13 C s_t rfl dX9_readTerm_260 ?_
                  rw [sp_]
                  refine ab_irem C dX9_readTerm_263 (by omega) (by omega) ?_
                  refine ab_iastore C s_t_made (by omega) (by omega) dX9_readTerm_264 ?_
                  refine ab_iconst C dX9_readTerm_265 (by decide) ?_
                  refine ab_zret (st := []) C r (by decide) dX9_readTerm_266 ?_
                  refine ⟨_, rfl, same_tr (SM b).1 (same_up (by simp)), fun j hj => by rw [up_k (by omega)]; exact (SM b).2 j hj, by rw [up_k (by omega), up_s]; omega, Or.inl ⟨rfl, ?_⟩⟩
                  rw [up_k (by omega), up_s]
                  refine QT_end (Md := M (m + 6)) p1 n1 n2 hg hTm hnl2 (by omega) hMV hM0 (fun j => ?_)
                  by_cases q : j = wsm n d + w
                  · rw [if_pos q, q, up_s]
                  · rw [if_neg q, up_i q, s6]
                · skip
                  refine ab_iload C dX9_readTerm_212 rfl ?_
                  refine ab_if_ne (tgt := 219) C dX9_readTerm_214 rfl (fun h_214 => ?_) (fun h_214 => ?_)
                  · skip
                    refine ab_aload_n C dX9_readTerm_219 rfl rfl ?_
                    have hnl2 : b < M m 11 → ¬ (97 ≤ (M (m + 7)) b ∧ (M (m + 7)) b ≤ 97 + n - 1) := fun y z => by
                      rw [if_pos y] at hnl
                      exact hnl z
                    have hdB := hTm.2.2.1
                    have hB := sz_B n1 n2 hdB.1 hdB.2.1
                    obtain ⟨e_w, e_b, -⟩ := m_w d hdB.1 hdB.2.1
                    have hvB := hTm.2.1
                    have hx := hMV (wsm n d + w) (by omega) (by omega)
                    have hvp := emod_in (a := v) p1
                    have hgv : -97 ≤ g * (v % p) ∧ g * (v % p) ≤ 97 ∧ -p < g * (v % p) := by
                      rcases hg with q | q <;> rw [q]
                      · rw [Int.one_mul]; omega
                      · rw [Int.neg_one_mul]; omega
                    refine gf_RX9_23 C s_t rfl dX9_readTerm_220 ?_
                    refine ab_iload C dX9_readTerm_223 rfl ?_
                    refine ab_iaload C s_t_begins (by omega) (by omega) dX9_readTerm_225 ?_
                    rw [s2, e_b]
                    refine ab_iload C dX9_readTerm_226 rfl ?_
                    refine ab_iadd C dX9_readTerm_228 (by omega) ?_
                    refine ab_istore8 (lv := []) C rfl dX9_readTerm_229 ?_
                    refine ab_aload_n C dX9_readTerm_231 rfl rfl ?_
                    refine gf_RX9_35 C s_t rfl dX9_readTerm_232 ?_
                    refine ab_iload C dX9_readTerm_235 rfl ?_
                    refine ab_aload_n C dX9_readTerm_237 rfl rfl ?_
                    refine gf_RX9_35 C s_t rfl dX9_readTerm_238 ?_
                    refine ab_iload C dX9_readTerm_241 rfl ?_
                    refine ab_iaload C s_t_made (by omega) (by omega) dX9_readTerm_243 ?_
                    rw [s6]
                    refine ab_iload_n C dX9_readTerm_244 rfl rfl ?_
                    refine ab_iload C dX9_readTerm_245 rfl ?_
                    refine ab_aload_n C dX9_readTerm_247 rfl rfl ?_
                    refine gf_RX9_13 C s_t rfl dX9_readTerm_248 ?_
                    rw [sp_]
                    refine ab_irem C dX9_readTerm_251 (by omega) (by omega) ?_
                    refine ab_imul C dX9_readTerm_252 (by omega) ?_
                    refine ab_iadd C dX9_readTerm_253 (by omega) ?_
                    refine ab_aload_n C dX9_readTerm_254 rfl rfl ?_
                    refine gf_RX9_13 C s_t rfl dX9_readTerm_255 ?_
                    rw [sp_]
                    refine ab_iadd C dX9_readTerm_258 (by omega) ?_
                    refine ab_aload_n C dX9_readTerm_259 rfl rfl ?_
                    refine gf_RX9_13 C s_t rfl dX9_readTerm_260 ?_
                    rw [sp_]
                    refine ab_irem C dX9_readTerm_263 (by omega) (by omega) ?_
                    refine ab_iastore C s_t_made (by omega) (by omega) dX9_readTerm_264 ?_
                    refine ab_iconst C dX9_readTerm_265 (by decide) ?_
                    refine ab_zret (st := []) C r (by decide) dX9_readTerm_266 ?_
                    refine ⟨_, rfl, same_tr (SM b).1 (same_up (by simp)), fun j hj => by rw [up_k (by omega)]; exact (SM b).2 j hj, by rw [up_k (by omega), up_s]; omega, Or.inl ⟨rfl, ?_⟩⟩
                    rw [up_k (by omega), up_s]
                    refine QT_end (Md := M (m + 6)) p1 n1 n2 hg hTm hnl2 (by omega) hMV hM0 (fun j => ?_)
                    by_cases q : j = wsm n d + w
                    · rw [if_pos q, q, up_s]
                    · rw [if_neg q, up_i q, s6]
                  · skip
                    refine ab_iconst C dX9_readTerm_217 (by decide) ?_
                    refine ab_zret (st := []) C r (by decide) dX9_readTerm_218 ?_
                    refine ⟨_, rfl, (SM b).1, (SM b).2, by rw [up_s]; omega, Or.inr ⟨rfl, ?_⟩⟩
                    rw [up_s]
                    exact QT_bad hTm (fun y z => by
                      rw [if_pos y] at hnl
                      exact hnl z) h_209 h_214
              · skip
                have hbN : b < M m 11 := by
                  by_cases y : b < M m 11
                  · exact y
                  · have z := b01_ne h_158
                    rw [if_neg y] at z
                    omega
                have hlet := b01_ne h_158
                rw [if_pos hbN] at hlet
                obtain ⟨hl1, hl2⟩ := hlet
                have hB := sz_B n1 n2 hTm.2.2.1.1 hTm.2.2.1.2.1
                have hnw : 0 ≤ n * w ∧ n * w ≤ 3 * 243 := ⟨Int.mul_nonneg (by omega) hTm.2.2.1.2.2.1, Int.mul_le_mul (by omega) (by have := hTm.2.2.1.2.2; omega) hTm.2.2.1.2.2.1 (by omega)⟩
                have hdB := hTm.2.2.1
                refine ab_iload C dX9_readTerm_161 rfl ?_
                refine ab_aload_n C dX9_readTerm_163 rfl rfl ?_
                refine gf_RX9_16 C s_t rfl dX9_readTerm_164 ?_
                rw [sL]
                refine ab_icmp_ne (tgt := 172) C dX9_readTerm_167 rfl (fun h_167 => ?_) (fun h_167 => ?_)
                · skip
                  refine ab_aload_n C dX9_readTerm_172 rfl rfl ?_
                  refine gf_RX9_7 C s_t rfl dX9_readTerm_173 ?_
                  rw [sn]
                  refine ab_iload C dX9_readTerm_176 rfl ?_
                  refine ab_imul C dX9_readTerm_178 (by omega) ?_
                  refine ab_iload_n C dX9_readTerm_179 rfl rfl ?_
                  rw [if_pos hbN]
                  refine ab_iadd C dX9_readTerm_180 (by omega) ?_
                  refine ab_bipush C dX9_readTerm_181 (by decide) (by decide +kernel) ?_
                  refine ab_isub C dX9_readTerm_183 (by omega) ?_
                  refine ab_istore7 (lv := []) C rfl dX9_readTerm_184 ?_
                  refine ab_iinc6 (lv := []) C rfl dX9_readTerm_186 (by omega) ?_
                  refine ab_aload_n C dX9_readTerm_189 rfl rfl ?_
                  refine ab_dup C dX9_readTerm_190 rfl ?_
                  refine gf_RX9_107 C s_t rfl dX9_readTerm_191 ?_
                  rw [s12]
                  refine ab_iconst C dX9_readTerm_194 (by decide) ?_
                  refine ab_iadd C dX9_readTerm_195 (by omega) ?_
                  refine pf_RX9_107 C s_t rfl dX9_readTerm_196 ?_
                  rw [up_up]
                  clear s12 s11 s7 t7 sn sp_ sL s6 s2
                  have s12 : up M m 12 (b + 1) m 12 = (b + 1) := up_s
                  have s11 : up M m 12 (b + 1) m 11 = M m 11 := up_i (by decide)
                  have s7 : ∀ x, up M m 12 (b + 1) (m + 7) x = M (m + 7) x := fun x => up_k (by omega)
                  have t7 : up M m 12 (b + 1) (m + 7) = M (m + 7) := up_row (by omega)
                  have sn : up M m 12 (b + 1) m 0 = n := by rw [up_i (by decide), m_n]
                  have sp_ : up M m 12 (b + 1) m 1 = p := by rw [up_i (by decide), m_p]
                  have sL : up M m 12 (b + 1) m 2 = Lg n := by rw [up_i (by decide), m_L]
                  have s6 : up M m 12 (b + 1) (m + 6) = M (m + 6) := up_row (by omega)
                  have s2 : up M m 12 (b + 1) (m + 2) = M (m + 2) := up_row (by omega)
                  refine ab_aload_n C dX9_readTerm_199 rfl rfl ?_
                  refine ab_callV C cl_RX9_110 (m_X9_next B_t (by rw [s12]; omega) (by rw [s12, s11]; omega) (by rw [s11]; omega)) (by decide) rfl s_t rfl rfl (Nat.le_of_ble_eq_true rfl) dX9_readTerm_200 (ab_kI (fun r_200 M_200 h_200 => ?_))
                  obtain ⟨b2, ⟨b0, b1⟩, bsp, b32, rfl, rfl⟩ := h_200
                  rw [s12] at b0 bsp
                  rw [s11] at b1 b32 ⊢
                  rw [t7] at bsp b32 ⊢
                  rw [up_up]
                  have hTm2 := QT_s n1 n2 hTm hbN hl1 hl2 h_167 b0 b1 bsp b32
                  refine ab_istore2 (lv := []) C rfl dX9_readTerm_203 ?_
                  refine ab_goto (tgt := 140) C dX9_readTerm_204 rfl ?_
                  exact ih2 (b2, d + 1, n * w + M (m + 7) b - 97) (by dsimp only; omega) ⟨by dsimp only; omega, hTm2⟩
                · skip
                  refine ab_iconst C dX9_readTerm_170 (by decide) ?_
                  refine ab_zret (st := []) C r (by decide) dX9_readTerm_171 ?_
                  refine ⟨_, rfl, (SM b).1, (SM b).2, by rw [up_s]; omega, Or.inr ⟨rfl, ?_⟩⟩
                  rw [up_s]
                  exact QT_long n2 hTm hbN hl1 hl2 h_167
          · skip
            refine ab_aload_n C dX9_readTerm_122 rfl rfl ?_
            refine ab_iload_n C dX9_readTerm_123 rfl rfl ?_
            refine pf_RX9_107 C s_t rfl dX9_readTerm_124 ?_
            refine ab_iconst C dX9_readTerm_127 (by decide) ?_
            refine ab_zret (st := []) C r (by decide) dX9_readTerm_128 ?_
            refine ⟨_, rfl, ?_⟩
            rw [up_up]
            refine ⟨(SM f).1, (SM f).2, by rw [up_s]; omega, Or.inr ⟨rfl, ?_⟩⟩
            rw [up_s]
            rcases hD.2.2 with ⟨s9, b9, -, -, -, z | z⟩ | z | z
            · omega
            · omega
            · omega
            · exact ⟨by omega, by omega, z.2.2, f32⟩
        · skip
          have hdg := b01_ne h_65
          have hDs := QD_s hD (by omega) hdg
          refine ab_iload C dX9_readTerm_68 rfl ?_
          refine ab_sipush C dX9_readTerm_70 (by decide) (by decide +kernel) ?_
          refine ab_icmp_le (tgt := 81) C dX9_readTerm_73 rfl (fun h_73 => ?_) (fun h_73 => ?_)
          · skip
            refine ab_bipush C dX9_readTerm_81 (by decide) (by decide +kernel) ?_
            refine ab_iload C dX9_readTerm_83 rfl ?_
            refine ab_imul C dX9_readTerm_85 (by omega) ?_
            refine ab_aload_n C dX9_readTerm_86 rfl rfl ?_
            refine gf_RX9_38 C s_t rfl dX9_readTerm_87 ?_
            refine ab_aload_n C dX9_readTerm_90 rfl rfl ?_
            refine gf_RX9_107 C s_t rfl dX9_readTerm_91 ?_
            rw [s12]
            refine ab_iaload C s_t_tape (by omega) (by omega) dX9_readTerm_94 ?_
            rw [s7]
            refine ab_iadd C dX9_readTerm_95 (by omega) ?_
            refine ab_bipush C dX9_readTerm_96 (by decide) (by decide +kernel) ?_
            refine ab_isub C dX9_readTerm_98 (by omega) ?_
            refine ab_istore5 (lv := []) C rfl dX9_readTerm_99 ?_
            refine ab_aload_n C dX9_readTerm_101 rfl rfl ?_
            refine ab_dup C dX9_readTerm_102 rfl ?_
            refine gf_RX9_107 C s_t rfl dX9_readTerm_103 ?_
            rw [s12]
            refine ab_iconst C dX9_readTerm_106 (by decide) ?_
            refine ab_iadd C dX9_readTerm_107 (by omega) ?_
            refine pf_RX9_107 C s_t rfl dX9_readTerm_108 ?_
            refine ab_goto (tgt := 35) C dX9_readTerm_111 rfl ?_
            rw [up_up]
            first
            | (rw [if_pos (show v > 999 by omega)] at hDs; exact ih _ (by omega) hDs)
            | (rw [if_neg (show ¬ v > 999 by omega)] at hDs; exact ih _ (by omega) hDs)
          · skip
            refine ab_iload C dX9_readTerm_76 rfl ?_
            refine ab_goto (tgt := 99) C dX9_readTerm_78 rfl ?_
            refine ab_istore5 (lv := []) C rfl dX9_readTerm_99 ?_
            refine ab_aload_n C dX9_readTerm_101 rfl rfl ?_
            refine ab_dup C dX9_readTerm_102 rfl ?_
            refine gf_RX9_107 C s_t rfl dX9_readTerm_103 ?_
            rw [s12]
            refine ab_iconst C dX9_readTerm_106 (by decide) ?_
            refine ab_iadd C dX9_readTerm_107 (by omega) ?_
            refine pf_RX9_107 C s_t rfl dX9_readTerm_108 ?_
            refine ab_goto (tgt := 35) C dX9_readTerm_111 rfl ?_
            rw [up_up]
            first
            | (rw [if_pos (show v > 999 by omega)] at hDs; exact ih _ (by omega) hDs)
            | (rw [if_neg (show ¬ v > 999 by omega)] at hDs; exact ih _ (by omega) hDs)
set_option maxRecDepth 100000 in
set_option maxHeartbeats 4000000 in
theorem m_X9_readSum {D : va_G} {cA : Nat → ClassId} {S : List AbS} {M : AbM} {m : Nat} {n p : Int} (B_t : shMo S m) (A_t : MoA M m n p) {np : Int} (h0 : 0 ≤ M m 11) (h2 : M m 11 ≤ 80) (hb : ∀ i, 0 ≤ i → i < M m 11 → 32 ≤ M (m + 7) i ∧ M (m + 7) i ≤ 126) : Meth yX9_readSum cX9_readSum 3 (some .boolean) rmX9_readSum D cA S [vP m] M (qI fun q M2 => same [m, m + 6] M M2 ∧ (∀ j, j ≠ 12 → M2 m j = M m j) ∧ (0 ≤ M2 m 12 ∧ M2 m 12 ≤ M m 11) ∧ ((q = 1 ∧ (endR n p (M m 11) (runR n p (M (m + 7)) np (M m 11).toNat)).1 = 0 ∧ (∀ j, 0 ≤ j → j < 364 → M2 (m + 6) j = (endR n p (M m 11) (runR n p (M (m + 7)) np (M m 11).toNat)).2 j ∧ 0 ≤ M2 (m + 6) j ∧ M2 (m + 6) j < p) ∧ ∀ j, 364 ≤ j → j < 400 → M2 (m + 6) j = 0) ∨ (q = 0 ∧ (endR n p (M m 11) (runR n p (M (m + 7)) np (M m 11).toNat)).1 = -20 - M2 m 12))) := by
  refine ab_intro (lv := [vP m, vU, vU]) (by decide +kernel) rfl (Nat.le_of_ble_eq_true rfl) ?_
  intro hO hargs K hKD hKA C r
  have C : Cx K cX9_readSum RX9 rmX9_readSum := C
  obtain ⟨s_t, s_t_words, s_t_begins, s_t_squares, s_t_lengths, s_t_numbers, s_t_made, s_t_tape, s_t_rows, s_t_leads, s_t_otherRows, s_t_otherLeads, s_t_row, s_t_equations, s_t_firsts, s_t_sum, s_t_lanes, s_t_sizes, s_t_items⟩ := id B_t
  obtain ⟨⟨n1, n2, hPr⟩, m_n, m_p, m_L, m_w⟩ := id A_t
  obtain ⟨p1, p2, -⟩ := id hPr
  have hLB := Lg_B n
  refine ab_aload_n C dX9_readSum_0 rfl rfl ?_
  refine ab_iconst C dX9_readSum_1 (by decide) ?_
  refine pf_RX9_107 C s_t rfl dX9_readSum_2 ?_
  refine ab_iconst C dX9_readSum_5 (by decide) ?_
  refine ab_istore1 (lv := []) C rfl dX9_readSum_6 ?_
  refine ab_mem (M2 := (upA (up M m 12 0) (m + 6) (fun j => if 0 ≤ j ∧ j < (0 : Int) then 0 else M (m + 6) j))) (upA_id (fun j => by rw [if_neg (by omega), up_k (by omega)])) ?_
  refine ab_loop (fun i (_ : Unit) => AJ K S 7 [vP m, vI i, vU] [] (upA (up M m 12 0) (m + 6) (fun j => if 0 ≤ j ∧ j < i then 0 else M (m + 6) j))) (fun i _ => 0 ≤ i) 400 ?_ 0 () (by omega) (by omega)
  · intro i _ hi i0 ih
    refine ab_iload_n C dX9_readSum_7 rfl rfl ?_
    refine ab_sipush C dX9_readSum_8 (by decide) (by decide +kernel) ?_
    refine ab_icmp_ge (tgt := 27) C dX9_readSum_11 rfl (fun h_11 => ?_) (fun h_11 => ?_)
    · skip
      refine ab_aload_n C dX9_readSum_27 rfl rfl ?_
      obtain ⟨Y, hY⟩ : ∃ Y, (upA (up M m 12 0) (m + 6) (fun j => if 0 ≤ j ∧ j < i then 0 else M (m + 6) j)) = Y := ⟨_, rfl⟩
      have ei : i = 400 := by omega
      subst ei
      rw [hY]
      have hsY : same [m, m + 6] M Y := by rw [← hY]; exact same_tr (same_up (by simp)) (same_upA (by simp))
      have yj : ∀ j, j ≠ 12 → Y m j = M m j := fun j hj => by rw [← hY, upA_k (by omega), up_i hj]
      have y12 : Y m 12 = 0 := by rw [← hY, upA_k (by omega), up_s]
      have y6 : ∀ j, 0 ≤ j → j < 400 → Y (m + 6) j = 0 := fun j a b => by rw [← hY, upA_s, if_pos ⟨a, b⟩]
      have ys : same [m, m + 6] M Y := hsY
      have y7 : Y (m + 7) = M (m + 7) := ys _ (by simp)
      have y11 : Y m 11 = M m 11 := yj 11 (by decide)
      have yA : MoA Y m n p := A_t.of (yj 0 (by decide)) (yj 1 (by decide)) (yj 2 (by decide)) (ys _ (by simp)) (ys _ (by simp)) (ys _ (by simp))
      refine ab_callV C cl_RX9_110 (m_X9_next B_t (by rw [y12]; omega) (by rw [y12, y11]; omega) (by rw [y11]; omega)) (by decide) rfl s_t rfl rfl (Nat.le_of_ble_eq_true rfl) dX9_readSum_28 (ab_kI (fun r_28 M_28 h_28 => ?_))
      obtain ⟨b, ⟨b0, b1⟩, bsp, b32, rfl, rfl⟩ := h_28
      rw [y12] at b0 bsp
      rw [y11] at b1 b32 ⊢
      rw [y7] at bsp b32 ⊢
      have hQb : runR n p (M (m + 7)) np b.toNat = (-1, (0, 1, 1, np, 0, 0), fun _ => 0) := q_sps (i := 0) (by omega) b0 bsp rfl (by decide)
      obtain ⟨c, hc⟩ : ∃ c, (if b < M m 11 then M (m + 7) b else -1) = c := ⟨_, rfl⟩
      rw [hc]
      refine ab_istore1 (lv := []) C rfl dX9_readSum_31 ?_
      refine ab_aload_n C dX9_readSum_32 rfl rfl ?_
      refine ab_dup C dX9_readSum_33 rfl ?_
      refine gf_RX9_107 C s_t rfl dX9_readSum_34 ?_
      rw [up_s]
      refine ab_iload_n C dX9_readSum_37 rfl rfl ?_
      refine ab_bipush C dX9_readSum_38 (by decide) (by decide +kernel) ?_
      refine ab_icmp_ne (tgt := 47) C dX9_readSum_40 rfl (fun h_40 => ?_) (fun h_40 => ?_)
      · skip
        refine ab_iconst C dX9_readSum_47 (by decide) ?_
        refine ab_iadd C dX9_readSum_48 (by omega) ?_
        refine pf_RX9_107 C s_t rfl dX9_readSum_49 ?_
        rw [up_up]
        obtain ⟨x9, hx9⟩ : ∃ x9, (if c = 45 then b + 1 else b) = x9 := ⟨_, rfl⟩
        refine ab_mem (M2 := up Y m 12 x9) (by rw [← hx9]; first | (rw [if_pos h_40]; done) | (rw [if_neg h_40, Int.add_zero])) ?_
        obtain ⟨X, hX⟩ : ∃ X, up Y m 12 x9 = X := ⟨_, rfl⟩
        rw [hX]
        have xj : ∀ j, j ≠ 12 → X m j = M m j := fun j hj => by rw [← hX, up_i hj]; exact yj j hj
        have hsX : same [m, m + 6] M X := by rw [← hX]; exact same_tr hsY (same_up (by simp))
        have xs : same [m, m + 6] M X := hsX
        have x7 : X (m + 7) = M (m + 7) := xs _ (by simp)
        have x11 : X m 11 = M m 11 := xj 11 (by decide)
        have xA : MoA X m n p := A_t.of (xj 0 (by decide)) (xj 1 (by decide)) (xj 2 (by decide)) (xs _ (by simp)) (xs _ (by simp)) (xs _ (by simp))
        have x12 : X m 12 = x9 := by rw [← hX, up_s]
        have x6 : X (m + 6) = Y (m + 6) := by rw [← hX]; exact up_row (by omega)
        refine ab_aload_n C dX9_readSum_52 rfl rfl ?_
        refine ab_iload_n C dX9_readSum_53 rfl rfl ?_
        refine ab_bipush C dX9_readSum_54 (by decide) (by decide +kernel) ?_
        refine ab_icmp_ne (tgt := 63) C dX9_readSum_56 rfl (fun h_56 => ?_) (fun h_56 => ?_)
        · skip
          refine ab_iconst C dX9_readSum_63 (by decide) ?_
          refine ab_callV C cl_RX9_118 (m_X9_readTerm (np := np) B_t xA (by rw [x11]; omega) (by rw [x11, x7]; exact hb) (by
            rw [x7, x11, x12, x6, ← hx9]
            by_cases y : c = 45
            · first
              | exact absurd y h_40
              | (rw [if_pos y]
                 have hlt : b < M m 11 := by
                   by_cases z : b < M m 11
                   · exact z
                   · rw [if_neg z] at hc; omega
                 rw [if_pos hlt] at hc
                 have hm := q_minus b0 hQb (by rw [hc]; exact y)
                 exact ⟨by omega, by omega, by omega, ⟨1, np, _, hm, Or.inl rfl, fun j a e => ⟨y6 j a (by omega), by omega, by omega⟩⟩, fun j a e => y6 j (by omega) e⟩)
            · first
              | exact absurd h_40 y
              | (rw [if_neg y]
                 exact ⟨by omega, by omega, by omega, ⟨0, np, _, hQb, Or.inr ⟨rfl, fun z => ⟨fun q => y (by rw [← hc, if_pos z]; exact q), b32 z⟩⟩, fun j a e => ⟨y6 j a (by omega), by omega, by omega⟩⟩, fun j a e => y6 j (by omega) e⟩))) (by decide) rfl s_t rfl rfl (Nat.le_of_ble_eq_true rfl) dX9_readSum_64 (ab_kI (fun r_64 M_64 h_64 => ?_))
          obtain ⟨hs9, hj9, hmo9, hr9⟩ := h_64
          rw [x7, x11] at hr9
          have hsn9 : same [m, m + 6] M M_64 := same_tr xs hs9
          have hjn9 : ∀ j, j ≠ 12 → M_64 m j = M m j := fun j hj => (hj9 j hj).trans (xj j hj)
          have zs : same [m, m + 6] M M_64 := hsn9
          have z7 : M_64 (m + 7) = M (m + 7) := zs _ (by simp)
          have z11 : M_64 m 11 = M m 11 := hjn9 11 (by decide)
          have zA : MoA M_64 m n p := A_t.of (hjn9 0 (by decide)) (hjn9 1 (by decide)) (hjn9 2 (by decide)) (zs _ (by simp)) (zs _ (by simp)) (zs _ (by simp))
          have hr12 : 0 ≤ M_64 m 12 ∧ M_64 m 12 ≤ M m 11 ∧ (M_64 m 12 < M m 11 → M (m + 7) (M_64 m 12) ≠ 32) := by
            rcases hr9 with ⟨-, z⟩ | ⟨-, z⟩
            · exact ⟨z.1, z.2.1, fun y => (z.2.2.1 y).1⟩
            · exact ⟨z.1, z.2.1, z.2.2.2⟩
          refine ab_istore2 (lv := []) C rfl dX9_readSum_67 ?_
          refine ab_aload_n C dX9_readSum_68 rfl rfl ?_
          refine ab_callV C cl_RX9_110 (m_X9_next B_t (by omega) (by rw [z11]; omega) (by rw [z11]; omega)) (by decide) rfl s_t rfl rfl (Nat.le_of_ble_eq_true rfl) dX9_readSum_69 (ab_kI (fun r_69 M_69 h_69 => ?_))
          obtain ⟨b9, ⟨b90, b91⟩, b9sp, b932, rfl, rfl⟩ := h_69
          rw [z11] at b91 b932 ⊢
          rw [z7] at b9sp b932 ⊢
          have eb : b9 = M_64 m 12 := by
            rcases (show b9 = M_64 m 12 ∨ M_64 m 12 < b9 by omega) with q | q
            · exact q
            · exact absurd (b9sp (M_64 m 12) (by omega) q) (hr12.2.2 (by omega))
          subst eb
          rw [up_id]
          refine ab_istore1 (lv := []) C rfl dX9_readSum_72 ?_
          refine ab_loopM (fun (y : Int × Int × AbM) => AJ K S 73 [vP m, vI y.1, vI y.2.1] [] y.2.2) (fun y => same [m, m + 6] M y.2.2 ∧ (∀ j, j ≠ 12 → y.2.2 m j = M m j) ∧ ((y.2.1 = 1 ∧ QE n p (M (m + 7)) np (M m 11) (y.2.2 m 12) (y.2.2 (m + 6)) ∧ y.1 = if y.2.2 m 12 < M m 11 then M (m + 7) (y.2.2 m 12) else -1) ∨ (y.2.1 = 0 ∧ QB n p (M (m + 7)) np (M m 11) (y.2.2 m 12)))) (fun y => (M m 11 - y.2.2 m 12).toNat) ?_ (_, _, _) ⟨hsn9, hjn9, hr9.imp (fun z => ⟨z.1, z.2, rfl⟩) (fun z => z)⟩
          · intro y hI ih
            obtain ⟨c, k, M5⟩ := y
            obtain ⟨hs5, hj5, hst⟩ := hI
            dsimp only at hs5 hj5 hst ih ⊢
            have k01 : k = 0 ∨ k = 1 := hst.symm.imp (fun z => z.1) (fun z => z.1)
            have vs : same [m, m + 6] M M5 := hs5
            have v7 : M5 (m + 7) = M (m + 7) := vs _ (by simp)
            have v11 : M5 m 11 = M m 11 := hj5 11 (by decide)
            have vA : MoA M5 m n p := A_t.of (hj5 0 (by decide)) (hj5 1 (by decide)) (hj5 2 (by decide)) (vs _ (by simp)) (vs _ (by simp)) (vs _ (by simp))
            refine ab_iload_n C dX9_readSum_73 rfl rfl ?_
            refine ab_if_eq (tgt := 137) C dX9_readSum_74 rfl (fun h_74 => ?_) (fun h_74 => ?_)
            · skip
              refine ab_iload_n C dX9_readSum_137 rfl rfl ?_
              refine ab_zret (st := []) C r (by omega) dX9_readSum_138 ?_
              rcases hst with ⟨hk, hQE, hcc⟩ | ⟨hk, hQB⟩
              · have hlt : M5 m 12 = M m 11 := by
                  by_cases y : M5 m 12 < M m 11
                  · rw [if_pos y] at hcc
                    have := hb _ hQE.1 y
                    omega
                  · have := hQE.2.1; omega
                obtain ⟨qe0, qe1, qe2, ⟨s, g, v, a, d, w, V, hQ, hs2, hsd, hMV⟩, hM0⟩ := id hQE
                rw [hlt] at hQ
                have he := q_end hQ hs2
                refine ⟨_, rfl, hs5, hj5, ⟨qe0, qe1⟩, Or.inl ⟨hk, ?_, ?_, hM0⟩⟩
                · rw [he]
                · rw [he]; exact hMV
              · exact ⟨_, rfl, hs5, hj5, ⟨hQB.1, hQB.2.1⟩, Or.inr ⟨hk, hQB.2.2.1⟩⟩
            · skip
              refine ab_iload_n C dX9_readSum_77 rfl rfl ?_
              refine ab_if_lt (tgt := 137) C dX9_readSum_78 rfl (fun h_78 => ?_) (fun h_78 => ?_)
              · skip
                refine ab_iload_n C dX9_readSum_137 rfl rfl ?_
                refine ab_zret (st := []) C r (by omega) dX9_readSum_138 ?_
                rcases hst with ⟨hk, hQE, hcc⟩ | ⟨hk, hQB⟩
                · have hlt : M5 m 12 = M m 11 := by
                    by_cases y : M5 m 12 < M m 11
                    · rw [if_pos y] at hcc
                      have := hb _ hQE.1 y
                      omega
                    · have := hQE.2.1; omega
                  obtain ⟨qe0, qe1, qe2, ⟨s, g, v, a, d, w, V, hQ, hs2, hsd, hMV⟩, hM0⟩ := id hQE
                  rw [hlt] at hQ
                  have he := q_end hQ hs2
                  refine ⟨_, rfl, hs5, hj5, ⟨qe0, qe1⟩, Or.inl ⟨hk, ?_, ?_, hM0⟩⟩
                  · rw [he]
                  · rw [he]; exact hMV
                · exact ⟨_, rfl, hs5, hj5, ⟨hQB.1, hQB.2.1⟩, Or.inr ⟨hk, hQB.2.2.1⟩⟩
              · skip
                have hE : k = 1 ∧ QE n p (M (m + 7)) np (M m 11) (M5 m 12) (M5 (m + 6)) ∧ c = if M5 m 12 < M m 11 then M (m + 7) (M5 m 12) else -1 := by
                  rcases hst with z | z
                  · exact z
                  · exact absurd z.1 h_74
                obtain ⟨-, hQE, hcc⟩ := hE
                have hlt : M5 m 12 < M m 11 := by
                  by_cases y : M5 m 12 < M m 11
                  · exact y
                  · rw [if_neg y] at hcc; omega
                rw [if_pos hlt] at hcc
                obtain ⟨qe0, qe1, qe2, ⟨s, g, v, a, d, w, V, hQ, hs2, hsd, hMV⟩, hM0⟩ := id hQE
                refine ab_iload_n C dX9_readSum_81 rfl rfl ?_
                refine ab_bipush C dX9_readSum_82 (by decide) (by decide +kernel) ?_
                refine ab_icmp_eq (tgt := 95) C dX9_readSum_84 rfl (fun h_84 => ?_) (fun h_84 => ?_)
                · skip
                  refine ab_aload_n C dX9_readSum_95 rfl rfl ?_
                  refine ab_dup C dX9_readSum_96 rfl ?_
                  refine gf_RX9_107 C s_t rfl dX9_readSum_97 ?_
                  refine ab_iconst C dX9_readSum_100 (by decide) ?_
                  refine ab_iadd C dX9_readSum_101 (by omega) ?_
                  refine pf_RX9_107 C s_t rfl dX9_readSum_102 ?_
                  obtain ⟨X, hX⟩ : ∃ X, up M5 m 12 (M5 m 12 + 1) = X := ⟨_, rfl⟩
                  rw [hX]
                  have xj : ∀ j, j ≠ 12 → X m j = M m j := fun j hj => by rw [← hX, up_i hj]; exact hj5 j hj
                  have hsX : same [m, m + 6] M X := by rw [← hX]; exact same_tr hs5 (same_up (by simp))
                  have xs : same [m, m + 6] M X := hsX
                  have x7 : X (m + 7) = M (m + 7) := xs _ (by simp)
                  have x11 : X m 11 = M m 11 := xj 11 (by decide)
                  have xA : MoA X m n p := A_t.of (xj 0 (by decide)) (xj 1 (by decide)) (xj 2 (by decide)) (xs _ (by simp)) (xs _ (by simp)) (xs _ (by simp))
                  have x12 : X m 12 = M5 m 12 + 1 := by rw [← hX, up_s]
                  have x6 : X (m + 6) = M5 (m + 6) := by rw [← hX]; exact up_row (by omega)
                  have hsg := q_sign qe0 hQ hs2 (by omega)
                  refine ab_aload_n C dX9_readSum_105 rfl rfl ?_
                  refine ab_iload_n C dX9_readSum_106 rfl rfl ?_
                  refine ab_bipush C dX9_readSum_107 (by decide) (by decide +kernel) ?_
                  refine ab_icmp_ne (tgt := 116) C dX9_readSum_109 rfl (fun h_109 => ?_) (fun h_109 => ?_)
                  · skip
                    refine ab_iconst C dX9_readSum_116 (by decide) ?_
                    refine ab_callV C cl_RX9_118 (m_X9_readTerm (np := np) B_t xA (by rw [x11]; omega) (by rw [x11, x7]; exact hb) (by
                      rw [x7, x11, x12, x6]
                      refine ⟨by omega, by omega, by omega, ⟨1, a, closeV n p (s, g, v, a, d, w) V, ?_, Or.inl rfl, fun j j0 j1 => ?_⟩, hM0⟩
                      · rw [hsg]
                        first
                        | rw [if_pos (by omega)]
                        | rw [if_neg (by omega)]
                      · have := hMV j j0 j1
                        exact ⟨this.1, by rw [← this.1]; exact this.2.1, by rw [← this.1]; exact this.2.2⟩)) (by decide) rfl s_t rfl rfl (Nat.le_of_ble_eq_true rfl) dX9_readSum_117 (ab_kI (fun r_117 M_117 h_117 => ?_))
                    obtain ⟨hs9, hj9, hmo9, hr9⟩ := h_117
                    rw [x7, x11] at hr9
                    have hsn9 : same [m, m + 6] M M_117 := same_tr xs hs9
                    have hjn9 : ∀ j, j ≠ 12 → M_117 m j = M m j := fun j hj => (hj9 j hj).trans (xj j hj)
                    have zs : same [m, m + 6] M M_117 := hsn9
                    have z7 : M_117 (m + 7) = M (m + 7) := zs _ (by simp)
                    have z11 : M_117 m 11 = M m 11 := hjn9 11 (by decide)
                    have zA : MoA M_117 m n p := A_t.of (hjn9 0 (by decide)) (hjn9 1 (by decide)) (hjn9 2 (by decide)) (zs _ (by simp)) (zs _ (by simp)) (zs _ (by simp))
                    have hr12 : 0 ≤ M_117 m 12 ∧ M_117 m 12 ≤ M m 11 ∧ (M_117 m 12 < M m 11 → M (m + 7) (M_117 m 12) ≠ 32) := by
                      rcases hr9 with ⟨-, z⟩ | ⟨-, z⟩
                      · exact ⟨z.1, z.2.1, fun y => (z.2.2.1 y).1⟩
                      · exact ⟨z.1, z.2.1, z.2.2.2⟩
                    refine ab_istore2 (lv := []) C rfl dX9_readSum_120 ?_
                    refine ab_iload_n C dX9_readSum_121 rfl rfl ?_
                    refine ab_if_eq (tgt := 132) C dX9_readSum_122 rfl (fun h_122 => ?_) (fun h_122 => ?_)
                    · skip
                      refine ab_iload_n C dX9_readSum_132 rfl rfl ?_
                      refine ab_istore1 (lv := []) C rfl dX9_readSum_133 ?_
                      refine ab_goto (tgt := 73) C dX9_readSum_134 rfl ?_
                      refine ih (_, _, _) (by dsimp only; omega) ⟨hsn9, hjn9, ?_⟩
                      first
                      | (exact hr9.imp (fun z => ⟨z.1, z.2, rfl⟩) (fun z => z); done)
                      | (rcases hr9 with z | z
                         · exact absurd (h_122.symm.trans z.1) (by decide)
                         · exact Or.inr z)
                    · skip
                      refine ab_aload_n C dX9_readSum_125 rfl rfl ?_
                      refine ab_callV C cl_RX9_110 (m_X9_next B_t (by omega) (by rw [z11]; omega) (by rw [z11]; omega)) (by decide) rfl s_t rfl rfl (Nat.le_of_ble_eq_true rfl) dX9_readSum_126 (ab_kI (fun r_126 M_126 h_126 => ?_))
                      obtain ⟨b9, ⟨b90, b91⟩, b9sp, b932, rfl, rfl⟩ := h_126
                      rw [z11] at b91 b932 ⊢
                      rw [z7] at b9sp b932 ⊢
                      have eb : b9 = M_117 m 12 := by
                        rcases (show b9 = M_117 m 12 ∨ M_117 m 12 < b9 by omega) with q | q
                        · exact q
                        · exact absurd (b9sp (M_117 m 12) (by omega) q) (hr12.2.2 (by omega))
                      subst eb
                      rw [up_id]
                      refine ab_goto (tgt := 133) C dX9_readSum_129 rfl ?_
                      refine ab_istore1 (lv := []) C rfl dX9_readSum_133 ?_
                      refine ab_goto (tgt := 73) C dX9_readSum_134 rfl ?_
                      refine ih (_, _, _) (by dsimp only; omega) ⟨hsn9, hjn9, ?_⟩
                      first
                      | (exact hr9.imp (fun z => ⟨z.1, z.2, rfl⟩) (fun z => z); done)
                      | (rcases hr9 with z | z
                         · exact absurd (h_122.symm.trans z.1) (by decide)
                         · exact Or.inr z)
                  · skip
                    exfalso; omega
                · skip
                  refine ab_iload_n C dX9_readSum_87 rfl rfl ?_
                  refine ab_bipush C dX9_readSum_88 (by decide) (by decide +kernel) ?_
                  refine ab_icmp_eq (tgt := 95) C dX9_readSum_90 rfl (fun h_90 => ?_) (fun h_90 => ?_)
                  · skip
                    refine ab_aload_n C dX9_readSum_95 rfl rfl ?_
                    refine ab_dup C dX9_readSum_96 rfl ?_
                    refine gf_RX9_107 C s_t rfl dX9_readSum_97 ?_
                    refine ab_iconst C dX9_readSum_100 (by decide) ?_
                    refine ab_iadd C dX9_readSum_101 (by omega) ?_
                    refine pf_RX9_107 C s_t rfl dX9_readSum_102 ?_
                    obtain ⟨X, hX⟩ : ∃ X, up M5 m 12 (M5 m 12 + 1) = X := ⟨_, rfl⟩
                    rw [hX]
                    have xj : ∀ j, j ≠ 12 → X m j = M m j := fun j hj => by rw [← hX, up_i hj]; exact hj5 j hj
                    have hsX : same [m, m + 6] M X := by rw [← hX]; exact same_tr hs5 (same_up (by simp))
                    have xs : same [m, m + 6] M X := hsX
                    have x7 : X (m + 7) = M (m + 7) := xs _ (by simp)
                    have x11 : X m 11 = M m 11 := xj 11 (by decide)
                    have xA : MoA X m n p := A_t.of (xj 0 (by decide)) (xj 1 (by decide)) (xj 2 (by decide)) (xs _ (by simp)) (xs _ (by simp)) (xs _ (by simp))
                    have x12 : X m 12 = M5 m 12 + 1 := by rw [← hX, up_s]
                    have x6 : X (m + 6) = M5 (m + 6) := by rw [← hX]; exact up_row (by omega)
                    have hsg := q_sign qe0 hQ hs2 (by omega)
                    refine ab_aload_n C dX9_readSum_105 rfl rfl ?_
                    refine ab_iload_n C dX9_readSum_106 rfl rfl ?_
                    refine ab_bipush C dX9_readSum_107 (by decide) (by decide +kernel) ?_
                    refine ab_icmp_ne (tgt := 116) C dX9_readSum_109 rfl (fun h_109 => ?_) (fun h_109 => ?_)
                    · skip
                      exact absurd h_90 h_109
                    · skip
                      refine ab_iconst C dX9_readSum_112 (by decide) ?_
                      refine ab_goto (tgt := 117) C dX9_readSum_113 rfl ?_
                      refine ab_callV C cl_RX9_118 (m_X9_readTerm (np := np) B_t xA (by rw [x11]; omega) (by rw [x11, x7]; exact hb) (by
                        rw [x7, x11, x12, x6]
                        refine ⟨by omega, by omega, by omega, ⟨1, a, closeV n p (s, g, v, a, d, w) V, ?_, Or.inl rfl, fun j j0 j1 => ?_⟩, hM0⟩
                        · rw [hsg]
                          first
                          | rw [if_pos (by omega)]
                          | rw [if_neg (by omega)]
                        · have := hMV j j0 j1
                          exact ⟨this.1, by rw [← this.1]; exact this.2.1, by rw [← this.1]; exact this.2.2⟩)) (by decide) rfl s_t rfl rfl (Nat.le_of_ble_eq_true rfl) dX9_readSum_117 (ab_kI (fun r_117 M_117 h_117 => ?_))
                      obtain ⟨hs9, hj9, hmo9, hr9⟩ := h_117
                      rw [x7, x11] at hr9
                      have hsn9 : same [m, m + 6] M M_117 := same_tr xs hs9
                      have hjn9 : ∀ j, j ≠ 12 → M_117 m j = M m j := fun j hj => (hj9 j hj).trans (xj j hj)
                      have zs : same [m, m + 6] M M_117 := hsn9
                      have z7 : M_117 (m + 7) = M (m + 7) := zs _ (by simp)
                      have z11 : M_117 m 11 = M m 11 := hjn9 11 (by decide)
                      have zA : MoA M_117 m n p := A_t.of (hjn9 0 (by decide)) (hjn9 1 (by decide)) (hjn9 2 (by decide)) (zs _ (by simp)) (zs _ (by simp)) (zs _ (by simp))
                      have hr12 : 0 ≤ M_117 m 12 ∧ M_117 m 12 ≤ M m 11 ∧ (M_117 m 12 < M m 11 → M (m + 7) (M_117 m 12) ≠ 32) := by
                        rcases hr9 with ⟨-, z⟩ | ⟨-, z⟩
                        · exact ⟨z.1, z.2.1, fun y => (z.2.2.1 y).1⟩
                        · exact ⟨z.1, z.2.1, z.2.2.2⟩
                      refine ab_istore2 (lv := []) C rfl dX9_readSum_120 ?_
                      refine ab_iload_n C dX9_readSum_121 rfl rfl ?_
                      refine ab_if_eq (tgt := 132) C dX9_readSum_122 rfl (fun h_122 => ?_) (fun h_122 => ?_)
                      · skip
                        refine ab_iload_n C dX9_readSum_132 rfl rfl ?_
                        refine ab_istore1 (lv := []) C rfl dX9_readSum_133 ?_
                        refine ab_goto (tgt := 73) C dX9_readSum_134 rfl ?_
                        refine ih (_, _, _) (by dsimp only; omega) ⟨hsn9, hjn9, ?_⟩
                        first
                        | (exact hr9.imp (fun z => ⟨z.1, z.2, rfl⟩) (fun z => z); done)
                        | (rcases hr9 with z | z
                           · exact absurd (h_122.symm.trans z.1) (by decide)
                           · exact Or.inr z)
                      · skip
                        refine ab_aload_n C dX9_readSum_125 rfl rfl ?_
                        refine ab_callV C cl_RX9_110 (m_X9_next B_t (by omega) (by rw [z11]; omega) (by rw [z11]; omega)) (by decide) rfl s_t rfl rfl (Nat.le_of_ble_eq_true rfl) dX9_readSum_126 (ab_kI (fun r_126 M_126 h_126 => ?_))
                        obtain ⟨b9, ⟨b90, b91⟩, b9sp, b932, rfl, rfl⟩ := h_126
                        rw [z11] at b91 b932 ⊢
                        rw [z7] at b9sp b932 ⊢
                        have eb : b9 = M_117 m 12 := by
                          rcases (show b9 = M_117 m 12 ∨ M_117 m 12 < b9 by omega) with q | q
                          · exact q
                          · exact absurd (b9sp (M_117 m 12) (by omega) q) (hr12.2.2 (by omega))
                        subst eb
                        rw [up_id]
                        refine ab_goto (tgt := 133) C dX9_readSum_129 rfl ?_
                        refine ab_istore1 (lv := []) C rfl dX9_readSum_133 ?_
                        refine ab_goto (tgt := 73) C dX9_readSum_134 rfl ?_
                        refine ih (_, _, _) (by dsimp only; omega) ⟨hsn9, hjn9, ?_⟩
                        first
                        | (exact hr9.imp (fun z => ⟨z.1, z.2, rfl⟩) (fun z => z); done)
                        | (rcases hr9 with z | z
                           · exact absurd (h_122.symm.trans z.1) (by decide)
                           · exact Or.inr z)
                  · skip
                    refine ab_iconst C dX9_readSum_93 (by decide) ?_
                    refine ab_zret (st := []) C r (by omega) dX9_readSum_94 ?_
                    refine ⟨_, rfl, hs5, hj5, ⟨qe0, qe1⟩, Or.inr ⟨rfl, ?_⟩⟩
                    exact q_fault (i := M5 m 12 + 1) (by omega) (by omega) _ (by omega) (q_bad2 qe0 hQ (qe2 hlt).2 (qe2 hlt).1 hs2 (fun z => hsd z hlt) (by rw [← hcc]; exact h_84) (by rw [← hcc]; exact h_90))
        · skip
          exact absurd h_56 h_40
      · skip
        refine ab_iconst C dX9_readSum_43 (by decide) ?_
        refine ab_goto (tgt := 48) C dX9_readSum_44 rfl ?_
        refine ab_iadd C dX9_readSum_48 (by omega) ?_
        refine pf_RX9_107 C s_t rfl dX9_readSum_49 ?_
        rw [up_up]
        obtain ⟨x9, hx9⟩ : ∃ x9, (if c = 45 then b + 1 else b) = x9 := ⟨_, rfl⟩
        refine ab_mem (M2 := up Y m 12 x9) (by rw [← hx9]; first | (rw [if_pos h_40]; done) | (rw [if_neg h_40, Int.add_zero])) ?_
        obtain ⟨X, hX⟩ : ∃ X, up Y m 12 x9 = X := ⟨_, rfl⟩
        rw [hX]
        have xj : ∀ j, j ≠ 12 → X m j = M m j := fun j hj => by rw [← hX, up_i hj]; exact yj j hj
        have hsX : same [m, m + 6] M X := by rw [← hX]; exact same_tr hsY (same_up (by simp))
        have xs : same [m, m + 6] M X := hsX
        have x7 : X (m + 7) = M (m + 7) := xs _ (by simp)
        have x11 : X m 11 = M m 11 := xj 11 (by decide)
        have xA : MoA X m n p := A_t.of (xj 0 (by decide)) (xj 1 (by decide)) (xj 2 (by decide)) (xs _ (by simp)) (xs _ (by simp)) (xs _ (by simp))
        have x12 : X m 12 = x9 := by rw [← hX, up_s]
        have x6 : X (m + 6) = Y (m + 6) := by rw [← hX]; exact up_row (by omega)
        refine ab_aload_n C dX9_readSum_52 rfl rfl ?_
        refine ab_iload_n C dX9_readSum_53 rfl rfl ?_
        refine ab_bipush C dX9_readSum_54 (by decide) (by decide +kernel) ?_
        refine ab_icmp_ne (tgt := 63) C dX9_readSum_56 rfl (fun h_56 => ?_) (fun h_56 => ?_)
        · skip
          exact absurd h_40 h_56
        · skip
          refine ab_iconst C dX9_readSum_59 (by decide) ?_
          refine ab_goto (tgt := 64) C dX9_readSum_60 rfl ?_
          refine ab_callV C cl_RX9_118 (m_X9_readTerm (np := np) B_t xA (by rw [x11]; omega) (by rw [x11, x7]; exact hb) (by
            rw [x7, x11, x12, x6, ← hx9]
            by_cases y : c = 45
            · first
              | exact absurd y h_40
              | (rw [if_pos y]
                 have hlt : b < M m 11 := by
                   by_cases z : b < M m 11
                   · exact z
                   · rw [if_neg z] at hc; omega
                 rw [if_pos hlt] at hc
                 have hm := q_minus b0 hQb (by rw [hc]; exact y)
                 exact ⟨by omega, by omega, by omega, ⟨1, np, _, hm, Or.inl rfl, fun j a e => ⟨y6 j a (by omega), by omega, by omega⟩⟩, fun j a e => y6 j (by omega) e⟩)
            · first
              | exact absurd h_40 y
              | (rw [if_neg y]
                 exact ⟨by omega, by omega, by omega, ⟨0, np, _, hQb, Or.inr ⟨rfl, fun z => ⟨fun q => y (by rw [← hc, if_pos z]; exact q), b32 z⟩⟩, fun j a e => ⟨y6 j a (by omega), by omega, by omega⟩⟩, fun j a e => y6 j (by omega) e⟩))) (by decide) rfl s_t rfl rfl (Nat.le_of_ble_eq_true rfl) dX9_readSum_64 (ab_kI (fun r_64 M_64 h_64 => ?_))
          obtain ⟨hs9, hj9, hmo9, hr9⟩ := h_64
          rw [x7, x11] at hr9
          have hsn9 : same [m, m + 6] M M_64 := same_tr xs hs9
          have hjn9 : ∀ j, j ≠ 12 → M_64 m j = M m j := fun j hj => (hj9 j hj).trans (xj j hj)
          have zs : same [m, m + 6] M M_64 := hsn9
          have z7 : M_64 (m + 7) = M (m + 7) := zs _ (by simp)
          have z11 : M_64 m 11 = M m 11 := hjn9 11 (by decide)
          have zA : MoA M_64 m n p := A_t.of (hjn9 0 (by decide)) (hjn9 1 (by decide)) (hjn9 2 (by decide)) (zs _ (by simp)) (zs _ (by simp)) (zs _ (by simp))
          have hr12 : 0 ≤ M_64 m 12 ∧ M_64 m 12 ≤ M m 11 ∧ (M_64 m 12 < M m 11 → M (m + 7) (M_64 m 12) ≠ 32) := by
            rcases hr9 with ⟨-, z⟩ | ⟨-, z⟩
            · exact ⟨z.1, z.2.1, fun y => (z.2.2.1 y).1⟩
            · exact ⟨z.1, z.2.1, z.2.2.2⟩
          refine ab_istore2 (lv := []) C rfl dX9_readSum_67 ?_
          refine ab_aload_n C dX9_readSum_68 rfl rfl ?_
          refine ab_callV C cl_RX9_110 (m_X9_next B_t (by omega) (by rw [z11]; omega) (by rw [z11]; omega)) (by decide) rfl s_t rfl rfl (Nat.le_of_ble_eq_true rfl) dX9_readSum_69 (ab_kI (fun r_69 M_69 h_69 => ?_))
          obtain ⟨b9, ⟨b90, b91⟩, b9sp, b932, rfl, rfl⟩ := h_69
          rw [z11] at b91 b932 ⊢
          rw [z7] at b9sp b932 ⊢
          have eb : b9 = M_64 m 12 := by
            rcases (show b9 = M_64 m 12 ∨ M_64 m 12 < b9 by omega) with q | q
            · exact q
            · exact absurd (b9sp (M_64 m 12) (by omega) q) (hr12.2.2 (by omega))
          subst eb
          rw [up_id]
          refine ab_istore1 (lv := []) C rfl dX9_readSum_72 ?_
          refine ab_loopM (fun (y : Int × Int × AbM) => AJ K S 73 [vP m, vI y.1, vI y.2.1] [] y.2.2) (fun y => same [m, m + 6] M y.2.2 ∧ (∀ j, j ≠ 12 → y.2.2 m j = M m j) ∧ ((y.2.1 = 1 ∧ QE n p (M (m + 7)) np (M m 11) (y.2.2 m 12) (y.2.2 (m + 6)) ∧ y.1 = if y.2.2 m 12 < M m 11 then M (m + 7) (y.2.2 m 12) else -1) ∨ (y.2.1 = 0 ∧ QB n p (M (m + 7)) np (M m 11) (y.2.2 m 12)))) (fun y => (M m 11 - y.2.2 m 12).toNat) ?_ (_, _, _) ⟨hsn9, hjn9, hr9.imp (fun z => ⟨z.1, z.2, rfl⟩) (fun z => z)⟩
          · intro y hI ih
            obtain ⟨c, k, M5⟩ := y
            obtain ⟨hs5, hj5, hst⟩ := hI
            dsimp only at hs5 hj5 hst ih ⊢
            have k01 : k = 0 ∨ k = 1 := hst.symm.imp (fun z => z.1) (fun z => z.1)
            have vs : same [m, m + 6] M M5 := hs5
            have v7 : M5 (m + 7) = M (m + 7) := vs _ (by simp)
            have v11 : M5 m 11 = M m 11 := hj5 11 (by decide)
            have vA : MoA M5 m n p := A_t.of (hj5 0 (by decide)) (hj5 1 (by decide)) (hj5 2 (by decide)) (vs _ (by simp)) (vs _ (by simp)) (vs _ (by simp))
            refine ab_iload_n C dX9_readSum_73 rfl rfl ?_
            refine ab_if_eq (tgt := 137) C dX9_readSum_74 rfl (fun h_74 => ?_) (fun h_74 => ?_)
            · skip
              refine ab_iload_n C dX9_readSum_137 rfl rfl ?_
              refine ab_zret (st := []) C r (by omega) dX9_readSum_138 ?_
              rcases hst with ⟨hk, hQE, hcc⟩ | ⟨hk, hQB⟩
              · have hlt : M5 m 12 = M m 11 := by
                  by_cases y : M5 m 12 < M m 11
                  · rw [if_pos y] at hcc
                    have := hb _ hQE.1 y
                    omega
                  · have := hQE.2.1; omega
                obtain ⟨qe0, qe1, qe2, ⟨s, g, v, a, d, w, V, hQ, hs2, hsd, hMV⟩, hM0⟩ := id hQE
                rw [hlt] at hQ
                have he := q_end hQ hs2
                refine ⟨_, rfl, hs5, hj5, ⟨qe0, qe1⟩, Or.inl ⟨hk, ?_, ?_, hM0⟩⟩
                · rw [he]
                · rw [he]; exact hMV
              · exact ⟨_, rfl, hs5, hj5, ⟨hQB.1, hQB.2.1⟩, Or.inr ⟨hk, hQB.2.2.1⟩⟩
            · skip
              refine ab_iload_n C dX9_readSum_77 rfl rfl ?_
              refine ab_if_lt (tgt := 137) C dX9_readSum_78 rfl (fun h_78 => ?_) (fun h_78 => ?_)
              · skip
                refine ab_iload_n C dX9_readSum_137 rfl rfl ?_
                refine ab_zret (st := []) C r (by omega) dX9_readSum_138 ?_
                rcases hst with ⟨hk, hQE, hcc⟩ | ⟨hk, hQB⟩
                · have hlt : M5 m 12 = M m 11 := by
                    by_cases y : M5 m 12 < M m 11
                    · rw [if_pos y] at hcc
                      have := hb _ hQE.1 y
                      omega
                    · have := hQE.2.1; omega
                  obtain ⟨qe0, qe1, qe2, ⟨s, g, v, a, d, w, V, hQ, hs2, hsd, hMV⟩, hM0⟩ := id hQE
                  rw [hlt] at hQ
                  have he := q_end hQ hs2
                  refine ⟨_, rfl, hs5, hj5, ⟨qe0, qe1⟩, Or.inl ⟨hk, ?_, ?_, hM0⟩⟩
                  · rw [he]
                  · rw [he]; exact hMV
                · exact ⟨_, rfl, hs5, hj5, ⟨hQB.1, hQB.2.1⟩, Or.inr ⟨hk, hQB.2.2.1⟩⟩
              · skip
                have hE : k = 1 ∧ QE n p (M (m + 7)) np (M m 11) (M5 m 12) (M5 (m + 6)) ∧ c = if M5 m 12 < M m 11 then M (m + 7) (M5 m 12) else -1 := by
                  rcases hst with z | z
                  · exact z
                  · exact absurd z.1 h_74
                obtain ⟨-, hQE, hcc⟩ := hE
                have hlt : M5 m 12 < M m 11 := by
                  by_cases y : M5 m 12 < M m 11
                  · exact y
                  · rw [if_neg y] at hcc; omega
                rw [if_pos hlt] at hcc
                obtain ⟨qe0, qe1, qe2, ⟨s, g, v, a, d, w, V, hQ, hs2, hsd, hMV⟩, hM0⟩ := id hQE
                refine ab_iload_n C dX9_readSum_81 rfl rfl ?_
                refine ab_bipush C dX9_readSum_82 (by decide) (by decide +kernel) ?_
                refine ab_icmp_eq (tgt := 95) C dX9_readSum_84 rfl (fun h_84 => ?_) (fun h_84 => ?_)
                · skip
                  refine ab_aload_n C dX9_readSum_95 rfl rfl ?_
                  refine ab_dup C dX9_readSum_96 rfl ?_
                  refine gf_RX9_107 C s_t rfl dX9_readSum_97 ?_
                  refine ab_iconst C dX9_readSum_100 (by decide) ?_
                  refine ab_iadd C dX9_readSum_101 (by omega) ?_
                  refine pf_RX9_107 C s_t rfl dX9_readSum_102 ?_
                  obtain ⟨X, hX⟩ : ∃ X, up M5 m 12 (M5 m 12 + 1) = X := ⟨_, rfl⟩
                  rw [hX]
                  have xj : ∀ j, j ≠ 12 → X m j = M m j := fun j hj => by rw [← hX, up_i hj]; exact hj5 j hj
                  have hsX : same [m, m + 6] M X := by rw [← hX]; exact same_tr hs5 (same_up (by simp))
                  have xs : same [m, m + 6] M X := hsX
                  have x7 : X (m + 7) = M (m + 7) := xs _ (by simp)
                  have x11 : X m 11 = M m 11 := xj 11 (by decide)
                  have xA : MoA X m n p := A_t.of (xj 0 (by decide)) (xj 1 (by decide)) (xj 2 (by decide)) (xs _ (by simp)) (xs _ (by simp)) (xs _ (by simp))
                  have x12 : X m 12 = M5 m 12 + 1 := by rw [← hX, up_s]
                  have x6 : X (m + 6) = M5 (m + 6) := by rw [← hX]; exact up_row (by omega)
                  have hsg := q_sign qe0 hQ hs2 (by omega)
                  refine ab_aload_n C dX9_readSum_105 rfl rfl ?_
                  refine ab_iload_n C dX9_readSum_106 rfl rfl ?_
                  refine ab_bipush C dX9_readSum_107 (by decide) (by decide +kernel) ?_
                  refine ab_icmp_ne (tgt := 116) C dX9_readSum_109 rfl (fun h_109 => ?_) (fun h_109 => ?_)
                  · skip
                    refine ab_iconst C dX9_readSum_116 (by decide) ?_
                    refine ab_callV C cl_RX9_118 (m_X9_readTerm (np := np) B_t xA (by rw [x11]; omega) (by rw [x11, x7]; exact hb) (by
                      rw [x7, x11, x12, x6]
                      refine ⟨by omega, by omega, by omega, ⟨1, a, closeV n p (s, g, v, a, d, w) V, ?_, Or.inl rfl, fun j j0 j1 => ?_⟩, hM0⟩
                      · rw [hsg]
                        first
                        | rw [if_pos (by omega)]
                        | rw [if_neg (by omega)]
                      · have := hMV j j0 j1
                        exact ⟨this.1, by rw [← this.1]; exact this.2.1, by rw [← this.1]; exact this.2.2⟩)) (by decide) rfl s_t rfl rfl (Nat.le_of_ble_eq_true rfl) dX9_readSum_117 (ab_kI (fun r_117 M_117 h_117 => ?_))
                    obtain ⟨hs9, hj9, hmo9, hr9⟩ := h_117
                    rw [x7, x11] at hr9
                    have hsn9 : same [m, m + 6] M M_117 := same_tr xs hs9
                    have hjn9 : ∀ j, j ≠ 12 → M_117 m j = M m j := fun j hj => (hj9 j hj).trans (xj j hj)
                    have zs : same [m, m + 6] M M_117 := hsn9
                    have z7 : M_117 (m + 7) = M (m + 7) := zs _ (by simp)
                    have z11 : M_117 m 11 = M m 11 := hjn9 11 (by decide)
                    have zA : MoA M_117 m n p := A_t.of (hjn9 0 (by decide)) (hjn9 1 (by decide)) (hjn9 2 (by decide)) (zs _ (by simp)) (zs _ (by simp)) (zs _ (by simp))
                    have hr12 : 0 ≤ M_117 m 12 ∧ M_117 m 12 ≤ M m 11 ∧ (M_117 m 12 < M m 11 → M (m + 7) (M_117 m 12) ≠ 32) := by
                      rcases hr9 with ⟨-, z⟩ | ⟨-, z⟩
                      · exact ⟨z.1, z.2.1, fun y => (z.2.2.1 y).1⟩
                      · exact ⟨z.1, z.2.1, z.2.2.2⟩
                    refine ab_istore2 (lv := []) C rfl dX9_readSum_120 ?_
                    refine ab_iload_n C dX9_readSum_121 rfl rfl ?_
                    refine ab_if_eq (tgt := 132) C dX9_readSum_122 rfl (fun h_122 => ?_) (fun h_122 => ?_)
                    · skip
                      refine ab_iload_n C dX9_readSum_132 rfl rfl ?_
                      refine ab_istore1 (lv := []) C rfl dX9_readSum_133 ?_
                      refine ab_goto (tgt := 73) C dX9_readSum_134 rfl ?_
                      refine ih (_, _, _) (by dsimp only; omega) ⟨hsn9, hjn9, ?_⟩
                      first
                      | (exact hr9.imp (fun z => ⟨z.1, z.2, rfl⟩) (fun z => z); done)
                      | (rcases hr9 with z | z
                         · exact absurd (h_122.symm.trans z.1) (by decide)
                         · exact Or.inr z)
                    · skip
                      refine ab_aload_n C dX9_readSum_125 rfl rfl ?_
                      refine ab_callV C cl_RX9_110 (m_X9_next B_t (by omega) (by rw [z11]; omega) (by rw [z11]; omega)) (by decide) rfl s_t rfl rfl (Nat.le_of_ble_eq_true rfl) dX9_readSum_126 (ab_kI (fun r_126 M_126 h_126 => ?_))
                      obtain ⟨b9, ⟨b90, b91⟩, b9sp, b932, rfl, rfl⟩ := h_126
                      rw [z11] at b91 b932 ⊢
                      rw [z7] at b9sp b932 ⊢
                      have eb : b9 = M_117 m 12 := by
                        rcases (show b9 = M_117 m 12 ∨ M_117 m 12 < b9 by omega) with q | q
                        · exact q
                        · exact absurd (b9sp (M_117 m 12) (by omega) q) (hr12.2.2 (by omega))
                      subst eb
                      rw [up_id]
                      refine ab_goto (tgt := 133) C dX9_readSum_129 rfl ?_
                      refine ab_istore1 (lv := []) C rfl dX9_readSum_133 ?_
                      refine ab_goto (tgt := 73) C dX9_readSum_134 rfl ?_
                      refine ih (_, _, _) (by dsimp only; omega) ⟨hsn9, hjn9, ?_⟩
                      first
                      | (exact hr9.imp (fun z => ⟨z.1, z.2, rfl⟩) (fun z => z); done)
                      | (rcases hr9 with z | z
                         · exact absurd (h_122.symm.trans z.1) (by decide)
                         · exact Or.inr z)
                  · skip
                    exfalso; omega
                · skip
                  refine ab_iload_n C dX9_readSum_87 rfl rfl ?_
                  refine ab_bipush C dX9_readSum_88 (by decide) (by decide +kernel) ?_
                  refine ab_icmp_eq (tgt := 95) C dX9_readSum_90 rfl (fun h_90 => ?_) (fun h_90 => ?_)
                  · skip
                    refine ab_aload_n C dX9_readSum_95 rfl rfl ?_
                    refine ab_dup C dX9_readSum_96 rfl ?_
                    refine gf_RX9_107 C s_t rfl dX9_readSum_97 ?_
                    refine ab_iconst C dX9_readSum_100 (by decide) ?_
                    refine ab_iadd C dX9_readSum_101 (by omega) ?_
                    refine pf_RX9_107 C s_t rfl dX9_readSum_102 ?_
                    obtain ⟨X, hX⟩ : ∃ X, up M5 m 12 (M5 m 12 + 1) = X := ⟨_, rfl⟩
                    rw [hX]
                    have xj : ∀ j, j ≠ 12 → X m j = M m j := fun j hj => by rw [← hX, up_i hj]; exact hj5 j hj
                    have hsX : same [m, m + 6] M X := by rw [← hX]; exact same_tr hs5 (same_up (by simp))
                    have xs : same [m, m + 6] M X := hsX
                    have x7 : X (m + 7) = M (m + 7) := xs _ (by simp)
                    have x11 : X m 11 = M m 11 := xj 11 (by decide)
                    have xA : MoA X m n p := A_t.of (xj 0 (by decide)) (xj 1 (by decide)) (xj 2 (by decide)) (xs _ (by simp)) (xs _ (by simp)) (xs _ (by simp))
                    have x12 : X m 12 = M5 m 12 + 1 := by rw [← hX, up_s]
                    have x6 : X (m + 6) = M5 (m + 6) := by rw [← hX]; exact up_row (by omega)
                    have hsg := q_sign qe0 hQ hs2 (by omega)
                    refine ab_aload_n C dX9_readSum_105 rfl rfl ?_
                    refine ab_iload_n C dX9_readSum_106 rfl rfl ?_
                    refine ab_bipush C dX9_readSum_107 (by decide) (by decide +kernel) ?_
                    refine ab_icmp_ne (tgt := 116) C dX9_readSum_109 rfl (fun h_109 => ?_) (fun h_109 => ?_)
                    · skip
                      exact absurd h_90 h_109
                    · skip
                      refine ab_iconst C dX9_readSum_112 (by decide) ?_
                      refine ab_goto (tgt := 117) C dX9_readSum_113 rfl ?_
                      refine ab_callV C cl_RX9_118 (m_X9_readTerm (np := np) B_t xA (by rw [x11]; omega) (by rw [x11, x7]; exact hb) (by
                        rw [x7, x11, x12, x6]
                        refine ⟨by omega, by omega, by omega, ⟨1, a, closeV n p (s, g, v, a, d, w) V, ?_, Or.inl rfl, fun j j0 j1 => ?_⟩, hM0⟩
                        · rw [hsg]
                          first
                          | rw [if_pos (by omega)]
                          | rw [if_neg (by omega)]
                        · have := hMV j j0 j1
                          exact ⟨this.1, by rw [← this.1]; exact this.2.1, by rw [← this.1]; exact this.2.2⟩)) (by decide) rfl s_t rfl rfl (Nat.le_of_ble_eq_true rfl) dX9_readSum_117 (ab_kI (fun r_117 M_117 h_117 => ?_))
                      obtain ⟨hs9, hj9, hmo9, hr9⟩ := h_117
                      rw [x7, x11] at hr9
                      have hsn9 : same [m, m + 6] M M_117 := same_tr xs hs9
                      have hjn9 : ∀ j, j ≠ 12 → M_117 m j = M m j := fun j hj => (hj9 j hj).trans (xj j hj)
                      have zs : same [m, m + 6] M M_117 := hsn9
                      have z7 : M_117 (m + 7) = M (m + 7) := zs _ (by simp)
                      have z11 : M_117 m 11 = M m 11 := hjn9 11 (by decide)
                      have zA : MoA M_117 m n p := A_t.of (hjn9 0 (by decide)) (hjn9 1 (by decide)) (hjn9 2 (by decide)) (zs _ (by simp)) (zs _ (by simp)) (zs _ (by simp))
                      have hr12 : 0 ≤ M_117 m 12 ∧ M_117 m 12 ≤ M m 11 ∧ (M_117 m 12 < M m 11 → M (m + 7) (M_117 m 12) ≠ 32) := by
                        rcases hr9 with ⟨-, z⟩ | ⟨-, z⟩
                        · exact ⟨z.1, z.2.1, fun y => (z.2.2.1 y).1⟩
                        · exact ⟨z.1, z.2.1, z.2.2.2⟩
                      refine ab_istore2 (lv := []) C rfl dX9_readSum_120 ?_
                      refine ab_iload_n C dX9_readSum_121 rfl rfl ?_
                      refine ab_if_eq (tgt := 132) C dX9_readSum_122 rfl (fun h_122 => ?_) (fun h_122 => ?_)
                      · skip
                        refine ab_iload_n C dX9_readSum_132 rfl rfl ?_
                        refine ab_istore1 (lv := []) C rfl dX9_readSum_133 ?_
                        refine ab_goto (tgt := 73) C dX9_readSum_134 rfl ?_
                        refine ih (_, _, _) (by dsimp only; omega) ⟨hsn9, hjn9, ?_⟩
                        first
                        | (exact hr9.imp (fun z => ⟨z.1, z.2, rfl⟩) (fun z => z); done)
                        | (rcases hr9 with z | z
                           · exact absurd (h_122.symm.trans z.1) (by decide)
                           · exact Or.inr z)
                      · skip
                        refine ab_aload_n C dX9_readSum_125 rfl rfl ?_
                        refine ab_callV C cl_RX9_110 (m_X9_next B_t (by omega) (by rw [z11]; omega) (by rw [z11]; omega)) (by decide) rfl s_t rfl rfl (Nat.le_of_ble_eq_true rfl) dX9_readSum_126 (ab_kI (fun r_126 M_126 h_126 => ?_))
                        obtain ⟨b9, ⟨b90, b91⟩, b9sp, b932, rfl, rfl⟩ := h_126
                        rw [z11] at b91 b932 ⊢
                        rw [z7] at b9sp b932 ⊢
                        have eb : b9 = M_117 m 12 := by
                          rcases (show b9 = M_117 m 12 ∨ M_117 m 12 < b9 by omega) with q | q
                          · exact q
                          · exact absurd (b9sp (M_117 m 12) (by omega) q) (hr12.2.2 (by omega))
                        subst eb
                        rw [up_id]
                        refine ab_goto (tgt := 133) C dX9_readSum_129 rfl ?_
                        refine ab_istore1 (lv := []) C rfl dX9_readSum_133 ?_
                        refine ab_goto (tgt := 73) C dX9_readSum_134 rfl ?_
                        refine ih (_, _, _) (by dsimp only; omega) ⟨hsn9, hjn9, ?_⟩
                        first
                        | (exact hr9.imp (fun z => ⟨z.1, z.2, rfl⟩) (fun z => z); done)
                        | (rcases hr9 with z | z
                           · exact absurd (h_122.symm.trans z.1) (by decide)
                           · exact Or.inr z)
                  · skip
                    refine ab_iconst C dX9_readSum_93 (by decide) ?_
                    refine ab_zret (st := []) C r (by omega) dX9_readSum_94 ?_
                    refine ⟨_, rfl, hs5, hj5, ⟨qe0, qe1⟩, Or.inr ⟨rfl, ?_⟩⟩
                    exact q_fault (i := M5 m 12 + 1) (by omega) (by omega) _ (by omega) (q_bad2 qe0 hQ (qe2 hlt).2 (qe2 hlt).1 hs2 (fun z => hsd z hlt) (by rw [← hcc]; exact h_84) (by rw [← hcc]; exact h_90))
    · skip
      refine ab_aload_n C dX9_readSum_14 rfl rfl ?_
      refine gf_RX9_35 C s_t rfl dX9_readSum_15 ?_
      refine ab_iload_n C dX9_readSum_18 rfl rfl ?_
      refine ab_iconst C dX9_readSum_19 (by decide) ?_
      refine ab_iastore C s_t_made (by omega) (by omega) dX9_readSum_20 ?_
      refine ab_iinc1 (lv := []) C rfl dX9_readSum_21 (by omega) ?_
      refine ab_goto (tgt := 7) C dX9_readSum_24 rfl ?_
      refine ab_mem (M2 := (upA (up M m 12 0) (m + 6) (fun j => if 0 ≤ j ∧ j < (i + 1) then 0 else M (m + 6) j))) ?_ (ih () (by omega) (by omega))
      rw [up_upA]
      exact upA_ext (fun j => by
        by_cases q1 : j = i
        · rw [if_pos q1, if_pos (by omega)]
        · rw [if_neg q1]
          by_cases q2 : 0 ≤ j ∧ j < i
          · rw [if_pos q2, if_pos (by omega)]
          · rw [if_neg q2, if_neg (by omega)])
