set_option maxRecDepth 100000 in
set_option maxHeartbeats 4000000 in
theorem m_X2_rank {D : va_G} {cA : Nat → ClassId} {S : List AbS} {M : AbM} {c a : Nat} (B_t : shEc S c a) : Meth yX2_rank cX2_rank 1 (some .int) rmX2_rank D cA S [vP c] M (qI fun r M2 => M = M2 ∧ M c 5 = r) := by
  refine ab_intro (lv := [vP c]) (by decide +kernel) rfl (Nat.le_of_ble_eq_true rfl) ?_
  intro hO hargs K hKD hKA C r
  have C : Cx K cX2_rank RX2 rmX2_rank := C
  obtain ⟨s_t, -⟩ := id B_t
  refine ab_aload_n C dX2_rank_0 rfl rfl ?_
  refine gf_RX2_39 C s_t rfl dX2_rank_1 ?_
  refine ab_iret (st := []) C r dX2_rank_4 ?_
  exact ⟨_, rfl, rfl, rfl⟩
set_option maxRecDepth 100000 in
set_option maxHeartbeats 4000000 in
theorem m_X2_open {D : va_G} {cA : Nat → ClassId} {S : List AbS} {M : AbM} {c a : Nat} {m : Int} (B_t : shEc S c a) (m0 : 0 ≤ m) (m1 : m ≤ 81) : Meth yX2_open cX2_open 3 none rmX2_open D cA S [vP c, vI m] M (qV fun M2 => upA (up (up M c 4 m) c 5 0) (c + 2) (fun j => if 0 ≤ j ∧ j < m then 0 else M (c + 2) j) = M2) := by
  refine ab_intro (lv := [vP c, vI m, vU]) (by decide +kernel) rfl (Nat.le_of_ble_eq_true rfl) ?_
  intro hO hargs K hKD hKA C r
  have C : Cx K cX2_open RX2 rmX2_open := C
  have i_m : inI m := hargs _ (List.mem_cons_of_mem _ (List.mem_cons_self))
  obtain ⟨s_t, s_t_rows, s_t_taken, s_t_equation, B_t_alphabet⟩ := id B_t
  refine ab_aload_n C dX2_open_0 rfl rfl ?_
  refine ab_iconst C dX2_open_1 (by decide) ?_
  refine ab_iload_n C dX2_open_2 rfl rfl ?_
  refine ab_bipush C dX2_open_3 (by decide) (by decide +kernel) ?_
  refine ab_mmin C gw363 gw714 gw715 gw716 (by decide) (Nat.le_of_ble_eq_true rfl) dX2_open_5 ?_
  refine ab_mmax C gw364 gw717 gw715 gw718 (by decide) (Nat.le_of_ble_eq_true rfl) dX2_open_8 ?_
  rw [show max 0 (min m 81) = m by omega]
  refine pf_RX2_35 C s_t rfl dX2_open_11 ?_
  refine ab_aload_n C dX2_open_14 rfl rfl ?_
  refine ab_iconst C dX2_open_15 (by decide) ?_
  refine pf_RX2_39 C s_t rfl dX2_open_16 ?_
  refine ab_iconst C dX2_open_19 (by decide) ?_
  refine ab_istore2 (lv := []) C rfl dX2_open_20 ?_
  refine ab_mem (M2 := upA (up (up M c 4 m) c 5 0) (c + 2) (fun j => if 0 ≤ j ∧ j < (0 : Int) then 0 else M (c + 2) j)) (upA_id (fun j => by rw [if_neg (by omega), up_k (by omega), up_k (by omega)])) ?_
  refine ab_loop (fun i (_ : Unit) => AJ K S 21 [vP c, vI m, vI i] [] (upA (up (up M c 4 m) c 5 0) (c + 2) (fun j => if 0 ≤ j ∧ j < i then 0 else M (c + 2) j))) (fun i _ => 0 ≤ i) m ?_ 0 () (by omega) (by omega)
  · intro i _ hi i0 ih
    have e4 : upA (up (up M c 4 m) c 5 0) (c + 2) (fun j => if 0 ≤ j ∧ j < i then 0 else M (c + 2) j) c 4 = m := by rw [upA_k (by omega), up_i (by omega), up_s]
    refine ab_iload_n C dX2_open_21 rfl rfl ?_
    refine ab_aload_n C dX2_open_22 rfl rfl ?_
    refine gf_RX2_35 C s_t rfl dX2_open_23 ?_
    refine ab_icmp_ge (tgt := 42) C dX2_open_26 rfl (fun h_26 => ?_) (fun h_26 => ?_)
    · skip
      refine ab_vret (st := []) C r dX2_open_42 ?_
      refine ⟨rfl, upA_ext (fun j => ?_)⟩
      have e9 : i = m := by omega
      rw [e9]
    · skip
      refine ab_aload_n C dX2_open_29 rfl rfl ?_
      refine gf_RX2_15 C s_t rfl dX2_open_30 ?_
      refine ab_iload_n C dX2_open_33 rfl rfl ?_
      refine ab_iconst C dX2_open_34 (by decide) ?_
      refine ab_bastore C s_t_taken (by omega) (by omega) (by omega) dX2_open_35 ?_
      refine ab_iinc2 (lv := []) C rfl dX2_open_36 (by omega) ?_
      refine ab_goto (tgt := 21) C dX2_open_39 rfl ?_
      refine ab_mem (M2 := upA (up (up M c 4 m) c 5 0) (c + 2) (fun j => if 0 ≤ j ∧ j < (i + 1) then 0 else M (c + 2) j)) ?_ (ih () (by omega) (by omega))
      rw [up_upA]
      exact upA_ext (fun j => by
        by_cases q1 : j = i
        · rw [if_pos q1, if_pos (by omega)]
        · rw [if_neg q1]
          by_cases q2 : 0 ≤ j ∧ j < i
          · rw [if_pos q2, if_pos (by omega)]
          · rw [if_neg q2, if_neg (by omega)])
set_option maxRecDepth 100000 in
set_option maxHeartbeats 4000000 in
theorem m_X2_set {D : va_G} {cA : Nat → ClassId} {S : List AbS} {M : AbM} {c a : Nat} {n p : Int} (B_t : shEc S c a) (A_t_alphabet : Al M a n p) (hca : c + 3 < a ∨ a + 3 < c) {i x : Int} (h0 : 0 ≤ i) (h1 : i < M c 4) (h2 : M c 4 ≤ 81) : Meth yX2_set cX2_set 3 none rmX2_set D cA S [vP c, vI i, vI x] M (qV fun M2 => up M (c + 3) i (x % p) = M2) := by
  refine ab_intro (lv := [vP c, vI i, vI x]) (by decide +kernel) rfl (Nat.le_of_ble_eq_true rfl) ?_
  intro hO hargs K hKD hKA C r
  have C : Cx K cX2_set RX2 rmX2_set := C
  have i_i : inI i := hargs _ (List.mem_cons_of_mem _ (List.mem_cons_self))
  have i_x : inI x := hargs _ (List.mem_cons_of_mem _ (List.mem_cons_of_mem _ (List.mem_cons_self)))
  obtain ⟨s_t, s_t_rows, s_t_taken, s_t_equation, B_t_alphabet⟩ := id B_t
  obtain ⟨s_t_alphabet, -⟩ := id B_t_alphabet
  obtain ⟨⟨n1, n2, hPr⟩, -⟩ := id A_t_alphabet
  obtain ⟨p1, p2, -⟩ := id hPr
  refine ab_iload_n C dX2_set_0 rfl rfl ?_
  refine ab_if_lt (tgt := 27) C dX2_set_1 rfl (fun h_1 => ?_) (fun h_1 => ?_)
  · skip
    exfalso; omega
  · skip
    refine ab_iload_n C dX2_set_4 rfl rfl ?_
    refine ab_aload_n C dX2_set_5 rfl rfl ?_
    refine gf_RX2_35 C s_t rfl dX2_set_6 ?_
    refine ab_icmp_ge (tgt := 27) C dX2_set_9 rfl (fun h_9 => ?_) (fun h_9 => ?_)
    · skip
      exfalso; omega
    · skip
      refine ab_aload_n C dX2_set_12 rfl rfl ?_
      refine gf_RX2_19 C s_t rfl dX2_set_13 ?_
      refine ab_iload_n C dX2_set_16 rfl rfl ?_
      refine ab_aload_n C dX2_set_17 rfl rfl ?_
      refine gf_RX2_22 C s_t rfl dX2_set_18 ?_
      refine ab_iload_n C dX2_set_21 rfl rfl ?_
      refine ab_i2l C dX2_set_22 ?_
      refine ab_callV C cl_RX2_42 (m_X1_rest B_t_alphabet A_t_alphabet) (by decide) rfl s_t_alphabet rfl rfl (Nat.le_of_ble_eq_true rfl) dX2_set_23 (ab_kI (fun r_23 M_23 h_23 => ?_))
      obtain ⟨rfl, rfl⟩ := h_23
      refine ab_iastore C s_t_equation (by omega) (by omega) dX2_set_26 ?_
      refine ab_vret (st := []) C r dX2_set_27 ?_
      exact ⟨rfl, rfl⟩
set_option maxRecDepth 100000 in
set_option maxHeartbeats 4000000 in
theorem m_X2_keep {D : va_G} {cA : Nat → ClassId} {S : List AbS} {M : AbM} {c a : Nat} {n p : Int} (B_t : shEc S c a) (A_t_alphabet : Al M a n p) (hca : c + 3 < a ∨ a + 3 < c) {i : Int} (h0 : 0 ≤ i) (h1 : i < M c 4) (h2 : M c 4 ≤ 81) (hq : rngB p (M c 4) (M (c + 3))) (hn : M (c + 3) i ≠ 0) (hrk : M c 5 < 1000) : Meth yX2_keep cX2_keep 4 none rmX2_keep D cA S [vP c, vI i] M (qV fun M2 => up (up (upA M (c + 1) (keepE p (M c 4) i (M (c + 1)) (M (c + 3)))) (c + 2) i 1) c 5 (M c 5 + 1) = M2) := by
  refine ab_intro (lv := [vP c, vI i, vU, vU]) (by decide +kernel) rfl (Nat.le_of_ble_eq_true rfl) ?_
  intro hO hargs K hKD hKA C r
  have C : Cx K cX2_keep RX2 rmX2_keep := C
  have i_i : inI i := hargs _ (List.mem_cons_of_mem _ (List.mem_cons_self))
  obtain ⟨s_t, s_t_rows, s_t_taken, s_t_equation, B_t_alphabet⟩ := id B_t
  obtain ⟨s_t_alphabet, -⟩ := id B_t_alphabet
  obtain ⟨⟨n1, n2, hPr⟩, -⟩ := id A_t_alphabet
  obtain ⟨p1, p2, -⟩ := id hPr
  have hq1 := hq i h0 h1
  obtain ⟨v1, v2, -⟩ := ivf_ok (v := M (c + 3) i) hPr (by omega) (by omega)
  refine ab_aload_n C dX2_keep_0 rfl rfl ?_
  refine gf_RX2_22 C s_t rfl dX2_keep_1 ?_
  refine ab_aload_n C dX2_keep_4 rfl rfl ?_
  refine gf_RX2_19 C s_t rfl dX2_keep_5 ?_
  refine ab_iload_n C dX2_keep_8 rfl rfl ?_
  refine ab_iaload C s_t_equation (by omega) (by omega) dX2_keep_9 ?_
  refine ab_callV C cl_RX2_55 (m_X1_inverse B_t_alphabet A_t_alphabet (by omega) (by omega)) (by decide) rfl s_t_alphabet rfl rfl (Nat.le_of_ble_eq_true rfl) dX2_keep_10 (ab_kI (fun r_10 M_10 h_10 => ?_))
  obtain ⟨rfl, rfl⟩ := h_10
  refine ab_istore2 (lv := []) C rfl dX2_keep_13 ?_
  refine ab_iload_n C dX2_keep_14 rfl rfl ?_
  refine ab_istore3 (lv := []) C rfl dX2_keep_15 ?_
  refine ab_mem (M2 := upA M (c + 1) (fun x => if i * 81 + i ≤ x ∧ x < i * 81 + i then (M (c + 3) (x - i * 81) * ivf p (M (c + 3) i)) % p else M (c + 1) x)) (upA_id (fun j => if_neg (by omega))) ?_
  refine ab_loop (fun j (_ : Unit) => AJ K S 16 [vP c, vI i, vI (ivf p (M (c + 3) i)), vI j] [] (upA M (c + 1) (fun x => if i * 81 + i ≤ x ∧ x < i * 81 + j then (M (c + 3) (x - i * 81) * ivf p (M (c + 3) i)) % p else M (c + 1) x))) (fun j _ => i ≤ j) (M c 4) ?_ i () (by omega) (by omega)
  · intro j _ hj ij ih
    have e4 : upA M (c + 1) (fun x => if i * 81 + i ≤ x ∧ x < i * 81 + j then (M (c + 3) (x - i * 81) * ivf p (M (c + 3) i)) % p else M (c + 1) x) c 4 = M c 4 := upA_k (by omega)
    have A_t_alphabet := A_t_alphabet.upA (k := c + 1) (f := (fun x => if i * 81 + i ≤ x ∧ x < i * 81 + j then (M (c + 3) (x - i * 81) * ivf p (M (c + 3) i)) % p else M (c + 1) x)) (by omega)
    have hm : j < M c 4 → 0 ≤ M (c + 3) j * ivf p (M (c + 3) i) ∧ M (c + 3) j * ivf p (M (c + 3) i) ≤ 97 * 97 := fun z => by
      have := hq j (by omega) z
      exact ⟨Int.mul_nonneg (by omega) (by omega), Int.mul_le_mul (by omega) (by omega) (by omega) (by omega)⟩
    refine ab_iload_n C dX2_keep_16 rfl rfl ?_
    refine ab_aload_n C dX2_keep_17 rfl rfl ?_
    refine gf_RX2_35 C s_t rfl dX2_keep_18 ?_
    refine ab_icmp_ge (tgt := 58) C dX2_keep_21 rfl (fun h_21 => ?_) (fun h_21 => ?_)
    · skip
      refine ab_aload_n C dX2_keep_58 rfl rfl ?_
      refine gf_RX2_15 C s_t rfl dX2_keep_59 ?_
      refine ab_iload_n C dX2_keep_62 rfl rfl ?_
      refine ab_iconst C dX2_keep_63 (by decide) ?_
      refine ab_bastore C s_t_taken (by omega) (by omega) (by omega) dX2_keep_64 ?_
      refine ab_aload_n C dX2_keep_65 rfl rfl ?_
      refine ab_dup C dX2_keep_66 rfl ?_
      refine gf_RX2_39 C s_t rfl dX2_keep_67 ?_
      (try simp (disch := omega) only [up_k, upA_k])
      refine ab_iconst C dX2_keep_70 (by decide) ?_
      refine ab_iadd C dX2_keep_71 (by have := ab_okI hO s_t 5; omega) ?_
      refine pf_RX2_39 C s_t rfl dX2_keep_72 ?_
      refine ab_vret (st := []) C r dX2_keep_75 ?_
      have e9 : j = M c 4 := by omega
      subst e9
      exact ⟨rfl, rfl⟩
    · skip
      refine ab_aload_n C dX2_keep_24 rfl rfl ?_
      refine gf_RX2_9 C s_t rfl dX2_keep_25 ?_
      refine ab_iload_n C dX2_keep_28 rfl rfl ?_
      refine ab_bipush C dX2_keep_29 (by decide) (by decide +kernel) ?_
      refine ab_imul C dX2_keep_31 (by omega) ?_
      refine ab_iload_n C dX2_keep_32 rfl rfl ?_
      refine ab_iadd C dX2_keep_33 (by omega) ?_
      refine ab_aload_n C dX2_keep_34 rfl rfl ?_
      refine gf_RX2_22 C s_t rfl dX2_keep_35 ?_
      refine ab_aload_n C dX2_keep_38 rfl rfl ?_
      refine gf_RX2_19 C s_t rfl dX2_keep_39 ?_
      refine ab_iload_n C dX2_keep_42 rfl rfl ?_
      refine ab_iaload C s_t_equation (by omega) (by omega) dX2_keep_43 ?_
      rw [upA_k (show c + 3 ≠ c + 1 by omega)]
      refine ab_i2l C dX2_keep_44 ?_
      refine ab_iload_n C dX2_keep_45 rfl rfl ?_
      refine ab_i2l C dX2_keep_46 ?_
      refine ab_lmul C dX2_keep_47 (by omega) ?_
      refine ab_callV C cl_RX2_42 (m_X1_rest B_t_alphabet A_t_alphabet) (by decide) rfl s_t_alphabet rfl rfl (Nat.le_of_ble_eq_true rfl) dX2_keep_48 (ab_kI (fun r_48 M_48 h_48 => ?_))
      obtain ⟨rfl, rfl⟩ := h_48
      refine ab_iastore C s_t_rows (by omega) (by omega) dX2_keep_51 ?_
      refine ab_iinc3 (lv := []) C rfl dX2_keep_52 (by omega) ?_
      refine ab_goto (tgt := 16) C dX2_keep_55 rfl ?_
      refine ab_mem (M2 := upA M (c + 1) (fun x => if i * 81 + i ≤ x ∧ x < i * 81 + (j + 1) then (M (c + 3) (x - i * 81) * ivf p (M (c + 3) i)) % p else M (c + 1) x)) ?_ (ih () (by omega) (by omega))
      rw [up_upA]
      exact upA_ext (fun x => by
        by_cases q1 : x = i * 81 + j
        · rw [if_pos q1, if_pos (by omega), q1, show i * 81 + j - i * 81 = j by omega]
        · rw [if_neg q1]
          by_cases q2 : i * 81 + i ≤ x ∧ x < i * 81 + j
          · rw [if_pos q2, if_pos (by omega)]
          · rw [if_neg q2, if_neg (by omega)])
set_option maxRecDepth 100000 in
set_option maxHeartbeats 4000000 in
theorem m_X2_subtractRow {D : va_G} {cA : Nat → ClassId} {S : List AbS} {M : AbM} {c a : Nat} {n p : Int} (B_t : shEc S c a) (A_t_alphabet : Al M a n p) (hca : c + 3 < a ∨ a + 3 < c) {i : Int} (h0 : 0 ≤ i) (h1 : i < M c 4) (h2 : M c 4 ≤ 81) (hq : rngB p (M c 4) (M (c + 3))) (hE : ∀ j, i ≤ j → j < M c 4 → 0 ≤ M (c + 1) (i * 81 + j) ∧ M (c + 1) (i * 81 + j) < p) : Meth yX2_subtractRow cX2_subtractRow 4 none rmX2_subtractRow D cA S [vP c, vI i] M (qV fun M2 => upA M (c + 3) (subE p (M c 4) i (M (c + 1)) (M (c + 3))) = M2) := by
  refine ab_intro (lv := [vP c, vI i, vU, vU]) (by decide +kernel) rfl (Nat.le_of_ble_eq_true rfl) ?_
  intro hO hargs K hKD hKA C r
  have C : Cx K cX2_subtractRow RX2 rmX2_subtractRow := C
  have i_i : inI i := hargs _ (List.mem_cons_of_mem _ (List.mem_cons_self))
  obtain ⟨s_t, s_t_rows, s_t_taken, s_t_equation, B_t_alphabet⟩ := id B_t
  obtain ⟨s_t_alphabet, -⟩ := id B_t_alphabet
  obtain ⟨⟨n1, n2, hPr⟩, -⟩ := id A_t_alphabet
  obtain ⟨p1, p2, -⟩ := id hPr
  have hq1 := hq i h0 h1
  refine ab_aload_n C dX2_subtractRow_0 rfl rfl ?_
  refine gf_RX2_19 C s_t rfl dX2_subtractRow_1 ?_
  refine ab_iload_n C dX2_subtractRow_4 rfl rfl ?_
  refine ab_iaload C s_t_equation (by omega) (by omega) dX2_subtractRow_5 ?_
  refine ab_istore2 (lv := []) C rfl dX2_subtractRow_6 ?_
  refine ab_iload_n C dX2_subtractRow_7 rfl rfl ?_
  refine ab_istore3 (lv := []) C rfl dX2_subtractRow_8 ?_
  refine ab_mem (M2 := upA M (c + 3) (fun x => if i ≤ x ∧ x < i then (M (c + 3) x - M (c + 3) i * M (c + 1) (i * 81 + x)) % p else M (c + 3) x)) (upA_id (fun j => if_neg (by omega))) ?_
  refine ab_loop (fun j (_ : Unit) => AJ K S 9 [vP c, vI i, vI (M (c + 3) i), vI j] [] (upA M (c + 3) (fun x => if i ≤ x ∧ x < j then (M (c + 3) x - M (c + 3) i * M (c + 1) (i * 81 + x)) % p else M (c + 3) x))) (fun j _ => i ≤ j) (M c 4) ?_ i () (by omega) (by omega)
  · intro j _ hj ij ih
    have e4 : upA M (c + 3) (fun x => if i ≤ x ∧ x < j then (M (c + 3) x - M (c + 3) i * M (c + 1) (i * 81 + x)) % p else M (c + 3) x) c 4 = M c 4 := upA_k (by omega)
    have A_t_alphabet := A_t_alphabet.upA (k := c + 3) (f := (fun x => if i ≤ x ∧ x < j then (M (c + 3) x - M (c + 3) i * M (c + 1) (i * 81 + x)) % p else M (c + 3) x)) (by omega)
    have hm : j < M c 4 → 0 ≤ M (c + 3) i * M (c + 1) (i * 81 + j) ∧ M (c + 3) i * M (c + 1) (i * 81 + j) ≤ 97 * 97 ∧ 0 ≤ M (c + 3) j ∧ M (c + 3) j < p := fun z => by
      have h8 := hE j ij z
      have h9 := hq j (by omega) z
      exact ⟨Int.mul_nonneg (by omega) (by omega), Int.mul_le_mul (by omega) (by omega) (by omega) (by omega), h9⟩
    refine ab_iload_n C dX2_subtractRow_9 rfl rfl ?_
    refine ab_aload_n C dX2_subtractRow_10 rfl rfl ?_
    refine gf_RX2_35 C s_t rfl dX2_subtractRow_11 ?_
    refine ab_icmp_ge (tgt := 59) C dX2_subtractRow_14 rfl (fun h_14 => ?_) (fun h_14 => ?_)
    · skip
      refine ab_vret (st := []) C r dX2_subtractRow_59 ?_
      have e9 : j = M c 4 := by omega
      subst e9
      exact ⟨rfl, rfl⟩
    · skip
      refine ab_aload_n C dX2_subtractRow_17 rfl rfl ?_
      refine gf_RX2_19 C s_t rfl dX2_subtractRow_18 ?_
      refine ab_iload_n C dX2_subtractRow_21 rfl rfl ?_
      refine ab_aload_n C dX2_subtractRow_22 rfl rfl ?_
      refine gf_RX2_22 C s_t rfl dX2_subtractRow_23 ?_
      refine ab_aload_n C dX2_subtractRow_26 rfl rfl ?_
      refine gf_RX2_19 C s_t rfl dX2_subtractRow_27 ?_
      refine ab_iload_n C dX2_subtractRow_30 rfl rfl ?_
      refine ab_iaload C s_t_equation (by omega) (by omega) dX2_subtractRow_31 ?_
      rw [upA_s, if_neg (show ¬ (i ≤ j ∧ j < j) by omega)]
      refine ab_i2l C dX2_subtractRow_32 ?_
      refine ab_iload_n C dX2_subtractRow_33 rfl rfl ?_
      refine ab_i2l C dX2_subtractRow_34 ?_
      refine ab_aload_n C dX2_subtractRow_35 rfl rfl ?_
      refine gf_RX2_9 C s_t rfl dX2_subtractRow_36 ?_
      refine ab_iload_n C dX2_subtractRow_39 rfl rfl ?_
      refine ab_bipush C dX2_subtractRow_40 (by decide) (by decide +kernel) ?_
      refine ab_imul C dX2_subtractRow_42 (by omega) ?_
      refine ab_iload_n C dX2_subtractRow_43 rfl rfl ?_
      refine ab_iadd C dX2_subtractRow_44 (by omega) ?_
      refine ab_iaload C s_t_rows (by omega) (by omega) dX2_subtractRow_45 ?_
      rw [upA_k (show c + 1 ≠ c + 3 by omega)]
      refine ab_i2l C dX2_subtractRow_46 ?_
      refine ab_lmul C dX2_subtractRow_47 (by omega) ?_
      refine ab_lsub C dX2_subtractRow_48 (by omega) ?_
      refine ab_callV C cl_RX2_42 (m_X1_rest B_t_alphabet A_t_alphabet) (by decide) rfl s_t_alphabet rfl rfl (Nat.le_of_ble_eq_true rfl) dX2_subtractRow_49 (ab_kI (fun r_49 M_49 h_49 => ?_))
      obtain ⟨rfl, rfl⟩ := h_49
      refine ab_iastore C s_t_equation (by omega) (by omega) dX2_subtractRow_52 ?_
      refine ab_iinc3 (lv := []) C rfl dX2_subtractRow_53 (by omega) ?_
      refine ab_goto (tgt := 9) C dX2_subtractRow_56 rfl ?_
      refine ab_mem (M2 := upA M (c + 3) (fun x => if i ≤ x ∧ x < (j + 1) then (M (c + 3) x - M (c + 3) i * M (c + 1) (i * 81 + x)) % p else M (c + 3) x)) ?_ (ih () (by omega) (by omega))
      rw [up_upA]
      exact upA_ext (fun x => by
        by_cases q1 : x = j
        · rw [if_pos q1, if_pos (by omega), q1]
        · rw [if_neg q1]
          by_cases q2 : i ≤ x ∧ x < j
          · rw [if_pos q2, if_pos (by omega)]
          · rw [if_neg q2, if_neg (by omega)])
set_option maxRecDepth 100000 in
set_option maxHeartbeats 4000000 in
theorem m_X2_take {D : va_G} {cA : Nat → ClassId} {S : List AbS} {M : AbM} {c a : Nat} {n p : Int} (B_t : shEc S c a) (A_t_alphabet : Al M a n p) (hca : c + 3 < a ∨ a + 3 < c) (m0 : 0 ≤ M c 4) (m1 : M c 4 ≤ 81) (hq : rngB p (M c 4) (M (c + 3))) (hE : rngE p (M c 4) (M (c + 1)) (M (c + 2))) (hrk : M c 5 < 1000) : Meth yX2_take cX2_take 2 none rmX2_take D cA S [vP c] M (qV fun M2 => (elim p (M c 4) (M (c + 1)) (M (c + 2)) (M c 4).toNat 0 (M (c + 3)) = none ∧ ∃ q, M2 = upA M (c + 3) q) ∨ ∃ i q, elim p (M c 4) (M (c + 1)) (M (c + 2)) (M c 4).toNat 0 (M (c + 3)) = some (i, q) ∧ M2 = up (up (upA (upA M (c + 3) q) (c + 1) (keepE p (M c 4) i (M (c + 1)) q)) (c + 2) i 1) c 5 (M c 5 + 1)) := by
  refine ab_intro (lv := [vP c, vU]) (by decide +kernel) rfl (Nat.le_of_ble_eq_true rfl) ?_
  intro hO hargs K hKD hKA C r
  have C : Cx K cX2_take RX2 rmX2_take := C
  obtain ⟨s_t, s_t_rows, s_t_taken, s_t_equation, B_t_alphabet⟩ := id B_t
  obtain ⟨s_t_alphabet, -⟩ := id B_t_alphabet
  obtain ⟨⟨n1, n2, hPr⟩, -⟩ := id A_t_alphabet
  obtain ⟨p1, p2, -⟩ := id hPr
  refine ab_iconst C dX2_take_0 (by decide) ?_
  refine ab_istore1 (lv := []) C rfl dX2_take_1 ?_
  refine ab_mem (M2 := upA M (c + 3) (M (c + 3))) (upA_self M (c + 3)).symm ?_
  refine ab_loop (fun i (q : Int → Int) => AJ K S 2 [vP c, vI i] [] (upA M (c + 3) q)) (fun i q => 0 ≤ i ∧ rngB p (M c 4) q ∧ elim p (M c 4) (M (c + 1)) (M (c + 2)) (M c 4).toNat 0 (M (c + 3)) = elim p (M c 4) (M (c + 1)) (M (c + 2)) (M c 4 - i).toNat i q) (M c 4) ?_ 0 (M (c + 3)) (by omega) ⟨by omega, hq, by rw [Int.sub_zero]⟩
  · intro i q hi hI ih
    obtain ⟨i0, hqq, he⟩ := hI
    have e4 : upA M (c + 3) q c 4 = M c 4 := upA_k (by omega)
    have e1 : upA M (c + 3) q (c + 1) = M (c + 1) := upA_row (by omega)
    have e2 : upA M (c + 3) q (c + 2) = M (c + 2) := upA_row (by omega)
    have e3 : upA M (c + 3) q (c + 3) = q := by funext x; exact upA_s
    have e5 : upA M (c + 3) q c 5 = M c 5 := upA_k (by omega)
    have A_t_alphabet := A_t_alphabet.upA (k := c + 3) (f := q) (by omega)
    have hu : i < M c 4 → (M c 4 - i).toNat = (M c 4 - (i + 1)).toNat + 1 := fun z => by omega
    refine ab_iload_n C dX2_take_2 rfl rfl ?_
    refine ab_aload_n C dX2_take_3 rfl rfl ?_
    refine gf_RX2_35 C s_t rfl dX2_take_4 ?_
    refine ab_icmp_ge (tgt := 45) C dX2_take_7 rfl (fun h_7 => ?_) (fun h_7 => ?_)
    · skip
      refine ab_vret (st := []) C r dX2_take_45 ?_
      refine ⟨rfl, Or.inl ⟨?_, q, rfl⟩⟩
      rw [he, show (M c 4 - i).toNat = 0 by omega]
      rfl
    · skip
      refine ab_aload_n C dX2_take_10 rfl rfl ?_
      refine gf_RX2_19 C s_t rfl dX2_take_11 ?_
      refine ab_iload_n C dX2_take_14 rfl rfl ?_
      refine ab_iaload C s_t_equation (by omega) (by omega) dX2_take_15 ?_
      refine ab_if_eq (tgt := 39) C dX2_take_16 rfl (fun h_16 => ?_) (fun h_16 => ?_)
      · skip
        refine ab_iinc1 (lv := []) C rfl dX2_take_39 (by omega) ?_
        refine ab_goto (tgt := 2) C dX2_take_42 rfl ?_
        have hlt : i < M c 4 := by omega
        rw [hu hlt, elim_s] at he
        first
        | (rw [e3] at h_16
           rw [if_pos h_16] at he
           exact ih q hlt ⟨by omega, hqq, he⟩)
        | (rw [e3] at h_16
           rw [e2] at h_25
           rw [if_neg h_16, if_neg h_25] at he
           refine ab_mem (M2 := upA M (c + 3) (subE p (M c 4) i (M (c + 1)) q)) (by rw [e4, e1, e3, upA_upA]) ?_
           exact ih _ hlt ⟨by omega, rngB_sub p1 hqq, he⟩)
      · skip
        refine ab_aload_n C dX2_take_19 rfl rfl ?_
        refine gf_RX2_15 C s_t rfl dX2_take_20 ?_
        refine ab_iload_n C dX2_take_23 rfl rfl ?_
        refine ab_baload C s_t_taken (by omega) (by omega) dX2_take_24 ?_
        refine ab_if_ne (tgt := 34) C dX2_take_25 rfl (fun h_25 => ?_) (fun h_25 => ?_)
        · skip
          refine ab_aload_n C dX2_take_34 rfl rfl ?_
          refine ab_iload_n C dX2_take_35 rfl rfl ?_
          refine ab_callV C cl_RX2_52 (m_X2_subtractRow B_t (by assumption) (by omega) (by omega) (by omega) (by omega) (by rw [e4, e3]; exact hqq) (by rw [e4, e1]; rw [e2] at h_25; exact fun j a b => hE i j i0 a b h_25)) (by decide) rfl s_t rfl rfl (Nat.le_of_ble_eq_true rfl) dX2_take_36 (ab_kV (fun M_36 h_36 => ?_))
          subst h_36
          refine ab_iinc1 (lv := []) C rfl dX2_take_39 (by omega) ?_
          refine ab_goto (tgt := 2) C dX2_take_42 rfl ?_
          have hlt : i < M c 4 := by omega
          rw [hu hlt, elim_s] at he
          first
          | (rw [e3] at h_16
             rw [if_pos h_16] at he
             exact ih q hlt ⟨by omega, hqq, he⟩)
          | (rw [e3] at h_16
             rw [e2] at h_25
             rw [if_neg h_16, if_neg h_25] at he
             refine ab_mem (M2 := upA M (c + 3) (subE p (M c 4) i (M (c + 1)) q)) (by rw [e4, e1, e3, upA_upA]) ?_
             exact ih _ hlt ⟨by omega, rngB_sub p1 hqq, he⟩)
        · skip
          refine ab_aload_n C dX2_take_28 rfl rfl ?_
          refine ab_iload_n C dX2_take_29 rfl rfl ?_
          refine ab_callV C cl_RX2_48 (m_X2_keep B_t (by assumption) (by omega) (by omega) (by omega) (by omega) (by rw [e4, e3]; exact hqq) h_16 (by omega)) (by decide) rfl s_t rfl rfl (Nat.le_of_ble_eq_true rfl) dX2_take_30 (ab_kV (fun M_30 h_30 => ?_))
          subst h_30
          refine ab_vret (st := []) C r dX2_take_33 ?_
          refine ⟨rfl, Or.inr ⟨i, q, ?_, ?_⟩⟩
          · rw [he, hu (by omega), elim_s]
            rw [e3] at h_16
            rw [e2] at h_25
            rw [if_neg h_16, if_pos h_25]
          · rw [e4, e1, e3, e5]
