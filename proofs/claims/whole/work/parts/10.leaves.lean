set_option maxRecDepth 100000 in
set_option maxHeartbeats 4000000 in
theorem m_J7_fill_53178 {D : va_G} {cA : Nat → ClassId} {S : List AbS} {M : AbM} {k N : Nat} {v : Int} (s_arr : S[k]? = some (sA 0 N)) (hN : (N : Int) < 2147483648) : Meth yJ7_fill_53178 cJ7_fill_53178 4 none rmJ7_fill_53178 D cA S [vP k, vI v] M (qV fun M2 => upA M k (fun j => if 0 ≤ j ∧ j < (N : Int) then v else M k j) = M2) := by
  refine ab_intro (lv := [vP k, vI v, vU, vU]) (by decide +kernel) rfl (Nat.le_of_ble_eq_true rfl) ?_
  intro hO hargs K hKD hKA C r
  have C : Cx K cJ7_fill_53178 RJ7 rmJ7_fill_53178 := C
  have i_v : inI v := hargs _ (List.mem_cons_of_mem _ (List.mem_cons_self))
  refine ab_iconst C dJ7_fill_53178_0 (by decide) ?_
  refine ab_istore2 (lv := []) C rfl dJ7_fill_53178_1 ?_
  refine ab_aload_n C dJ7_fill_53178_2 rfl rfl ?_
  refine ab_alenI C s_arr (by omega) dJ7_fill_53178_3 ?_
  refine ab_istore3 (lv := []) C rfl dJ7_fill_53178_4 ?_
  refine ab_mem (upA_id (k := k) (f := fun j => if 0 ≤ j ∧ j < (0 : Int) then v else M k j) (fun j => if_neg (by omega))) ?_
  refine ab_loop (fun i (_ : Unit) => AJ K S 5 [vP k, vI v, vI i, vI (N : Int)] [] (upA M k (fun j => if 0 ≤ j ∧ j < i then v else M k j))) (fun i _ => 0 ≤ i) (N : Int) ?_ 0 () (by omega) (by omega)
  · intro i _ hi i0 ih
    refine ab_iload_n C dJ7_fill_53178_5 rfl rfl ?_
    refine ab_iload_n C dJ7_fill_53178_6 rfl rfl ?_
    refine ab_icmp_ge (tgt := 20) C dJ7_fill_53178_7 rfl (fun h_7 => ?_) (fun h_7 => ?_)
    · skip
      refine ab_vret (st := []) C r dJ7_fill_53178_20 ?_
      refine ⟨rfl, upA_ext (fun j => ?_)⟩
      have e9 : i = (N : Int) := by omega
      rw [e9]
    · skip
      refine ab_aload_n C dJ7_fill_53178_10 rfl rfl ?_
      refine ab_iload_n C dJ7_fill_53178_11 rfl rfl ?_
      refine ab_iload_n C dJ7_fill_53178_12 rfl rfl ?_
      refine ab_iastore C s_arr (by omega) (by omega) dJ7_fill_53178_13 ?_
      refine ab_iinc2 (lv := []) C rfl dJ7_fill_53178_14 (by omega) ?_
      refine ab_goto (tgt := 5) C dJ7_fill_53178_17 rfl ?_
      refine ab_mem (M2 := upA M k (fun j => if 0 ≤ j ∧ j < i + 1 then v else M k j)) ?_ (ih () (by omega) (by omega))
      rw [up_upA]
      exact upA_ext (fun j => by
        by_cases q1 : j = i
        · rw [if_pos q1, if_pos (by omega)]
        · rw [if_neg q1]
          by_cases q2 : 0 ≤ j ∧ j < i
          · rw [if_pos q2, if_pos (by omega)]
          · rw [if_neg q2, if_neg (by omega)])
set_option maxRecDepth 100000 in
set_option maxHeartbeats 4000000 in
theorem m_J7_fill_d0a16 {D : va_G} {cA : Nat → ClassId} {S : List AbS} {M : AbM} {k N : Nat} {v : Int} (s_arr : S[k]? = some (sA 2 N)) (hN : (N : Int) < 2147483648) : Meth yJ7_fill_d0a16 cJ7_fill_d0a16 5 none rmJ7_fill_d0a16 D cA S [vP k, vL v] M (qV fun M2 => upA M k (fun j => if 0 ≤ j ∧ j < (N : Int) then v else M k j) = M2) := by
  refine ab_intro (lv := [vP k, vL v, vU, vU, vU]) (by decide +kernel) rfl (Nat.le_of_ble_eq_true rfl) ?_
  intro hO hargs K hKD hKA C r
  have C : Cx K cJ7_fill_d0a16 RJ7 rmJ7_fill_d0a16 := C
  have i_v : inL v := hargs _ (List.mem_cons_of_mem _ (List.mem_cons_self))
  refine ab_iconst C dJ7_fill_d0a16_0 (by decide) ?_
  refine ab_istore3 (lv := []) C rfl dJ7_fill_d0a16_1 ?_
  refine ab_aload_n C dJ7_fill_d0a16_2 rfl rfl ?_
  refine ab_alenJ C s_arr (by omega) dJ7_fill_d0a16_3 ?_
  refine ab_istore4 (lv := []) C rfl dJ7_fill_d0a16_4 ?_
  refine ab_mem (upA_id (k := k) (f := fun j => if 0 ≤ j ∧ j < (0 : Int) then v else M k j) (fun j => if_neg (by omega))) ?_
  refine ab_loop (fun i (_ : Unit) => AJ K S 6 [vP k, vL v, vU, vI i, vI (N : Int)] [] (upA M k (fun j => if 0 ≤ j ∧ j < i then v else M k j))) (fun i _ => 0 ≤ i) (N : Int) ?_ 0 () (by omega) (by omega)
  · intro i _ hi i0 ih
    refine ab_iload_n C dJ7_fill_d0a16_6 rfl rfl ?_
    refine ab_iload C dJ7_fill_d0a16_7 rfl ?_
    refine ab_icmp_ge (tgt := 22) C dJ7_fill_d0a16_9 rfl (fun h_9 => ?_) (fun h_9 => ?_)
    · skip
      refine ab_vret (st := []) C r dJ7_fill_d0a16_22 ?_
      refine ⟨rfl, upA_ext (fun j => ?_)⟩
      have e9 : i = (N : Int) := by omega
      rw [e9]
    · skip
      refine ab_aload_n C dJ7_fill_d0a16_12 rfl rfl ?_
      refine ab_iload_n C dJ7_fill_d0a16_13 rfl rfl ?_
      refine ab_lload_n C dJ7_fill_d0a16_14 rfl rfl ?_
      refine ab_lastore C s_arr (by omega) (by omega) dJ7_fill_d0a16_15 ?_
      refine ab_iinc3 (lv := []) C rfl dJ7_fill_d0a16_16 (by omega) ?_
      refine ab_goto (tgt := 6) C dJ7_fill_d0a16_19 rfl ?_
      refine ab_mem (M2 := upA M k (fun j => if 0 ≤ j ∧ j < i + 1 then v else M k j)) ?_ (ih () (by omega) (by omega))
      rw [up_upA]
      exact upA_ext (fun j => by
        by_cases q1 : j = i
        · rw [if_pos q1, if_pos (by omega)]
        · rw [if_neg q1]
          by_cases q2 : 0 ≤ j ∧ j < i
          · rw [if_pos q2, if_pos (by omega)]
          · rw [if_neg q2, if_neg (by omega)])
set_option maxRecDepth 100000 in
set_option maxHeartbeats 4000000 in
theorem m_X7_size {D : va_G} {cA : Nat → ClassId} {S : List AbS} {M : AbM} {t : Nat} (B_t : shTa S t) : Meth yX7_size cX7_size 1 (some .int) rmX7_size D cA S [vP t] M (qI fun r M2 => M = M2 ∧ M t 1 = r) := by
  refine ab_intro (lv := [vP t]) (by decide +kernel) rfl (Nat.le_of_ble_eq_true rfl) ?_
  intro hO hargs K hKD hKA C r
  have C : Cx K cX7_size RX7 rmX7_size := C
  obtain ⟨s_t, s_t_bytes⟩ := id B_t
  refine ab_aload_n C dX7_size_0 rfl rfl ?_
  refine gf_RX7_15 C s_t rfl dX7_size_1 ?_
  refine ab_iret (st := []) C r dX7_size_4 ?_
  exact ⟨_, rfl, rfl, rfl⟩
set_option maxRecDepth 100000 in
set_option maxHeartbeats 4000000 in
theorem m_X7_at {D : va_G} {cA : Nat → ClassId} {S : List AbS} {M : AbM} {t : Nat} (B_t : shTa S t) {i : Int} (h0 : 0 ≤ i) (h1 : i < M t 1) (h2 : M t 1 ≤ 80) : Meth yX7_at cX7_at 2 (some .int) rmX7_at D cA S [vP t, vI i] M (qI fun r M2 => M = M2 ∧ M (t + 1) i = r) := by
  refine ab_intro (lv := [vP t, vI i]) (by decide +kernel) rfl (Nat.le_of_ble_eq_true rfl) ?_
  intro hO hargs K hKD hKA C r
  have C : Cx K cX7_at RX7 rmX7_at := C
  have i_i : inI i := hargs _ (List.mem_cons_of_mem _ (List.mem_cons_self))
  obtain ⟨s_t, s_t_bytes⟩ := id B_t
  refine ab_iload_n C dX7_at_0 rfl rfl ?_
  refine ab_if_lt (tgt := 21) C dX7_at_1 rfl (fun h_1 => ?_) (fun h_1 => ?_)
  · skip
    refine ab_iconst C dX7_at_21 (by decide) ?_
    refine ab_iret (st := []) C r dX7_at_22 ?_
    first | exact ⟨_, rfl, rfl, rfl⟩ | (exfalso; omega)
  · skip
    refine ab_iload_n C dX7_at_4 rfl rfl ?_
    refine ab_aload_n C dX7_at_5 rfl rfl ?_
    refine gf_RX7_15 C s_t rfl dX7_at_6 ?_
    refine ab_icmp_ge (tgt := 21) C dX7_at_9 rfl (fun h_9 => ?_) (fun h_9 => ?_)
    · skip
      refine ab_iconst C dX7_at_21 (by decide) ?_
      refine ab_iret (st := []) C r dX7_at_22 ?_
      first | exact ⟨_, rfl, rfl, rfl⟩ | (exfalso; omega)
    · skip
      refine ab_aload_n C dX7_at_12 rfl rfl ?_
      refine gf_RX7_9 C s_t rfl dX7_at_13 ?_
      refine ab_iload_n C dX7_at_16 rfl rfl ?_
      refine ab_iaload C s_t_bytes (by omega) (by omega) dX7_at_17 ?_
      refine ab_goto (tgt := 22) C dX7_at_18 rfl ?_
      refine ab_iret (st := []) C r dX7_at_22 ?_
      first | exact ⟨_, rfl, rfl, rfl⟩ | (exfalso; omega)
set_option maxRecDepth 100000 in
set_option maxHeartbeats 4000000 in
theorem m_X7_add {D : va_G} {cA : Nat → ClassId} {S : List AbS} {M : AbM} {t : Nat} (B_t : shTa S t) {c : Int} (h0 : 0 ≤ M t 1) (h1 : M t 1 < 80) : Meth yX7_add cX7_add 2 none rmX7_add D cA S [vP t, vI c] M (qV fun M2 => up (up M (t + 1) (M t 1) c) t 1 (M t 1 + 1) = M2) := by
  refine ab_intro (lv := [vP t, vI c]) (by decide +kernel) rfl (Nat.le_of_ble_eq_true rfl) ?_
  intro hO hargs K hKD hKA C r
  have C : Cx K cX7_add RX7 rmX7_add := C
  have i_c : inI c := hargs _ (List.mem_cons_of_mem _ (List.mem_cons_self))
  obtain ⟨s_t, s_t_bytes⟩ := id B_t
  refine ab_aload_n C dX7_add_0 rfl rfl ?_
  refine gf_RX7_15 C s_t rfl dX7_add_1 ?_
  refine ab_bipush C dX7_add_4 (by decide) (by decide +kernel) ?_
  refine ab_icmp_ge (tgt := 29) C dX7_add_6 rfl (fun h_6 => ?_) (fun h_6 => ?_)
  · skip
    exfalso; omega
  · skip
    refine ab_aload_n C dX7_add_9 rfl rfl ?_
    refine gf_RX7_9 C s_t rfl dX7_add_10 ?_
    refine ab_aload_n C dX7_add_13 rfl rfl ?_
    refine gf_RX7_15 C s_t rfl dX7_add_14 ?_
    refine ab_iload_n C dX7_add_17 rfl rfl ?_
    refine ab_iastore C s_t_bytes (by omega) (by omega) dX7_add_18 ?_
    refine ab_aload_n C dX7_add_19 rfl rfl ?_
    refine ab_dup C dX7_add_20 rfl ?_
    refine gf_RX7_15 C s_t rfl dX7_add_21 ?_
    rw [up_row (show t ≠ t + 1 by omega)]
    refine ab_iconst C dX7_add_24 (by decide) ?_
    refine ab_iadd C dX7_add_25 (by omega) ?_
    refine pf_RX7_15 C s_t rfl dX7_add_26 ?_
    refine ab_vret (st := []) C r dX7_add_29 ?_
    exact ⟨rfl, rfl⟩
set_option maxRecDepth 100000 in
set_option maxHeartbeats 4000000 in
theorem m_X7_clear {D : va_G} {cA : Nat → ClassId} {S : List AbS} {M : AbM} {t : Nat} (B_t : shTa S t) : Meth yX7_clear cX7_clear 1 none rmX7_clear D cA S [vP t] M (qV fun M2 => up M t 1 0 = M2) := by
  refine ab_intro (lv := [vP t]) (by decide +kernel) rfl (Nat.le_of_ble_eq_true rfl) ?_
  intro hO hargs K hKD hKA C r
  have C : Cx K cX7_clear RX7 rmX7_clear := C
  obtain ⟨s_t, s_t_bytes⟩ := id B_t
  refine ab_aload_n C dX7_clear_0 rfl rfl ?_
  refine ab_iconst C dX7_clear_1 (by decide) ?_
  refine pf_RX7_15 C s_t rfl dX7_clear_2 ?_
  refine ab_vret (st := []) C r dX7_clear_5 ?_
  exact ⟨rfl, rfl⟩
set_option maxRecDepth 100000 in
set_option maxHeartbeats 4000000 in
theorem m_X6_clear {D : va_G} {cA : Nat → ClassId} {S : List AbS} {M : AbM} {u a : Nat} (B_t : shSu S u a) : Meth yX6_clear cX6_clear 1 none rmX6_clear D cA S [vP u] M (qV fun M2 => upA M (u + 1) (fun j => if 0 ≤ j ∧ j < 364 then 0 else M (u + 1) j) = M2) := by
  refine ab_intro (lv := [vP u]) (by decide +kernel) rfl (Nat.le_of_ble_eq_true rfl) ?_
  intro hO hargs K hKD hKA C r
  have C : Cx K cX6_clear RX6 rmX6_clear := C
  obtain ⟨s_t, s_t_numbers, B_t_alphabet⟩ := id B_t
  refine ab_aload_n C dX6_clear_0 rfl rfl ?_
  refine gf_RX6_9 C s_t rfl dX6_clear_1 ?_
  refine ab_iconst C dX6_clear_4 (by decide) ?_
  refine ab_callS C cl_RX6_19 (m_J7_fill_53178 s_t_numbers (by decide)) (by decide) rfl rfl (Nat.le_of_ble_eq_true rfl) dX6_clear_5 (ab_kV (fun M_5 h_5 => ?_))
  subst h_5
  refine ab_vret (st := []) C r dX6_clear_8 ?_
  exact ⟨rfl, rfl⟩
set_option maxRecDepth 100000 in
set_option maxHeartbeats 4000000 in
theorem m_X6_copy {D : va_G} {cA : Nat → ClassId} {S : List AbS} {M : AbM} {u u2 a : Nat} (B_t : shSu S u a) (B_f : shSu S u2 a) : Meth yX6_copy cX6_copy 2 none rmX6_copy D cA S [vP u, vP u2] M (qV fun M2 => upA M (u + 1) (fun j => if 0 ≤ j ∧ j < 364 then M (u2 + 1) j else M (u + 1) j) = M2) := by
  refine ab_intro (lv := [vP u, vP u2]) (by decide +kernel) rfl (Nat.le_of_ble_eq_true rfl) ?_
  intro hO hargs K hKD hKA C r
  have C : Cx K cX6_copy RX6 rmX6_copy := C
  obtain ⟨s_t, s_t_numbers, B_t_alphabet⟩ := id B_t
  obtain ⟨s_f, s_f_numbers, -⟩ := id B_f
  refine ab_aload_n C dX6_copy_0 rfl rfl ?_
  refine gf_RX6_9 C s_f rfl dX6_copy_1 ?_
  refine ab_iconst C dX6_copy_4 (by decide) ?_
  refine ab_aload_n C dX6_copy_5 rfl rfl ?_
  refine gf_RX6_9 C s_t rfl dX6_copy_6 ?_
  refine ab_iconst C dX6_copy_9 (by decide) ?_
  refine ab_sipush C dX6_copy_10 (by decide) (by decide +kernel) ?_
  refine ab_copy C gw421 gw719 gw720 gw721 (by decide) (Nat.le_of_ble_eq_true rfl) s_f_numbers s_t_numbers (by omega) (by omega) (by omega) (by omega) (by omega) dX6_copy_13 ?_
  refine ab_vret (st := []) C r dX6_copy_16 ?_
  refine ⟨rfl, upA_ext (fun j => ?_)⟩
  simp
set_option maxRecDepth 100000 in
set_option maxHeartbeats 4000000 in
theorem m_X6_numberOf {D : va_G} {cA : Nat → ClassId} {S : List AbS} {M : AbM} {u a : Nat} {n p : Int} (B_t : shSu S u a) (A_t_alphabet : Al M a n p) (hua : u + 1 < a ∨ a + 3 < u) {d w : Int} (h0 : 0 ≤ d) (h1 : d ≤ Lg n) (w0 : 0 ≤ w) (w1 : w < pw n d) : Meth yX6_numberOf cX6_numberOf 3 (some .int) rmX6_numberOf D cA S [vP u, vI d, vI w] M (qI fun r M2 => M = M2 ∧ M (u + 1) (wsm n d + w) = r) := by
  refine ab_intro (lv := [vP u, vI d, vI w]) (by decide +kernel) rfl (Nat.le_of_ble_eq_true rfl) ?_
  intro hO hargs K hKD hKA C r
  have C : Cx K cX6_numberOf RX6 rmX6_numberOf := C
  have i_d : inI d := hargs _ (List.mem_cons_of_mem _ (List.mem_cons_self))
  have i_w : inI w := hargs _ (List.mem_cons_of_mem _ (List.mem_cons_of_mem _ (List.mem_cons_self)))
  obtain ⟨s_t, s_t_numbers, B_t_alphabet⟩ := id B_t
  obtain ⟨s_t_alphabet, -⟩ := id B_t_alphabet
  obtain ⟨⟨n1, n2, hPr⟩, -⟩ := id A_t_alphabet
  obtain ⟨p1, p2, -⟩ := id hPr
  have hLB := Lg_B n
  have hB := sz_B n1 n2 h0 h1
  refine ab_aload_n C dX6_numberOf_0 rfl rfl ?_
  refine gf_RX6_9 C s_t rfl dX6_numberOf_1 ?_
  refine ab_aload_n C dX6_numberOf_4 rfl rfl ?_
  refine gf_RX6_15 C s_t rfl dX6_numberOf_5 ?_
  refine ab_iload_n C dX6_numberOf_8 rfl rfl ?_
  refine ab_iload_n C dX6_numberOf_9 rfl rfl ?_
  refine ab_callV C cl_RX6_31 (m_X1_placeOf B_t_alphabet A_t_alphabet (by omega) (by omega) (by omega) (by omega)) (by decide) rfl s_t_alphabet rfl rfl (Nat.le_of_ble_eq_true rfl) dX6_numberOf_10 (ab_kI (fun r_10 M_10 h_10 => ?_))
  obtain ⟨rfl, rfl⟩ := h_10
  refine ab_iaload C s_t_numbers (by omega) (by omega) dX6_numberOf_13 ?_
  refine ab_iret (st := []) C r dX6_numberOf_14 ?_
  exact ⟨_, rfl, rfl, rfl⟩
set_option maxRecDepth 100000 in
set_option maxHeartbeats 4000000 in
theorem m_X6_add {D : va_G} {cA : Nat → ClassId} {S : List AbS} {M : AbM} {u a : Nat} {n p : Int} (B_t : shSu S u a) (A_t_alphabet : Al M a n p) (hua : u + 1 < a ∨ a + 3 < u) {d w : Int} (h0 : 0 ≤ d) (h1 : d ≤ Lg n) (w0 : 0 ≤ w) (w1 : w < pw n d) {v : Int} (v0 : -4000000000000000000 ≤ v) (v1 : v ≤ 4000000000000000000) : Meth yX6_add cX6_add 6 none rmX6_add D cA S [vP u, vI d, vI w, vL v] M (qV fun M2 => up M (u + 1) (wsm n d + w) ((M (u + 1) (wsm n d + w) + v) % p) = M2) := by
  refine ab_intro (lv := [vP u, vI d, vI w, vL v, vU, vU]) (by decide +kernel) rfl (Nat.le_of_ble_eq_true rfl) ?_
  intro hO hargs K hKD hKA C r
  have C : Cx K cX6_add RX6 rmX6_add := C
  have i_d : inI d := hargs _ (List.mem_cons_of_mem _ (List.mem_cons_self))
  have i_w : inI w := hargs _ (List.mem_cons_of_mem _ (List.mem_cons_of_mem _ (List.mem_cons_self)))
  have i_v : inL v := hargs _ (List.mem_cons_of_mem _ (List.mem_cons_of_mem _ (List.mem_cons_of_mem _ (List.mem_cons_self))))
  obtain ⟨s_t, s_t_numbers, B_t_alphabet⟩ := id B_t
  obtain ⟨s_t_alphabet, -⟩ := id B_t_alphabet
  obtain ⟨⟨n1, n2, hPr⟩, -⟩ := id A_t_alphabet
  obtain ⟨p1, p2, -⟩ := id hPr
  have hLB := Lg_B n
  have hB := sz_B n1 n2 h0 h1
  have hr := ab_okA hO (by decide) s_t_numbers (wsm n d + w)
  refine ab_aload_n C dX6_add_0 rfl rfl ?_
  refine gf_RX6_15 C s_t rfl dX6_add_1 ?_
  refine ab_iload_n C dX6_add_4 rfl rfl ?_
  refine ab_iload_n C dX6_add_5 rfl rfl ?_
  refine ab_callV C cl_RX6_31 (m_X1_placeOf B_t_alphabet A_t_alphabet (by omega) (by omega) (by omega) (by omega)) (by decide) rfl s_t_alphabet rfl rfl (Nat.le_of_ble_eq_true rfl) dX6_add_6 (ab_kI (fun r_6 M_6 h_6 => ?_))
  obtain ⟨rfl, rfl⟩ := h_6
  refine ab_istore5 (lv := []) C rfl dX6_add_9 ?_
  refine ab_aload_n C dX6_add_11 rfl rfl ?_
  refine gf_RX6_9 C s_t rfl dX6_add_12 ?_
  refine ab_iload C dX6_add_15 rfl ?_
  refine ab_aload_n C dX6_add_17 rfl rfl ?_
  refine gf_RX6_15 C s_t rfl dX6_add_18 ?_
  refine ab_aload_n C dX6_add_21 rfl rfl ?_
  refine gf_RX6_9 C s_t rfl dX6_add_22 ?_
  refine ab_iload C dX6_add_25 rfl ?_
  refine ab_iaload C s_t_numbers (by omega) (by omega) dX6_add_27 ?_
  refine ab_i2l C dX6_add_28 ?_
  refine ab_lload_n C dX6_add_29 rfl rfl ?_
  refine ab_ladd C dX6_add_30 (by omega) ?_
  refine ab_callV C cl_RX6_37 (m_X1_rest B_t_alphabet A_t_alphabet) (by decide) rfl s_t_alphabet rfl rfl (Nat.le_of_ble_eq_true rfl) dX6_add_31 (ab_kI (fun r_31 M_31 h_31 => ?_))
  obtain ⟨rfl, rfl⟩ := h_31
  refine ab_iastore C s_t_numbers (by omega) (by omega) dX6_add_34 ?_
  refine ab_vret (st := []) C r dX6_add_35 ?_
  exact ⟨rfl, rfl⟩
set_option maxRecDepth 100000 in
set_option maxHeartbeats 4000000 in
theorem m_X6_multiply {D : va_G} {cA : Nat → ClassId} {S : List AbS} {M : AbM} {u a : Nat} {n p : Int} (B_t : shSu S u a) (A_t_alphabet : Al M a n p) (hua : u + 1 < a ∨ a + 3 < u) {v : Int} (v0 : 0 ≤ v) (v1 : v ≤ 999) : Meth yX6_multiply cX6_multiply 3 none rmX6_multiply D cA S [vP u, vI v] M (qV fun M2 => upA M (u + 1) (fun j => if 0 ≤ j ∧ j < 364 then (M (u + 1) j * v) % p else M (u + 1) j) = M2) := by
  refine ab_intro (lv := [vP u, vI v, vU]) (by decide +kernel) rfl (Nat.le_of_ble_eq_true rfl) ?_
  intro hO hargs K hKD hKA C r
  have C : Cx K cX6_multiply RX6 rmX6_multiply := C
  have i_v : inI v := hargs _ (List.mem_cons_of_mem _ (List.mem_cons_self))
  obtain ⟨s_t, s_t_numbers, B_t_alphabet⟩ := id B_t
  obtain ⟨s_t_alphabet, -⟩ := id B_t_alphabet
  obtain ⟨⟨n1, n2, hPr⟩, -⟩ := id A_t_alphabet
  obtain ⟨p1, p2, -⟩ := id hPr
  have hLB := Lg_B n
  refine ab_iconst C dX6_multiply_0 (by decide) ?_
  refine ab_istore2 (lv := []) C rfl dX6_multiply_1 ?_
  refine ab_mem (upA_id (k := u + 1) (f := (fun j => if 0 ≤ j ∧ j < (0 : Int) then (M (u + 1) j * v) % p else M (u + 1) j)) (fun j => if_neg (by omega))) ?_
  refine ab_loop (fun i (_ : Unit) => AJ K S 2 [vP u, vI v, vI i] [] (upA M (u + 1) (fun j => if 0 ≤ j ∧ j < i then (M (u + 1) j * v) % p else M (u + 1) j))) (fun i _ => 0 ≤ i) 364 ?_ 0 () (by omega) (by omega)
  · intro i _ hi i0 ih
    have A_t_alphabet := A_t_alphabet.upA (k := u + 1) (f := (fun j => if 0 ≤ j ∧ j < i then (M (u + 1) j * v) % p else M (u + 1) j)) (by omega)
    have e1 : upA M (u + 1) (fun j => if 0 ≤ j ∧ j < i then (M (u + 1) j * v) % p else M (u + 1) j) (u + 1) i = M (u + 1) i := by rw [upA_s, if_neg (by omega)]
    have hr := ab_okA hO (by decide) s_t_numbers i
    have hm : -2147483648 * 999 ≤ M (u + 1) i * v ∧ M (u + 1) i * v ≤ 2147483648 * 999 := by
      constructor
      · exact Int.le_trans (Int.mul_le_mul_of_nonpos_left (by omega) (by omega)) (Int.mul_le_mul_of_nonneg_right (by omega) v0)
      · exact Int.le_trans (Int.mul_le_mul_of_nonneg_right (show M (u + 1) i ≤ 2147483648 by omega) v0) (by omega)
    rw [← e1] at hm
    refine ab_iload_n C dX6_multiply_2 rfl rfl ?_
    refine ab_sipush C dX6_multiply_3 (by decide) (by decide +kernel) ?_
    refine ab_icmp_ge (tgt := 38) C dX6_multiply_6 rfl (fun h_6 => ?_) (fun h_6 => ?_)
    · skip
      refine ab_vret (st := []) C r dX6_multiply_38 ?_
      refine ⟨rfl, upA_ext (fun j => ?_)⟩
      have e9 : i = 364 := by omega
      rw [e9]
    · skip
      refine ab_aload_n C dX6_multiply_9 rfl rfl ?_
      refine gf_RX6_9 C s_t rfl dX6_multiply_10 ?_
      refine ab_iload_n C dX6_multiply_13 rfl rfl ?_
      refine ab_aload_n C dX6_multiply_14 rfl rfl ?_
      refine gf_RX6_15 C s_t rfl dX6_multiply_15 ?_
      refine ab_aload_n C dX6_multiply_18 rfl rfl ?_
      refine gf_RX6_9 C s_t rfl dX6_multiply_19 ?_
      refine ab_iload_n C dX6_multiply_22 rfl rfl ?_
      refine ab_iaload C s_t_numbers (by omega) (by omega) dX6_multiply_23 ?_
      refine ab_i2l C dX6_multiply_24 ?_
      refine ab_iload_n C dX6_multiply_25 rfl rfl ?_
      refine ab_i2l C dX6_multiply_26 ?_
      refine ab_lmul C dX6_multiply_27 (by omega) ?_
      refine ab_callV C cl_RX6_37 (m_X1_rest B_t_alphabet A_t_alphabet) (by decide) rfl s_t_alphabet rfl rfl (Nat.le_of_ble_eq_true rfl) dX6_multiply_28 (ab_kI (fun r_28 M_28 h_28 => ?_))
      obtain ⟨rfl, rfl⟩ := h_28
      refine ab_iastore C s_t_numbers (by omega) (by omega) dX6_multiply_31 ?_
      refine ab_iinc2 (lv := []) C rfl dX6_multiply_32 (by omega) ?_
      refine ab_goto (tgt := 2) C dX6_multiply_35 rfl ?_
      refine ab_mem (M2 := upA M (u + 1) (fun j => if 0 ≤ j ∧ j < (i + 1) then (M (u + 1) j * v) % p else M (u + 1) j)) ?_ (ih () (by omega) (by omega))
      rw [up_upA, e1]
      exact upA_ext (fun j => by
        by_cases q1 : j = i
        · rw [if_pos q1, if_pos (by omega), q1]
        · rw [if_neg q1]
          by_cases q2 : 0 ≤ j ∧ j < i
          · rw [if_pos q2, if_pos (by omega)]
          · rw [if_neg q2, if_neg (by omega)])
set_option maxRecDepth 100000 in
set_option maxHeartbeats 4000000 in
theorem m_X6_terms {D : va_G} {cA : Nat → ClassId} {S : List AbS} {M : AbM} {u a : Nat} (B_t : shSu S u a) : Meth yX6_terms cX6_terms 3 (some .int) rmX6_terms D cA S [vP u] M (qI fun r M2 => M = M2 ∧ cntF (M (u + 1)) 364 = r) := by
  refine ab_intro (lv := [vP u, vU, vU]) (by decide +kernel) rfl (Nat.le_of_ble_eq_true rfl) ?_
  intro hO hargs K hKD hKA C r
  have C : Cx K cX6_terms RX6 rmX6_terms := C
  obtain ⟨s_t, s_t_numbers, B_t_alphabet⟩ := id B_t
  refine ab_iconst C dX6_terms_0 (by decide) ?_
  refine ab_istore1 (lv := []) C rfl dX6_terms_1 ?_
  refine ab_iconst C dX6_terms_2 (by decide) ?_
  refine ab_istore2 (lv := []) C rfl dX6_terms_3 ?_
  refine ab_loop (fun i (_ : Unit) => AJ K S 4 [vP u, vI (cntF (M (u + 1)) i), vI i] [] M) (fun i _ => 0 ≤ i) 364 ?_ 0 () (by omega) (by omega)
  · intro i _ hi i0 ih
    have hB := cntF_B (f := M (u + 1)) i0
    rw [cntF_s i0] at ih
    refine ab_iload_n C dX6_terms_4 rfl rfl ?_
    refine ab_sipush C dX6_terms_5 (by decide) (by decide +kernel) ?_
    refine ab_icmp_ge (tgt := 29) C dX6_terms_8 rfl (fun h_8 => ?_) (fun h_8 => ?_)
    · skip
      refine ab_iload_n C dX6_terms_29 rfl rfl ?_
      refine ab_iret (st := []) C r dX6_terms_30 ?_
      exact ⟨_, rfl, rfl, by rw [show i = 364 by omega]⟩
    · skip
      refine ab_aload_n C dX6_terms_11 rfl rfl ?_
      refine gf_RX6_9 C s_t rfl dX6_terms_12 ?_
      refine ab_iload_n C dX6_terms_15 rfl rfl ?_
      refine ab_iaload C s_t_numbers (by omega) (by omega) dX6_terms_16 ?_
      refine ab_if_eq (tgt := 23) C dX6_terms_17 rfl (fun h_17 => ?_) (fun h_17 => ?_)
      · skip
        refine ab_iinc2 (lv := []) C rfl dX6_terms_23 (by omega) ?_
        refine ab_goto (tgt := 4) C dX6_terms_26 rfl ?_
        first | (rw [if_pos h_17, Int.add_zero] at ih; exact ih () (by omega) (by omega)) | (rw [if_neg h_17] at ih; exact ih () (by omega) (by omega))
      · skip
        refine ab_iinc1 (lv := []) C rfl dX6_terms_20 (by omega) ?_
        refine ab_iinc2 (lv := []) C rfl dX6_terms_23 (by omega) ?_
        refine ab_goto (tgt := 4) C dX6_terms_26 rfl ?_
        first | (rw [if_pos h_17, Int.add_zero] at ih; exact ih () (by omega) (by omega)) | (rw [if_neg h_17] at ih; exact ih () (by omega) (by omega))
set_option maxRecDepth 100000 in
set_option maxHeartbeats 4000000 in
theorem m_X6_hasTermsOf {D : va_G} {cA : Nat → ClassId} {S : List AbS} {M : AbM} {u a : Nat} {n p : Int} (B_t : shSu S u a) (A_t_alphabet : Al M a n p) (hua : u + 1 < a ∨ a + 3 < u) {d : Int} (h0 : 0 ≤ d) (h1 : d ≤ Lg n) : Meth yX6_hasTermsOf cX6_hasTermsOf 3 (some .boolean) rmX6_hasTermsOf D cA S [vP u, vI d] M (qI fun r M2 => M = M2 ∧ (if cntF (fun w => M (u + 1) (wsm n d + w)) (pw n d) = 0 then 0 else 1) = r) := by
  refine ab_intro (lv := [vP u, vI d, vU]) (by decide +kernel) rfl (Nat.le_of_ble_eq_true rfl) ?_
  intro hO hargs K hKD hKA C r
  have C : Cx K cX6_hasTermsOf RX6 rmX6_hasTermsOf := C
  have i_d : inI d := hargs _ (List.mem_cons_of_mem _ (List.mem_cons_self))
  obtain ⟨s_t, s_t_numbers, B_t_alphabet⟩ := id B_t
  obtain ⟨s_t_alphabet, -⟩ := id B_t_alphabet
  obtain ⟨⟨n1, n2, hPr⟩, -⟩ := id A_t_alphabet
  obtain ⟨p1, p2, -⟩ := id hPr
  have hLB := Lg_B n
  have hB := sz_B n1 n2 h0 h1
  refine ab_iconst C dX6_hasTermsOf_0 (by decide) ?_
  refine ab_istore2 (lv := []) C rfl dX6_hasTermsOf_1 ?_
  refine ab_loop (fun i (_ : Unit) => AJ K S 2 [vP u, vI d, vI i] [] M) (fun i _ => 0 ≤ i ∧ cntF (fun w => M (u + 1) (wsm n d + w)) i = 0) (pw n d) ?_ 0 () (by omega) ⟨by omega, rfl⟩
  · intro i _ hi hI ih
    obtain ⟨i0, hc⟩ := hI
    rw [cntF_s i0, hc] at ih
    refine ab_iload_n C dX6_hasTermsOf_2 rfl rfl ?_
    refine ab_aload_n C dX6_hasTermsOf_3 rfl rfl ?_
    refine gf_RX6_15 C s_t rfl dX6_hasTermsOf_4 ?_
    refine ab_iload_n C dX6_hasTermsOf_7 rfl rfl ?_
    refine ab_callV C cl_RX6_41 (m_X1_words B_t_alphabet A_t_alphabet (by omega) (by omega)) (by decide) rfl s_t_alphabet rfl rfl (Nat.le_of_ble_eq_true rfl) dX6_hasTermsOf_8 (ab_kI (fun r_8 M_8 h_8 => ?_))
    obtain ⟨rfl, rfl⟩ := h_8
    refine ab_icmp_ge (tgt := 31) C dX6_hasTermsOf_11 rfl (fun h_11 => ?_) (fun h_11 => ?_)
    · skip
      refine ab_iconst C dX6_hasTermsOf_31 (by decide) ?_
      refine ab_zret (st := []) C r (by omega) dX6_hasTermsOf_32 ?_
      refine ⟨_, rfl, rfl, ?_⟩
      rw [if_pos]
      have e9 : i = pw n d := by omega
      rw [← e9]; exact hc
    · skip
      refine ab_aload_n C dX6_hasTermsOf_14 rfl rfl ?_
      refine ab_iload_n C dX6_hasTermsOf_15 rfl rfl ?_
      refine ab_iload_n C dX6_hasTermsOf_16 rfl rfl ?_
      refine ab_callV C cl_RX6_45 (m_X6_numberOf B_t (by assumption) (by omega) (by omega) (by omega) (by omega) (by omega)) (by decide) rfl s_t rfl rfl (Nat.le_of_ble_eq_true rfl) dX6_hasTermsOf_17 (ab_kI (fun r_17 M_17 h_17 => ?_))
      obtain ⟨rfl, rfl⟩ := h_17
      refine ab_if_eq (tgt := 25) C dX6_hasTermsOf_20 rfl (fun h_20 => ?_) (fun h_20 => ?_)
      · skip
        refine ab_iinc2 (lv := []) C rfl dX6_hasTermsOf_25 (by omega) ?_
        refine ab_goto (tgt := 2) C dX6_hasTermsOf_28 rfl ?_
        exact ih () (by omega) ⟨by omega, by rw [if_pos h_20]; rfl⟩
      · skip
        refine ab_iconst C dX6_hasTermsOf_23 (by decide) ?_
        refine ab_zret (st := []) C r (by omega) dX6_hasTermsOf_24 ?_
        refine ⟨_, rfl, rfl, ?_⟩
        rw [if_neg]
        intro z
        exact h_20 ((cntF_eq0 (by omega)).mp z i i0 (by omega))
