set_option maxRecDepth 100000 in
set_option maxHeartbeats 4000000 in
theorem m_X1_letters {D : va_G} {cA : Nat → ClassId} {S : List AbS} {M : AbM} {a : Nat} {n p : Int} (B_t : shAl S a) (A_t : Al M a n p) : Meth yX1_letters cX1_letters 1 (some .int) rmX1_letters D cA S [vP a] M (qI fun r M2 => M = M2 ∧ n = r) := by
  refine ab_intro (lv := [vP a]) (by decide +kernel) rfl (Nat.le_of_ble_eq_true rfl) ?_
  intro hO hargs K hKD hKA C r
  have C : Cx K cX1_letters RX1 rmX1_letters := C
  obtain ⟨s_t, s_t_words, s_t_wordStarts, s_t_formStarts⟩ := id B_t
  obtain ⟨⟨n1, n2, hPr⟩, e_n, e_p, e_L, e_w⟩ := id A_t
  obtain ⟨p1, p2, -⟩ := id hPr
  refine ab_aload_n C dX1_letters_0 rfl rfl ?_
  refine gf_RX1_25 C s_t rfl dX1_letters_1 ?_
  refine ab_iret (st := []) C r dX1_letters_4 ?_
  exact ⟨_, rfl, rfl, e_n.symm⟩
set_option maxRecDepth 100000 in
set_option maxHeartbeats 4000000 in
theorem m_X1_prime {D : va_G} {cA : Nat → ClassId} {S : List AbS} {M : AbM} {a : Nat} {n p : Int} (B_t : shAl S a) (A_t : Al M a n p) : Meth yX1_prime cX1_prime 1 (some .int) rmX1_prime D cA S [vP a] M (qI fun r M2 => M = M2 ∧ p = r) := by
  refine ab_intro (lv := [vP a]) (by decide +kernel) rfl (Nat.le_of_ble_eq_true rfl) ?_
  intro hO hargs K hKD hKA C r
  have C : Cx K cX1_prime RX1 rmX1_prime := C
  obtain ⟨s_t, s_t_words, s_t_wordStarts, s_t_formStarts⟩ := id B_t
  obtain ⟨⟨n1, n2, hPr⟩, e_n, e_p, e_L, e_w⟩ := id A_t
  obtain ⟨p1, p2, -⟩ := id hPr
  refine ab_aload_n C dX1_prime_0 rfl rfl ?_
  refine gf_RX1_29 C s_t rfl dX1_prime_1 ?_
  refine ab_iret (st := []) C r dX1_prime_4 ?_
  exact ⟨_, rfl, rfl, e_p.symm⟩
set_option maxRecDepth 100000 in
set_option maxHeartbeats 4000000 in
theorem m_X1_longest {D : va_G} {cA : Nat → ClassId} {S : List AbS} {M : AbM} {a : Nat} {n p : Int} (B_t : shAl S a) (A_t : Al M a n p) : Meth yX1_longest cX1_longest 1 (some .int) rmX1_longest D cA S [vP a] M (qI fun r M2 => M = M2 ∧ Lg n = r) := by
  refine ab_intro (lv := [vP a]) (by decide +kernel) rfl (Nat.le_of_ble_eq_true rfl) ?_
  intro hO hargs K hKD hKA C r
  have C : Cx K cX1_longest RX1 rmX1_longest := C
  obtain ⟨s_t, s_t_words, s_t_wordStarts, s_t_formStarts⟩ := id B_t
  obtain ⟨⟨n1, n2, hPr⟩, e_n, e_p, e_L, e_w⟩ := id A_t
  obtain ⟨p1, p2, -⟩ := id hPr
  refine ab_aload_n C dX1_longest_0 rfl rfl ?_
  refine gf_RX1_35 C s_t rfl dX1_longest_1 ?_
  refine ab_iret (st := []) C r dX1_longest_4 ?_
  exact ⟨_, rfl, rfl, e_L.symm⟩
set_option maxRecDepth 100000 in
set_option maxHeartbeats 4000000 in
theorem m_X1_words {D : va_G} {cA : Nat → ClassId} {S : List AbS} {M : AbM} {a : Nat} {n p : Int} (B_t : shAl S a) (A_t : Al M a n p) {d : Int} (h0 : 0 ≤ d) (h1 : d ≤ Lg n) : Meth yX1_words cX1_words 2 (some .int) rmX1_words D cA S [vP a, vI d] M (qI fun r M2 => M = M2 ∧ pw n d = r) := by
  refine ab_intro (lv := [vP a, vI d]) (by decide +kernel) rfl (Nat.le_of_ble_eq_true rfl) ?_
  intro hO hargs K hKD hKA C r
  have C : Cx K cX1_words RX1 rmX1_words := C
  have i_d : inI d := hargs _ (List.mem_cons_of_mem _ (List.mem_cons_self))
  obtain ⟨s_t, s_t_words, s_t_wordStarts, s_t_formStarts⟩ := id B_t
  obtain ⟨⟨n1, n2, hPr⟩, e_n, e_p, e_L, e_w⟩ := id A_t
  obtain ⟨p1, p2, -⟩ := id hPr
  have hLB := Lg_B n
  refine ab_aload_n C dX1_words_0 rfl rfl ?_
  refine gf_RX1_9 C s_t rfl dX1_words_1 ?_
  refine ab_iload_n C dX1_words_4 rfl rfl ?_
  refine ab_iaload C s_t_words (by omega) (by omega) dX1_words_5 ?_
  refine ab_iret (st := []) C r dX1_words_6 ?_
  exact ⟨_, rfl, rfl, (e_w d h0 h1).1.symm⟩
set_option maxRecDepth 100000 in
set_option maxHeartbeats 4000000 in
theorem m_X1_hasLength {D : va_G} {cA : Nat → ClassId} {S : List AbS} {M : AbM} {a : Nat} {n p : Int} (B_t : shAl S a) (A_t : Al M a n p) {d : Int} : Meth yX1_hasLength cX1_hasLength 2 (some .boolean) rmX1_hasLength D cA S [vP a, vI d] M (qI fun r M2 => M = M2 ∧ (if 0 ≤ d ∧ d ≤ Lg n then 1 else 0) = r) := by
  refine ab_intro (lv := [vP a, vI d]) (by decide +kernel) rfl (Nat.le_of_ble_eq_true rfl) ?_
  intro hO hargs K hKD hKA C r
  have C : Cx K cX1_hasLength RX1 rmX1_hasLength := C
  have i_d : inI d := hargs _ (List.mem_cons_of_mem _ (List.mem_cons_self))
  obtain ⟨s_t, s_t_words, s_t_wordStarts, s_t_formStarts⟩ := id B_t
  obtain ⟨⟨n1, n2, hPr⟩, e_n, e_p, e_L, e_w⟩ := id A_t
  obtain ⟨p1, p2, -⟩ := id hPr
  refine ab_iload_n C dX1_hasLength_0 rfl rfl ?_
  refine ab_if_lt (tgt := 16) C dX1_hasLength_1 rfl (fun h_1 => ?_) (fun h_1 => ?_)
  · skip
    refine ab_iconst C dX1_hasLength_16 (by decide) ?_
    refine ab_zret (st := []) C r (by omega) dX1_hasLength_17 ?_
    exact ⟨_, rfl, rfl, by rw [e_L] at *; first | rw [if_pos (by omega)] | rw [if_neg (by omega)]⟩
  · skip
    refine ab_iload_n C dX1_hasLength_4 rfl rfl ?_
    refine ab_aload_n C dX1_hasLength_5 rfl rfl ?_
    refine gf_RX1_35 C s_t rfl dX1_hasLength_6 ?_
    refine ab_icmp_gt (tgt := 16) C dX1_hasLength_9 rfl (fun h_9 => ?_) (fun h_9 => ?_)
    · skip
      refine ab_iconst C dX1_hasLength_16 (by decide) ?_
      refine ab_zret (st := []) C r (by omega) dX1_hasLength_17 ?_
      exact ⟨_, rfl, rfl, by rw [e_L] at *; first | rw [if_pos (by omega)] | rw [if_neg (by omega)]⟩
    · skip
      refine ab_iconst C dX1_hasLength_12 (by decide) ?_
      refine ab_goto (tgt := 17) C dX1_hasLength_13 rfl ?_
      refine ab_zret (st := []) C r (by omega) dX1_hasLength_17 ?_
      exact ⟨_, rfl, rfl, by rw [e_L] at *; first | rw [if_pos (by omega)] | rw [if_neg (by omega)]⟩
set_option maxRecDepth 100000 in
set_option maxHeartbeats 4000000 in
theorem m_X1_placeOf {D : va_G} {cA : Nat → ClassId} {S : List AbS} {M : AbM} {a : Nat} {n p : Int} (B_t : shAl S a) (A_t : Al M a n p) {d w : Int} (h0 : 0 ≤ d) (h1 : d ≤ Lg n) (w0 : 0 ≤ w) (w1 : w < pw n d) : Meth yX1_placeOf cX1_placeOf 3 (some .int) rmX1_placeOf D cA S [vP a, vI d, vI w] M (qI fun r M2 => M = M2 ∧ wsm n d + w = r) := by
  refine ab_intro (lv := [vP a, vI d, vI w]) (by decide +kernel) rfl (Nat.le_of_ble_eq_true rfl) ?_
  intro hO hargs K hKD hKA C r
  have C : Cx K cX1_placeOf RX1 rmX1_placeOf := C
  have i_d : inI d := hargs _ (List.mem_cons_of_mem _ (List.mem_cons_self))
  have i_w : inI w := hargs _ (List.mem_cons_of_mem _ (List.mem_cons_of_mem _ (List.mem_cons_self)))
  obtain ⟨s_t, s_t_words, s_t_wordStarts, s_t_formStarts⟩ := id B_t
  obtain ⟨⟨n1, n2, hPr⟩, e_n, e_p, e_L, e_w⟩ := id A_t
  obtain ⟨p1, p2, -⟩ := id hPr
  have hLB := Lg_B n
  have hB := sz_B n1 n2 h0 h1
  have e2 := (e_w d h0 h1).2.1
  refine ab_aload_n C dX1_placeOf_0 rfl rfl ?_
  refine gf_RX1_15 C s_t rfl dX1_placeOf_1 ?_
  refine ab_iload_n C dX1_placeOf_4 rfl rfl ?_
  refine ab_iaload C s_t_wordStarts (by omega) (by omega) dX1_placeOf_5 ?_
  refine ab_iload_n C dX1_placeOf_6 rfl rfl ?_
  refine ab_iadd C dX1_placeOf_7 (by omega) ?_
  refine ab_iret (st := []) C r dX1_placeOf_8 ?_
  exact ⟨_, rfl, rfl, by rw [e2]⟩
set_option maxRecDepth 100000 in
set_option maxHeartbeats 4000000 in
theorem m_X1_formAt {D : va_G} {cA : Nat → ClassId} {S : List AbS} {M : AbM} {a : Nat} {n p : Int} (B_t : shAl S a) (A_t : Al M a n p) {d w : Int} (h0 : 0 ≤ d) (h1 : d ≤ Lg n) (w0 : 0 ≤ w) (w1 : w < pw n d) : Meth yX1_formAt cX1_formAt 3 (some .int) rmX1_formAt D cA S [vP a, vI d, vI w] M (qI fun r M2 => M = M2 ∧ fsm n d + w * (w + 1) / 2 = r) := by
  refine ab_intro (lv := [vP a, vI d, vI w]) (by decide +kernel) rfl (Nat.le_of_ble_eq_true rfl) ?_
  intro hO hargs K hKD hKA C r
  have C : Cx K cX1_formAt RX1 rmX1_formAt := C
  have i_d : inI d := hargs _ (List.mem_cons_of_mem _ (List.mem_cons_self))
  have i_w : inI w := hargs _ (List.mem_cons_of_mem _ (List.mem_cons_of_mem _ (List.mem_cons_self)))
  obtain ⟨s_t, s_t_words, s_t_wordStarts, s_t_formStarts⟩ := id B_t
  obtain ⟨⟨n1, n2, hPr⟩, e_n, e_p, e_L, e_w⟩ := id A_t
  obtain ⟨p1, p2, -⟩ := id hPr
  have hLB := Lg_B n
  have hB := sz_B n1 n2 h0 h1
  have e3 := (e_w d h0 h1).2.2
  have hm : 0 ≤ w * (w + 1) ∧ w * (w + 1) ≤ 242 * 243 := ⟨Int.mul_nonneg w0 (by omega), Int.mul_le_mul (by omega) (by omega) (by omega) (by omega)⟩
  have ht := tri_lt w0 w1
  refine ab_aload_n C dX1_formAt_0 rfl rfl ?_
  refine gf_RX1_18 C s_t rfl dX1_formAt_1 ?_
  refine ab_iload_n C dX1_formAt_4 rfl rfl ?_
  refine ab_iaload C s_t_formStarts (by omega) (by omega) dX1_formAt_5 ?_
  refine ab_iload_n C dX1_formAt_6 rfl rfl ?_
  refine ab_iload_n C dX1_formAt_7 rfl rfl ?_
  refine ab_iconst C dX1_formAt_8 (by decide) ?_
  refine ab_iadd C dX1_formAt_9 (by omega) ?_
  refine ab_imul C dX1_formAt_10 (by omega) ?_
  refine ab_iconst C dX1_formAt_11 (by decide) ?_
  refine ab_idiv C dX1_formAt_12 (by omega) (by omega) ?_
  refine ab_iadd C dX1_formAt_13 (by omega) ?_
  refine ab_iret (st := []) C r dX1_formAt_14 ?_
  exact ⟨_, rfl, rfl, by rw [e3]⟩
set_option maxRecDepth 100000 in
set_option maxHeartbeats 4000000 in
theorem m_X1_ahead {D : va_G} {cA : Nat → ClassId} {S : List AbS} {M : AbM} {a : Nat} {n p : Int} (B_t : shAl S a) (A_t : Al M a n p) {x d w : Int} (x0 : 0 ≤ x) (x1 : x < n) (h0 : 0 ≤ d) (h1 : d ≤ Lg n) (w0 : 0 ≤ w) (w1 : w < pw n d) : Meth yX1_ahead cX1_ahead 4 (some .int) rmX1_ahead D cA S [vP a, vI x, vI d, vI w] M (qI fun r M2 => M = M2 ∧ x * pw n d + w = r) := by
  refine ab_intro (lv := [vP a, vI x, vI d, vI w]) (by decide +kernel) rfl (Nat.le_of_ble_eq_true rfl) ?_
  intro hO hargs K hKD hKA C r
  have C : Cx K cX1_ahead RX1 rmX1_ahead := C
  have i_x : inI x := hargs _ (List.mem_cons_of_mem _ (List.mem_cons_self))
  have i_d : inI d := hargs _ (List.mem_cons_of_mem _ (List.mem_cons_of_mem _ (List.mem_cons_self)))
  have i_w : inI w := hargs _ (List.mem_cons_of_mem _ (List.mem_cons_of_mem _ (List.mem_cons_of_mem _ (List.mem_cons_self))))
  obtain ⟨s_t, s_t_words, s_t_wordStarts, s_t_formStarts⟩ := id B_t
  obtain ⟨⟨n1, n2, hPr⟩, e_n, e_p, e_L, e_w⟩ := id A_t
  obtain ⟨p1, p2, -⟩ := id hPr
  have hLB := Lg_B n
  have hB := sz_B n1 n2 h0 h1
  have e1 := (e_w d h0 h1).1
  have hm : 0 ≤ x * M (a + 1) d ∧ x * M (a + 1) d ≤ 2 * 243 := by rw [e1]; exact ⟨Int.mul_nonneg x0 (by omega), Int.mul_le_mul (by omega) (by omega) (by omega) (by omega)⟩
  refine ab_iload_n C dX1_ahead_0 rfl rfl ?_
  refine ab_aload_n C dX1_ahead_1 rfl rfl ?_
  refine gf_RX1_9 C s_t rfl dX1_ahead_2 ?_
  refine ab_iload_n C dX1_ahead_5 rfl rfl ?_
  refine ab_iaload C s_t_words (by omega) (by omega) dX1_ahead_6 ?_
  refine ab_imul C dX1_ahead_7 (by omega) ?_
  refine ab_iload_n C dX1_ahead_8 rfl rfl ?_
  refine ab_iadd C dX1_ahead_9 (by omega) ?_
  refine ab_iret (st := []) C r dX1_ahead_10 ?_
  exact ⟨_, rfl, rfl, by rw [e1]⟩
set_option maxRecDepth 100000 in
set_option maxHeartbeats 4000000 in
theorem m_X1_behind {D : va_G} {cA : Nat → ClassId} {S : List AbS} {M : AbM} {a : Nat} {n p : Int} (B_t : shAl S a) (A_t : Al M a n p) {w x : Int} (x0 : 0 ≤ x) (x1 : x < n) (w0 : 0 ≤ w) (w1 : w ≤ 729) : Meth yX1_behind cX1_behind 3 (some .int) rmX1_behind D cA S [vP a, vI w, vI x] M (qI fun r M2 => M = M2 ∧ w * n + x = r) := by
  refine ab_intro (lv := [vP a, vI w, vI x]) (by decide +kernel) rfl (Nat.le_of_ble_eq_true rfl) ?_
  intro hO hargs K hKD hKA C r
  have C : Cx K cX1_behind RX1 rmX1_behind := C
  have i_w : inI w := hargs _ (List.mem_cons_of_mem _ (List.mem_cons_self))
  have i_x : inI x := hargs _ (List.mem_cons_of_mem _ (List.mem_cons_of_mem _ (List.mem_cons_self)))
  obtain ⟨s_t, s_t_words, s_t_wordStarts, s_t_formStarts⟩ := id B_t
  obtain ⟨⟨n1, n2, hPr⟩, e_n, e_p, e_L, e_w⟩ := id A_t
  obtain ⟨p1, p2, -⟩ := id hPr
  have hm : 0 ≤ w * M a 3 ∧ w * M a 3 ≤ 729 * 3 := by rw [e_n]; exact ⟨Int.mul_nonneg w0 (by omega), Int.mul_le_mul (by omega) (by omega) (by omega) (by omega)⟩
  refine ab_iload_n C dX1_behind_0 rfl rfl ?_
  refine ab_aload_n C dX1_behind_1 rfl rfl ?_
  refine gf_RX1_25 C s_t rfl dX1_behind_2 ?_
  refine ab_imul C dX1_behind_5 (by omega) ?_
  refine ab_iload_n C dX1_behind_6 rfl rfl ?_
  refine ab_iadd C dX1_behind_7 (by omega) ?_
  refine ab_iret (st := []) C r dX1_behind_8 ?_
  exact ⟨_, rfl, rfl, by rw [e_n]⟩
set_option maxRecDepth 100000 in
set_option maxHeartbeats 4000000 in
theorem m_X1_join {D : va_G} {cA : Nat → ClassId} {S : List AbS} {M : AbM} {a : Nat} {n p : Int} (B_t : shAl S a) (A_t : Al M a n p) {v d w : Int} (v0 : 0 ≤ v) (v1 : v ≤ 729) (h0 : 0 ≤ d) (h1 : d ≤ Lg n) (w0 : 0 ≤ w) (w1 : w < pw n d) : Meth yX1_join cX1_join 4 (some .int) rmX1_join D cA S [vP a, vI v, vI d, vI w] M (qI fun r M2 => M = M2 ∧ v * pw n d + w = r) := by
  refine ab_intro (lv := [vP a, vI v, vI d, vI w]) (by decide +kernel) rfl (Nat.le_of_ble_eq_true rfl) ?_
  intro hO hargs K hKD hKA C r
  have C : Cx K cX1_join RX1 rmX1_join := C
  have i_v : inI v := hargs _ (List.mem_cons_of_mem _ (List.mem_cons_self))
  have i_d : inI d := hargs _ (List.mem_cons_of_mem _ (List.mem_cons_of_mem _ (List.mem_cons_self)))
  have i_w : inI w := hargs _ (List.mem_cons_of_mem _ (List.mem_cons_of_mem _ (List.mem_cons_of_mem _ (List.mem_cons_self))))
  obtain ⟨s_t, s_t_words, s_t_wordStarts, s_t_formStarts⟩ := id B_t
  obtain ⟨⟨n1, n2, hPr⟩, e_n, e_p, e_L, e_w⟩ := id A_t
  obtain ⟨p1, p2, -⟩ := id hPr
  have hLB := Lg_B n
  have hB := sz_B n1 n2 h0 h1
  have e1 := (e_w d h0 h1).1
  have hm : 0 ≤ v * M (a + 1) d ∧ v * M (a + 1) d ≤ 729 * 243 := by rw [e1]; exact ⟨Int.mul_nonneg v0 (by omega), Int.mul_le_mul (by omega) (by omega) (by omega) (by omega)⟩
  refine ab_iload_n C dX1_join_0 rfl rfl ?_
  refine ab_aload_n C dX1_join_1 rfl rfl ?_
  refine gf_RX1_9 C s_t rfl dX1_join_2 ?_
  refine ab_iload_n C dX1_join_5 rfl rfl ?_
  refine ab_iaload C s_t_words (by omega) (by omega) dX1_join_6 ?_
  refine ab_imul C dX1_join_7 (by omega) ?_
  refine ab_iload_n C dX1_join_8 rfl rfl ?_
  refine ab_iadd C dX1_join_9 (by omega) ?_
  refine ab_iret (st := []) C r dX1_join_10 ?_
  exact ⟨_, rfl, rfl, by rw [e1]⟩
set_option maxRecDepth 100000 in
set_option maxHeartbeats 4000000 in
theorem m_X1_firstLetter {D : va_G} {cA : Nat → ClassId} {S : List AbS} {M : AbM} {a : Nat} {n p : Int} (B_t : shAl S a) (A_t : Al M a n p) {d w : Int} (h0 : 1 ≤ d) (h1 : d ≤ Lg n) (w0 : 0 ≤ w) (w1 : w ≤ 729) : Meth yX1_firstLetter cX1_firstLetter 4 (some .int) rmX1_firstLetter D cA S [vP a, vI d, vI w] M (qI fun r M2 => M = M2 ∧ w / pw n (d - 1) = r) := by
  refine ab_intro (lv := [vP a, vI d, vI w, vU]) (by decide +kernel) rfl (Nat.le_of_ble_eq_true rfl) ?_
  intro hO hargs K hKD hKA C r
  have C : Cx K cX1_firstLetter RX1 rmX1_firstLetter := C
  have i_d : inI d := hargs _ (List.mem_cons_of_mem _ (List.mem_cons_self))
  have i_w : inI w := hargs _ (List.mem_cons_of_mem _ (List.mem_cons_of_mem _ (List.mem_cons_self)))
  obtain ⟨s_t, s_t_words, s_t_wordStarts, s_t_formStarts⟩ := id B_t
  obtain ⟨⟨n1, n2, hPr⟩, e_n, e_p, e_L, e_w⟩ := id A_t
  obtain ⟨p1, p2, -⟩ := id hPr
  have hLB := Lg_B n
  have hB := sz_B (d := d - 1) n1 n2 (by omega) (by omega)
  have e1 := (e_w (d - 1) (by omega) (by omega)).1
  refine ab_iload_n C dX1_firstLetter_0 rfl rfl ?_
  refine ab_if_le (tgt := 15) C dX1_firstLetter_1 rfl (fun h_1 => ?_) (fun h_1 => ?_)
  · skip
    refine ab_iconst C dX1_firstLetter_15 (by decide) ?_
    refine ab_istore3 (lv := []) C rfl dX1_firstLetter_16 ?_
    refine ab_iload_n C dX1_firstLetter_17 rfl rfl ?_
    refine ab_if_le (tgt := 27) C dX1_firstLetter_18 rfl (fun h_18 => ?_) (fun h_18 => ?_)
    · skip
      refine ab_iconst C dX1_firstLetter_27 (by decide) ?_
      refine ab_iret (st := []) C r dX1_firstLetter_28 ?_
      exact ⟨_, rfl, rfl, by first | rw [e1] | (exfalso; omega)⟩
    · skip
      refine ab_iload_n C dX1_firstLetter_21 rfl rfl ?_
      refine ab_iload_n C dX1_firstLetter_22 rfl rfl ?_
      refine ab_idiv C dX1_firstLetter_23 (by omega) (by omega) ?_
      refine ab_goto (tgt := 28) C dX1_firstLetter_24 rfl ?_
      refine ab_iret (st := []) C r dX1_firstLetter_28 ?_
      exact ⟨_, rfl, rfl, by first | rw [e1] | (exfalso; omega)⟩
  · skip
    refine ab_aload_n C dX1_firstLetter_4 rfl rfl ?_
    refine gf_RX1_9 C s_t rfl dX1_firstLetter_5 ?_
    refine ab_iload_n C dX1_firstLetter_8 rfl rfl ?_
    refine ab_iconst C dX1_firstLetter_9 (by decide) ?_
    refine ab_isub C dX1_firstLetter_10 (by omega) ?_
    refine ab_iaload C s_t_words (by omega) (by omega) dX1_firstLetter_11 ?_
    refine ab_goto (tgt := 16) C dX1_firstLetter_12 rfl ?_
    refine ab_istore3 (lv := []) C rfl dX1_firstLetter_16 ?_
    refine ab_iload_n C dX1_firstLetter_17 rfl rfl ?_
    refine ab_if_le (tgt := 27) C dX1_firstLetter_18 rfl (fun h_18 => ?_) (fun h_18 => ?_)
    · skip
      refine ab_iconst C dX1_firstLetter_27 (by decide) ?_
      refine ab_iret (st := []) C r dX1_firstLetter_28 ?_
      exact ⟨_, rfl, rfl, by first | rw [e1] | (exfalso; omega)⟩
    · skip
      refine ab_iload_n C dX1_firstLetter_21 rfl rfl ?_
      refine ab_iload_n C dX1_firstLetter_22 rfl rfl ?_
      refine ab_idiv C dX1_firstLetter_23 (by omega) (by omega) ?_
      refine ab_goto (tgt := 28) C dX1_firstLetter_24 rfl ?_
      refine ab_iret (st := []) C r dX1_firstLetter_28 ?_
      exact ⟨_, rfl, rfl, by first | rw [e1] | (exfalso; omega)⟩
set_option maxRecDepth 100000 in
set_option maxHeartbeats 4000000 in
theorem m_X1_withoutLast {D : va_G} {cA : Nat → ClassId} {S : List AbS} {M : AbM} {a : Nat} {n p : Int} (B_t : shAl S a) (A_t : Al M a n p) {w : Int} (w0 : 0 ≤ w) : Meth yX1_withoutLast cX1_withoutLast 2 (some .int) rmX1_withoutLast D cA S [vP a, vI w] M (qI fun r M2 => M = M2 ∧ w / n = r) := by
  refine ab_intro (lv := [vP a, vI w]) (by decide +kernel) rfl (Nat.le_of_ble_eq_true rfl) ?_
  intro hO hargs K hKD hKA C r
  have C : Cx K cX1_withoutLast RX1 rmX1_withoutLast := C
  have i_w : inI w := hargs _ (List.mem_cons_of_mem _ (List.mem_cons_self))
  obtain ⟨s_t, s_t_words, s_t_wordStarts, s_t_formStarts⟩ := id B_t
  obtain ⟨⟨n1, n2, hPr⟩, e_n, e_p, e_L, e_w⟩ := id A_t
  obtain ⟨p1, p2, -⟩ := id hPr
  refine ab_aload_n C dX1_withoutLast_0 rfl rfl ?_
  refine gf_RX1_25 C s_t rfl dX1_withoutLast_1 ?_
  refine ab_if_le (tgt := 16) C dX1_withoutLast_4 rfl (fun h_4 => ?_) (fun h_4 => ?_)
  · skip
    refine ab_iconst C dX1_withoutLast_16 (by decide) ?_
    refine ab_iret (st := []) C r dX1_withoutLast_17 ?_
    exact ⟨_, rfl, rfl, by first | rw [e_n] | (exfalso; omega)⟩
  · skip
    refine ab_iload_n C dX1_withoutLast_7 rfl rfl ?_
    refine ab_aload_n C dX1_withoutLast_8 rfl rfl ?_
    refine gf_RX1_25 C s_t rfl dX1_withoutLast_9 ?_
    refine ab_idiv C dX1_withoutLast_12 (by omega) (by omega) ?_
    refine ab_goto (tgt := 17) C dX1_withoutLast_13 rfl ?_
    refine ab_iret (st := []) C r dX1_withoutLast_17 ?_
    exact ⟨_, rfl, rfl, by first | rw [e_n] | (exfalso; omega)⟩
set_option maxRecDepth 100000 in
set_option maxHeartbeats 4000000 in
theorem m_X1_withoutFirst {D : va_G} {cA : Nat → ClassId} {S : List AbS} {M : AbM} {a : Nat} {n p : Int} (B_t : shAl S a) (A_t : Al M a n p) {d w : Int} (h0 : 1 ≤ d) (h1 : d ≤ Lg n) (w0 : 0 ≤ w) (w1 : w ≤ 729) : Meth yX1_withoutFirst cX1_withoutFirst 3 (some .int) rmX1_withoutFirst D cA S [vP a, vI d, vI w] M (qI fun r M2 => M = M2 ∧ w % pw n (d - 1) = r) := by
  refine ab_intro (lv := [vP a, vI d, vI w]) (by decide +kernel) rfl (Nat.le_of_ble_eq_true rfl) ?_
  intro hO hargs K hKD hKA C r
  have C : Cx K cX1_withoutFirst RX1 rmX1_withoutFirst := C
  have i_d : inI d := hargs _ (List.mem_cons_of_mem _ (List.mem_cons_self))
  have i_w : inI w := hargs _ (List.mem_cons_of_mem _ (List.mem_cons_of_mem _ (List.mem_cons_self)))
  obtain ⟨s_t, s_t_words, s_t_wordStarts, s_t_formStarts⟩ := id B_t
  obtain ⟨⟨n1, n2, hPr⟩, e_n, e_p, e_L, e_w⟩ := id A_t
  obtain ⟨p1, p2, -⟩ := id hPr
  have hLB := Lg_B n
  have hB := sz_B (d := d - 1) n1 n2 (by omega) (by omega)
  have e1 := (e_w (d - 1) (by omega) (by omega)).1
  have hq0 : 0 ≤ w / pw n (d - 1) := Int.ediv_nonneg w0 (by omega)
  have hq1 : w / pw n (d - 1) * pw n (d - 1) + w % pw n (d - 1) = w := by rw [Int.mul_comm]; exact Int.mul_ediv_add_emod _ _
  have hq2 := Int.emod_nonneg w (show pw n (d - 1) ≠ 0 by omega)
  have hq3 := Int.emod_lt_of_pos w (show 0 < pw n (d - 1) by omega)
  have hm : 0 ≤ w / pw n (d - 1) * M (a + 1) (d - 1) ∧ w / pw n (d - 1) * M (a + 1) (d - 1) ≤ w := by rw [e1]; exact ⟨Int.mul_nonneg hq0 (by omega), by omega⟩
  refine ab_iload_n C dX1_withoutFirst_0 rfl rfl ?_
  refine ab_if_le (tgt := 24) C dX1_withoutFirst_1 rfl (fun h_1 => ?_) (fun h_1 => ?_)
  · skip
    refine ab_iconst C dX1_withoutFirst_24 (by decide) ?_
    refine ab_iret (st := []) C r dX1_withoutFirst_25 ?_
    exact ⟨_, rfl, rfl, by first | (rw [e1]; omega) | (exfalso; omega)⟩
  · skip
    refine ab_iload_n C dX1_withoutFirst_4 rfl rfl ?_
    refine ab_aload_n C dX1_withoutFirst_5 rfl rfl ?_
    refine ab_iload_n C dX1_withoutFirst_6 rfl rfl ?_
    refine ab_iload_n C dX1_withoutFirst_7 rfl rfl ?_
    refine ab_callV C cl_RX1_42 (m_X1_firstLetter B_t A_t (by omega) (by omega) (by omega) (by omega)) (by decide) rfl s_t rfl rfl (Nat.le_of_ble_eq_true rfl) dX1_withoutFirst_8 (ab_kI (fun r_8 M_8 h_8 => ?_))
    obtain ⟨rfl, rfl⟩ := h_8
    refine ab_aload_n C dX1_withoutFirst_11 rfl rfl ?_
    refine gf_RX1_9 C s_t rfl dX1_withoutFirst_12 ?_
    refine ab_iload_n C dX1_withoutFirst_15 rfl rfl ?_
    refine ab_iconst C dX1_withoutFirst_16 (by decide) ?_
    refine ab_isub C dX1_withoutFirst_17 (by omega) ?_
    refine ab_iaload C s_t_words (by omega) (by omega) dX1_withoutFirst_18 ?_
    refine ab_imul C dX1_withoutFirst_19 (by omega) ?_
    refine ab_isub C dX1_withoutFirst_20 (by omega) ?_
    refine ab_goto (tgt := 25) C dX1_withoutFirst_21 rfl ?_
    refine ab_iret (st := []) C r dX1_withoutFirst_25 ?_
    exact ⟨_, rfl, rfl, by first | (rw [e1]; omega) | (exfalso; omega)⟩
set_option maxRecDepth 100000 in
set_option maxHeartbeats 4000000 in
theorem m_X1_lastLetter {D : va_G} {cA : Nat → ClassId} {S : List AbS} {M : AbM} {a : Nat} {n p : Int} (B_t : shAl S a) (A_t : Al M a n p) {w : Int} (w0 : 0 ≤ w) : Meth yX1_lastLetter cX1_lastLetter 2 (some .int) rmX1_lastLetter D cA S [vP a, vI w] M (qI fun r M2 => M = M2 ∧ w % n = r) := by
  refine ab_intro (lv := [vP a, vI w]) (by decide +kernel) rfl (Nat.le_of_ble_eq_true rfl) ?_
  intro hO hargs K hKD hKA C r
  have C : Cx K cX1_lastLetter RX1 rmX1_lastLetter := C
  have i_w : inI w := hargs _ (List.mem_cons_of_mem _ (List.mem_cons_self))
  obtain ⟨s_t, s_t_words, s_t_wordStarts, s_t_formStarts⟩ := id B_t
  obtain ⟨⟨n1, n2, hPr⟩, e_n, e_p, e_L, e_w⟩ := id A_t
  obtain ⟨p1, p2, -⟩ := id hPr
  have hq1 : w / n * n + w % n = w := by rw [Int.mul_comm]; exact Int.mul_ediv_add_emod _ _
  have hq0 : 0 ≤ w / n := Int.ediv_nonneg w0 (by omega)
  have hq2 := Int.emod_nonneg w (show n ≠ 0 by omega)
  have hq3 := Int.emod_lt_of_pos w (show 0 < n by omega)
  have hm : 0 ≤ w / n * M a 3 ∧ w / n * M a 3 ≤ w := by rw [e_n]; exact ⟨Int.mul_nonneg hq0 (by omega), by omega⟩
  refine ab_iload_n C dX1_lastLetter_0 rfl rfl ?_
  refine ab_aload_n C dX1_lastLetter_1 rfl rfl ?_
  refine ab_iload_n C dX1_lastLetter_2 rfl rfl ?_
  refine ab_callV C cl_RX1_46 (m_X1_withoutLast B_t A_t (by omega)) (by decide) rfl s_t rfl rfl (Nat.le_of_ble_eq_true rfl) dX1_lastLetter_3 (ab_kI (fun r_3 M_3 h_3 => ?_))
  obtain ⟨rfl, rfl⟩ := h_3
  refine ab_aload_n C dX1_lastLetter_6 rfl rfl ?_
  refine gf_RX1_25 C s_t rfl dX1_lastLetter_7 ?_
  refine ab_imul C dX1_lastLetter_10 (by omega) ?_
  refine ab_isub C dX1_lastLetter_11 (by omega) ?_
  refine ab_iret (st := []) C r dX1_lastLetter_12 ?_
  exact ⟨_, rfl, rfl, by rw [e_n]; omega⟩
set_option maxRecDepth 100000 in
set_option maxHeartbeats 4000000 in
theorem m_X1_rest {D : va_G} {cA : Nat → ClassId} {S : List AbS} {M : AbM} {a : Nat} {n p : Int} (B_t : shAl S a) (A_t : Al M a n p) {v : Int} : Meth yX1_rest cX1_rest 4 (some .int) rmX1_rest D cA S [vP a, vL v] M (qI fun r M2 => M = M2 ∧ v % p = r) := by
  refine ab_intro (lv := [vP a, vL v, vU, vU]) (by decide +kernel) rfl (Nat.le_of_ble_eq_true rfl) ?_
  intro hO hargs K hKD hKA C r
  have C : Cx K cX1_rest RX1 rmX1_rest := C
  have i_v : inL v := hargs _ (List.mem_cons_of_mem _ (List.mem_cons_self))
  obtain ⟨s_t, s_t_words, s_t_wordStarts, s_t_formStarts⟩ := id B_t
  obtain ⟨⟨n1, n2, hPr⟩, e_n, e_p, e_L, e_w⟩ := id A_t
  obtain ⟨p1, p2, -⟩ := id hPr
  have t1 := ab_tmodB (x := v) (show 0 < p by omega)
  rw [← e_p] at t1
  refine ab_aload_n C dX1_rest_0 rfl rfl ?_
  refine gf_RX1_29 C s_t rfl dX1_rest_1 ?_
  refine ab_iconst C dX1_rest_4 (by decide) ?_
  refine ab_icmp_ge (tgt := 10) C dX1_rest_5 rfl (fun h_5 => ?_) (fun h_5 => ?_)
  · skip
    refine ab_lload_n C dX1_rest_10 rfl rfl ?_
    refine ab_aload_n C dX1_rest_11 rfl rfl ?_
    refine gf_RX1_29 C s_t rfl dX1_rest_12 ?_
    refine ab_i2l C dX1_rest_15 ?_
    refine ab_lremT C dX1_rest_16 (by omega) ?_
    refine ab_l2iS C dX1_rest_17 (by omega) ?_
    refine ab_istore3 (lv := []) C rfl dX1_rest_18 ?_
    refine ab_iload_n C dX1_rest_19 rfl rfl ?_
    refine ab_if_ge (tgt := 32) C dX1_rest_20 rfl (fun h_20 => ?_) (fun h_20 => ?_)
    · skip
      refine ab_iload_n C dX1_rest_32 rfl rfl ?_
      refine ab_iret (st := []) C r dX1_rest_33 ?_
      exact ⟨_, rfl, rfl, by rw [e_p] at *; first | exact (rest_ge (by omega) (by omega)).symm | exact (rest_lt (by omega) (by omega)).symm | (exfalso; omega)⟩
    · skip
      refine ab_iload_n C dX1_rest_23 rfl rfl ?_
      refine ab_aload_n C dX1_rest_24 rfl rfl ?_
      refine gf_RX1_29 C s_t rfl dX1_rest_25 ?_
      refine ab_iadd C dX1_rest_28 (by omega) ?_
      refine ab_goto (tgt := 33) C dX1_rest_29 rfl ?_
      refine ab_iret (st := []) C r dX1_rest_33 ?_
      exact ⟨_, rfl, rfl, by rw [e_p] at *; first | exact (rest_ge (by omega) (by omega)).symm | exact (rest_lt (by omega) (by omega)).symm | (exfalso; omega)⟩
  · skip
    refine ab_iconst C dX1_rest_8 (by decide) ?_
    refine ab_iret (st := []) C r dX1_rest_9 ?_
    exact ⟨_, rfl, rfl, by rw [e_p] at *; first | exact (rest_ge (by omega) (by omega)).symm | exact (rest_lt (by omega) (by omega)).symm | (exfalso; omega)⟩
set_option maxRecDepth 100000 in
set_option maxHeartbeats 4000000 in
theorem m_X1_hasWord {D : va_G} {cA : Nat → ClassId} {S : List AbS} {M : AbM} {a : Nat} {n p : Int} (B_t : shAl S a) (A_t : Al M a n p) {d w : Int} : Meth yX1_hasWord cX1_hasWord 3 (some .boolean) rmX1_hasWord D cA S [vP a, vI d, vI w] M (qI fun r M2 => M = M2 ∧ (if 0 ≤ d ∧ d ≤ Lg n ∧ 0 ≤ w ∧ w < pw n d then 1 else 0) = r) := by
  refine ab_intro (lv := [vP a, vI d, vI w]) (by decide +kernel) rfl (Nat.le_of_ble_eq_true rfl) ?_
  intro hO hargs K hKD hKA C r
  have C : Cx K cX1_hasWord RX1 rmX1_hasWord := C
  have i_d : inI d := hargs _ (List.mem_cons_of_mem _ (List.mem_cons_self))
  have i_w : inI w := hargs _ (List.mem_cons_of_mem _ (List.mem_cons_of_mem _ (List.mem_cons_self)))
  obtain ⟨s_t, s_t_words, s_t_wordStarts, s_t_formStarts⟩ := id B_t
  obtain ⟨⟨n1, n2, hPr⟩, e_n, e_p, e_L, e_w⟩ := id A_t
  obtain ⟨p1, p2, -⟩ := id hPr
  have hLB := Lg_B n
  refine ab_aload_n C dX1_hasWord_0 rfl rfl ?_
  refine ab_iload_n C dX1_hasWord_1 rfl rfl ?_
  refine ab_callV C cl_RX1_38 (m_X1_hasLength B_t A_t) (by decide) rfl s_t rfl rfl (Nat.le_of_ble_eq_true rfl) dX1_hasWord_2 (ab_kI (fun r_2 M_2 h_2 => ?_))
  obtain ⟨rfl, rfl⟩ := h_2
  refine ab_if_eq (tgt := 26) C dX1_hasWord_5 rfl (fun h_5 => ?_) (fun h_5 => ?_)
  · skip
    have hq := b01_eq h_5
    refine ab_iconst C dX1_hasWord_26 (by decide) ?_
    refine ab_zret (st := []) C r (by omega) dX1_hasWord_27 ?_
    exact ⟨_, rfl, rfl, by (try rw [e1] at *); first | rw [if_pos (by omega)] | rw [if_neg (by omega)]⟩
  · skip
    have hq := b01_ne h_5
    have e1 := (e_w d hq.1 hq.2).1
    refine ab_iload_n C dX1_hasWord_8 rfl rfl ?_
    refine ab_if_lt (tgt := 26) C dX1_hasWord_9 rfl (fun h_9 => ?_) (fun h_9 => ?_)
    · skip
      refine ab_iconst C dX1_hasWord_26 (by decide) ?_
      refine ab_zret (st := []) C r (by omega) dX1_hasWord_27 ?_
      exact ⟨_, rfl, rfl, by (try rw [e1] at *); first | rw [if_pos (by omega)] | rw [if_neg (by omega)]⟩
    · skip
      refine ab_iload_n C dX1_hasWord_12 rfl rfl ?_
      refine ab_aload_n C dX1_hasWord_13 rfl rfl ?_
      refine gf_RX1_9 C s_t rfl dX1_hasWord_14 ?_
      refine ab_iload_n C dX1_hasWord_17 rfl rfl ?_
      refine ab_iaload C s_t_words (by omega) (by omega) dX1_hasWord_18 ?_
      refine ab_icmp_ge (tgt := 26) C dX1_hasWord_19 rfl (fun h_19 => ?_) (fun h_19 => ?_)
      · skip
        refine ab_iconst C dX1_hasWord_26 (by decide) ?_
        refine ab_zret (st := []) C r (by omega) dX1_hasWord_27 ?_
        exact ⟨_, rfl, rfl, by (try rw [e1] at *); first | rw [if_pos (by omega)] | rw [if_neg (by omega)]⟩
      · skip
        refine ab_iconst C dX1_hasWord_22 (by decide) ?_
        refine ab_goto (tgt := 27) C dX1_hasWord_23 rfl ?_
        refine ab_zret (st := []) C r (by omega) dX1_hasWord_27 ?_
        exact ⟨_, rfl, rfl, by (try rw [e1] at *); first | rw [if_pos (by omega)] | rw [if_neg (by omega)]⟩
set_option maxRecDepth 100000 in
set_option maxHeartbeats 4000000 in
theorem m_X1_inverse {D : va_G} {cA : Nat → ClassId} {S : List AbS} {M : AbM} {a : Nat} {n p : Int} (B_t : shAl S a) (A_t : Al M a n p) {v : Int} (v0 : 0 < v) (v1 : v < p) : Meth yX1_inverse cX1_inverse 3 (some .int) rmX1_inverse D cA S [vP a, vI v] M (qI fun r M2 => M = M2 ∧ ivf p v = r) := by
  refine ab_intro (lv := [vP a, vI v, vU]) (by decide +kernel) rfl (Nat.le_of_ble_eq_true rfl) ?_
  intro hO hargs K hKD hKA C r
  have C : Cx K cX1_inverse RX1 rmX1_inverse := C
  have i_v : inI v := hargs _ (List.mem_cons_of_mem _ (List.mem_cons_self))
  obtain ⟨s_t, s_t_words, s_t_wordStarts, s_t_formStarts⟩ := id B_t
  obtain ⟨⟨n1, n2, hPr⟩, e_n, e_p, e_L, e_w⟩ := id A_t
  obtain ⟨p1, p2, -⟩ := id hPr
  refine ab_iconst C dX1_inverse_0 (by decide) ?_
  refine ab_istore2 (lv := []) C rfl dX1_inverse_1 ?_
  refine ab_loop (fun i (_ : Unit) => AJ K S 2 [vP a, vI v, vI i] [] M) (fun i _ => 1 ≤ i ∧ ∀ j, 1 ≤ j → j < i → v * j % p ≠ 1) p ?_ 1 () (by omega) ⟨by omega, fun j a b => by omega⟩
  · intro i _ hi hI ih
    have hm : 0 ≤ v * i ∧ v * i ≤ 97 * 97 := ⟨Int.mul_nonneg (by omega) (by omega), Int.mul_le_mul (by omega) (by omega) (by omega) (by omega)⟩
    refine ab_iload_n C dX1_inverse_2 rfl rfl ?_
    refine ab_aload_n C dX1_inverse_3 rfl rfl ?_
    refine gf_RX1_29 C s_t rfl dX1_inverse_4 ?_
    refine ab_icmp_ge (tgt := 31) C dX1_inverse_7 rfl (fun h_7 => ?_) (fun h_7 => ?_)
    · skip
      refine ab_iconst C dX1_inverse_31 (by decide) ?_
      refine ab_iret (st := []) C r dX1_inverse_32 ?_
      exfalso
      obtain ⟨q1, q2, q3⟩ := ivf_ok hPr v0 v1
      exact hI.2 _ q1 (by omega) q3
    · skip
      refine ab_aload_n C dX1_inverse_10 rfl rfl ?_
      refine ab_iload_n C dX1_inverse_11 rfl rfl ?_
      refine ab_i2l C dX1_inverse_12 ?_
      refine ab_iload_n C dX1_inverse_13 rfl rfl ?_
      refine ab_i2l C dX1_inverse_14 ?_
      refine ab_lmul C dX1_inverse_15 (by omega) ?_
      refine ab_callV C cl_RX1_50 (m_X1_rest B_t A_t) (by decide) rfl s_t rfl rfl (Nat.le_of_ble_eq_true rfl) dX1_inverse_16 (ab_kI (fun r_16 M_16 h_16 => ?_))
      obtain ⟨rfl, rfl⟩ := h_16
      refine ab_iconst C dX1_inverse_19 (by decide) ?_
      refine ab_icmp_ne (tgt := 25) C dX1_inverse_20 rfl (fun h_20 => ?_) (fun h_20 => ?_)
      · skip
        refine ab_iinc2 (lv := []) C rfl dX1_inverse_25 (by omega) ?_
        refine ab_goto (tgt := 2) C dX1_inverse_28 rfl ?_
        exact ih () (by omega) ⟨by omega, fun j a b => by
          rcases (show j < i ∨ j = i by omega) with q | q
          · exact hI.2 j a q
          · rw [q]; exact h_20⟩
      · skip
        refine ab_iload_n C dX1_inverse_23 rfl rfl ?_
        refine ab_iret (st := []) C r dX1_inverse_24 ?_
        exact ⟨_, rfl, rfl, ivf_eq hPr v0 v1 (by omega) (by omega) (by omega)⟩
set_option maxRecDepth 100000 in
set_option maxHeartbeats 4000000 in
theorem m_X1_choose {D : va_G} {cA : Nat → ClassId} {S : List AbS} {M : AbM} {a : Nat} {n p : Int} (B_t : shAl S a) (n1 : 1 ≤ n) (n2 : n ≤ 3) (hPr : Pr p) : Meth yX1_choose cX1_choose 7 none rmX1_choose D cA S [vP a, vI n, vI p] M (qV fun M2 => Al M2 a n p ∧ same [a, a + 1, a + 2, a + 3] M M2) := by
  refine ab_intro (lv := [vP a, vI n, vI p, vU, vU, vU, vU]) (by decide +kernel) rfl (Nat.le_of_ble_eq_true rfl) ?_
  intro hO hargs K hKD hKA C r
  have C : Cx K cX1_choose RX1 rmX1_choose := C
  have i_n : inI n := hargs _ (List.mem_cons_of_mem _ (List.mem_cons_self))
  have i_p : inI p := hargs _ (List.mem_cons_of_mem _ (List.mem_cons_of_mem _ (List.mem_cons_self)))
  obtain ⟨s_t, s_t_words, s_t_wordStarts, s_t_formStarts⟩ := id B_t
  obtain ⟨p1, p2, -⟩ := id hPr
  have hLB := Lg_B n
  have hLg : (if n = 1 then (8 : Int) else if n = 2 then 7 else if n = 3 then 5 else 0) = Lg n := by rcases (show n = 1 ∨ n = 2 ∨ n = 3 by omega) with rfl | rfl | rfl <;> rfl
  refine ab_aload_n C dX1_choose_0 rfl rfl ?_
  refine ab_iload_n C dX1_choose_1 rfl rfl ?_
  refine pf_RX1_25 C s_t rfl dX1_choose_2 ?_
  refine ab_aload_n C dX1_choose_5 rfl rfl ?_
  refine ab_iload_n C dX1_choose_6 rfl rfl ?_
  refine pf_RX1_29 C s_t rfl dX1_choose_7 ?_
  refine ab_aload_n C dX1_choose_10 rfl rfl ?_
  refine ab_stat C rfl (by omega) (by omega) dX1_choose_11 dX1_choose_14 dX1_choose_15 ?_
  rw [hLg]
  refine pf_RX1_35 C s_t rfl dX1_choose_16 ?_
  refine ab_iconst C dX1_choose_19 (by decide) ?_
  refine ab_istore3 (lv := []) C rfl dX1_choose_20 ?_
  refine ab_iconst C dX1_choose_21 (by decide) ?_
  refine ab_istore4 (lv := []) C rfl dX1_choose_22 ?_
  refine ab_iconst C dX1_choose_24 (by decide) ?_
  refine ab_istore5 (lv := []) C rfl dX1_choose_25 ?_
  refine ab_iconst C dX1_choose_27 (by decide) ?_
  refine ab_istore6 (lv := []) C rfl dX1_choose_28 ?_
  refine (show AJ K S 30 [vP a, vI n, vI p, vI (pw n 0), vI (wsm n 0), vI (fsm n 0), vI 0] [] (up (up (up M a 3 n) a 4 p) a 5 (Lg n)) → AJ K S 30 [vP a, vI n, vI p, vI 1, vI 0, vI 0, vI 0] [] (up (up (up M a 3 n) a 4 p) a 5 (Lg n)) from by rw [pw_0, wsm_0, fsm_0]; exact id) ?_
  refine ab_loop (fun i M2 => AJ K S 30 [vP a, vI n, vI p, vI (pw n i), vI (wsm n i), vI (fsm n i), vI i] [] M2) (fun i M2 => 0 ≤ i ∧ same [a + 1, a + 2, a + 3] (up (up (up M a 3 n) a 4 p) a 5 (Lg n)) M2 ∧ ∀ j, 0 ≤ j → j < i → M2 (a + 1) j = pw n j ∧ M2 (a + 2) j = wsm n j ∧ M2 (a + 3) j = fsm n j) (Lg n + 1) ?_ 0 (up (up (up M a 3 n) a 4 p) a 5 (Lg n)) (by omega) ⟨by omega, fun k _ => rfl, fun j a b => by omega⟩
  · intro i M2 hi hI ih
    obtain ⟨i0, hsm, hv⟩ := hI
    have ea : M2 a = up (up (up M a 3 n) a 4 p) a 5 (Lg n) a := hsm a (by simp)
    have e3 : M2 a 3 = n := by rw [ea]; simp [up]
    have e4 : M2 a 4 = p := by rw [ea]; simp [up]
    have e5 : M2 a 5 = Lg n := by rw [ea]; simp [up]
    refine ab_iload C dX1_choose_30 rfl ?_
    refine ab_aload_n C dX1_choose_32 rfl rfl ?_
    refine gf_RX1_35 C s_t rfl dX1_choose_33 ?_
    refine ab_icmp_gt (tgt := 93) C dX1_choose_36 rfl (fun h_36 => ?_) (fun h_36 => ?_)
    · skip
      refine ab_vret (st := []) C r dX1_choose_93 ?_
      refine ⟨rfl, ⟨⟨n1, n2, hPr⟩, e3, e4, e5, fun d d0 d1 => hv d d0 (by omega)⟩, fun k hk => ?_⟩
      simp only [List.mem_cons, List.not_mem_nil, or_false, not_or] at hk
      rw [hsm k (by simp; omega), up_row hk.1, up_row hk.1, up_row hk.1]
    · skip
      have hB := sz_B n1 n2 i0 (by omega)
      have hm1 : 0 ≤ pw n i * (pw n i + 1) ∧ pw n i * (pw n i + 1) ≤ 243 * 244 := ⟨Int.mul_nonneg (by omega) (by omega), Int.mul_le_mul (by omega) (by omega) (by omega) (by omega)⟩
      have hm2 : 0 ≤ pw n i * n := Int.mul_nonneg (by omega) (by omega)
      refine ab_aload_n C dX1_choose_39 rfl rfl ?_
      refine gf_RX1_9 C s_t rfl dX1_choose_40 ?_
      refine ab_iload C dX1_choose_43 rfl ?_
      refine ab_iload_n C dX1_choose_45 rfl rfl ?_
      refine ab_iastore C s_t_words (by omega) (by omega) dX1_choose_46 ?_
      refine ab_aload_n C dX1_choose_47 rfl rfl ?_
      refine gf_RX1_15 C s_t rfl dX1_choose_48 ?_
      refine ab_iload C dX1_choose_51 rfl ?_
      refine ab_iload C dX1_choose_53 rfl ?_
      refine ab_iastore C s_t_wordStarts (by omega) (by omega) dX1_choose_55 ?_
      refine ab_aload_n C dX1_choose_56 rfl rfl ?_
      refine gf_RX1_18 C s_t rfl dX1_choose_57 ?_
      refine ab_iload C dX1_choose_60 rfl ?_
      refine ab_iload C dX1_choose_62 rfl ?_
      refine ab_iastore C s_t_formStarts (by omega) (by omega) dX1_choose_64 ?_
      refine ab_iload C dX1_choose_65 rfl ?_
      refine ab_iload_n C dX1_choose_67 rfl rfl ?_
      refine ab_iadd C dX1_choose_68 (by omega) ?_
      refine ab_istore4 (lv := []) C rfl dX1_choose_69 ?_
      refine ab_iload C dX1_choose_71 rfl ?_
      refine ab_iload_n C dX1_choose_73 rfl rfl ?_
      refine ab_iload_n C dX1_choose_74 rfl rfl ?_
      refine ab_iconst C dX1_choose_75 (by decide) ?_
      refine ab_iadd C dX1_choose_76 (by omega) ?_
      refine ab_imul C dX1_choose_77 (by omega) ?_
      refine ab_iconst C dX1_choose_78 (by decide) ?_
      refine ab_idiv C dX1_choose_79 (by omega) (by omega) ?_
      refine ab_iadd C dX1_choose_80 (by omega) ?_
      refine ab_istore5 (lv := []) C rfl dX1_choose_81 ?_
      refine ab_iload_n C dX1_choose_83 rfl rfl ?_
      refine ab_iload_n C dX1_choose_84 rfl rfl ?_
      refine ab_imul C dX1_choose_85 (by omega) ?_
      refine ab_istore3 (lv := []) C rfl dX1_choose_86 ?_
      refine ab_iinc6 (lv := []) C rfl dX1_choose_87 (by omega) ?_
      refine ab_goto (tgt := 30) C dX1_choose_90 rfl ?_
      rw [pw_s i0, wsm_s i0, fsm_s i0] at ih
      refine ih _ (by omega) ⟨by omega, fun k hk => ?_, fun j j0 j1 => ?_⟩
      · have hk2 := hsm k hk
        simp only [List.mem_cons, List.not_mem_nil, or_false, not_or] at hk
        rw [up_row hk.2.2, up_row hk.2.1, up_row hk.1, hk2]
      · rcases (show j < i ∨ j = i by omega) with q | q
        · obtain ⟨z1, z2, z3⟩ := hv j j0 q
          simp [up, z1, z2, z3, show j ≠ i by omega]
        · subst q
          simp [up]
