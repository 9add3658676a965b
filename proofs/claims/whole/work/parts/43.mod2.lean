set_option maxRecDepth 100000 in
set_option maxHeartbeats 4000000 in
theorem m_X9_insert {D : va_G} {cA : Nat → ClassId} {S : List AbS} {M : AbM} {m : Nat} {n p : Int} (B_t : shMo S m) (A_t : MoA M m n p) {al le : Nat} (s_al : S[al]? = some (sA 0 70000)) (s_le : S[le]? = some (sA 1 400)) (hal : m + 3 < al ∧ m + 3 < le ∧ al ≠ le ∧ al ≠ m + 12 ∧ le ≠ m + 12) {d : Int} (h0 : 0 ≤ d) (h1 : d ≤ Lg n) (hq : ∀ x, 0 ≤ x → x < pw n d → 0 ≤ M (m + 12) x ∧ M (m + 12) x < p) (hE : EchOK n p d (M al) (M le)) : Meth yX9_insert cX9_insert 8 none rmX9_insert D cA S [vP m, vP al, vP le, vI d] M (qV fun M2 => same [al, le, m + 12] M M2 ∧ EchOK n p d (M2 al) (M2 le) ∧ (∀ x, (x < sqm n d ∨ sqm n d + pw n d * pw n d ≤ x) → M2 al x = M al x) ∧ (∀ x, (x < wsm n d ∨ wsm n d + pw n d ≤ x) → M2 le x = M le x) ∧ (∀ V, SubV p (pw n d) V → RowsIn n d (M2 al) (M2 le) V → RowsIn n d (M al) (M le) V ∧ V (qvV (pw n d) (M (m + 12)))) ∧ (∀ V, SubV p (pw n d) V → RowsIn n d (M al) (M le) V → V (qvV (pw n d) (M (m + 12))) → RowsIn n d (M2 al) (M2 le) V)) := by
  refine ab_intro (lv := [vP m, vP al, vP le, vI d, vU, vU, vU, vU]) (by decide +kernel) rfl (Nat.le_of_ble_eq_true rfl) ?_
  intro hO hargs K hKD hKA C r
  have C : Cx K cX9_insert RX9 rmX9_insert := C
  have i_d : inI d := hargs _ (List.mem_cons_of_mem _ (List.mem_cons_of_mem _ (List.mem_cons_of_mem _ (List.mem_cons_self))))
  obtain ⟨s_t, s_t_words, s_t_begins, s_t_squares, s_t_lengths, s_t_numbers, s_t_made, s_t_tape, s_t_rows, s_t_leads, s_t_otherRows, s_t_otherLeads, s_t_row, s_t_equations, s_t_firsts, s_t_sum, s_t_lanes, s_t_sizes, s_t_items⟩ := id B_t
  obtain ⟨⟨n1, n2, hPr⟩, m_n, m_p, m_L, m_w⟩ := id A_t
  obtain ⟨p1, p2, -⟩ := id hPr
  have hLB := Lg_B n
  have hB := sz_B n1 n2 h0 h1
  have hQ := sq_B n1 n2 h0 h1
  obtain ⟨e_w, e_b, e_s⟩ := m_w d h0 h1
  have eM : ∀ (f : Int → Int), MoA (upA M (m + 12) f) m n p := fun f => (same_upA (ps := [m + 12]) (by simp)).moA A_t (by simp)
  refine ab_aload_n C dX9_insert_0 rfl rfl ?_
  refine gf_RX9_19 C s_t rfl dX9_insert_1 ?_
  refine ab_iload_n C dX9_insert_4 rfl rfl ?_
  refine ab_iaload C s_t_words (by omega) (by omega) dX9_insert_5 ?_
  refine ab_iconst C dX9_insert_6 (by decide) ?_
  refine ab_isub C dX9_insert_7 (by omega) ?_
  refine ab_istore4 (lv := []) C rfl dX9_insert_8 ?_
  refine ab_mem (M2 := upA M (m + 12) (M (m + 12))) (upA_self _ _).symm ?_
  rw [e_w]
  refine ab_loopM (fun (s : Int × (Int → Int) × AbV × AbV × AbV) => AJ K S 10 [vP m, vP al, vP le, vI d, vI s.1, s.2.2.1, s.2.2.2.1, s.2.2.2.2] [] (upA M (m + 12) s.2.1)) (fun s => (-1 ≤ s.1 ∧ s.1 < pw n d) ∧ (∀ x, 0 ≤ x → x < pw n d → 0 ≤ s.2.1 x ∧ s.2.1 x < p ∧ (s.1 < x → s.2.1 x = 0)) ∧ (ab_cat s.2.2.1 = 1 ∧ ab_cat s.2.2.2.1 = 1 ∧ ab_cat s.2.2.2.2 = 1) ∧ ∀ V, SubV p (pw n d) V → RowsIn n d (M al) (M le) V → (V (qvV (pw n d) s.2.1) ↔ V (qvV (pw n d) (M (m + 12))))) (fun s => (s.1 + 1).toNat) ?_ (pw n d - 1, M (m + 12), vU, vU, vU) ⟨⟨by dsimp only; omega, by dsimp only; omega⟩, fun x a c => ⟨(hq x a c).1, (hq x a c).2, fun z => by dsimp only at z; omega⟩, ⟨rfl, rfl, rfl⟩, fun V _ _ => Iff.rfl⟩
  · intro s hI ih
    obtain ⟨w, q, y5, y6, y7⟩ := s
    obtain ⟨⟨wa, wb⟩, hqr, ⟨hc5, hc6, hc7⟩, hVV⟩ := hI
    dsimp only at wa wb hqr hc5 hc6 hc7 hVV ih ⊢
    have A_t := eM q
    have rq : ∀ x, upA M (m + 12) q (m + 12) x = q x := fun x => upA_s
    have r1 : upA M (m + 12) q (m + 1) d = M (m + 1) d := upA_k (by omega)
    have r2 : upA M (m + 12) q (m + 2) d = M (m + 2) d := upA_k (by omega)
    have r3 : upA M (m + 12) q (m + 3) d = M (m + 3) d := upA_k (by omega)
    have ral : upA M (m + 12) q al = M al := upA_row (by omega)
    have rle : upA M (m + 12) q le = M le := upA_row (by omega)
    refine ab_iload C dX9_insert_10 rfl ?_
    refine ab_if_lt (tgt := 194) C dX9_insert_12 rfl (fun h_12 => ?_) (fun h_12 => ?_)
    · skip
      refine ab_vret (st := []) C r dX9_insert_194 ?_
      have hz : ∀ x, 0 ≤ x → x < pw n d → q x = 0 := fun x a c => (hqr x a c).2.2 (by omega)
      refine ⟨rfl, same_upA (by simp), by rw [ral, rle]; exact hE, fun x _ => by rw [ral], fun x _ => by rw [rle], fun V hV hR => ?_, fun V hV hR _ => by rw [ral, rle]; exact hR⟩
      rw [ral, rle] at hR
      refine ⟨hR, (hVV V hV hR).mp (hV.2.2.2 _ _ hV.1 (fun i i0 i1 => ?_))⟩
      unfold qvV
      rw [if_pos ⟨i0, i1⟩, hz i i0 i1]
      exact cg_rf p 0
    · skip
      have w0 : 0 ≤ w := by omega
      have hw1 : w < pw n d := by omega
      have hwB := rwq_B n1 n2 h0 h1 w0 hw1 (Int.le_refl 0) (show 0 < pw n d by omega)
      have hwB2 := rwq_B n1 n2 h0 h1 w0 hw1 (show 0 ≤ pw n d - 1 by omega) (show pw n d - 1 < pw n d by omega)
      refine ab_aload_n C dX9_insert_15 rfl rfl ?_
      refine gf_RX9_55 C s_t rfl dX9_insert_16 ?_
      refine ab_iload C dX9_insert_19 rfl ?_
      refine ab_iaload C s_t_row (by omega) (by omega) dX9_insert_21 ?_
      rw [rq]
      refine ab_if_ne (tgt := 28) C dX9_insert_22 rfl (fun h_22 => ?_) (fun h_22 => ?_)
      · skip
        have hwq := hqr w w0 hw1
        refine ab_aload_n C dX9_insert_28 rfl rfl ?_
        refine gf_RX9_26 C s_t rfl dX9_insert_29 ?_
        refine ab_iload_n C dX9_insert_32 rfl rfl ?_
        refine ab_iaload C s_t_squares (by omega) (by omega) dX9_insert_33 ?_
        refine ab_iload C dX9_insert_34 rfl ?_
        refine ab_aload_n C dX9_insert_36 rfl rfl ?_
        refine gf_RX9_19 C s_t rfl dX9_insert_37 ?_
        refine ab_iload_n C dX9_insert_40 rfl rfl ?_
        refine ab_iaload C s_t_words (by omega) (by omega) dX9_insert_41 ?_
        rw [r1, e_w, r3, e_s]
        refine ab_imul C dX9_insert_42 (by omega) ?_
        refine ab_iadd C dX9_insert_43 (by omega) ?_
        refine ab_istore5 (lv := []) C rfl dX9_insert_44 ?_
        refine ab_aload_n C dX9_insert_46 rfl rfl ?_
        refine ab_aload_n C dX9_insert_47 rfl rfl ?_
        refine gf_RX9_23 C s_t rfl dX9_insert_48 ?_
        refine ab_iload_n C dX9_insert_51 rfl rfl ?_
        refine ab_iaload C s_t_begins (by omega) (by omega) dX9_insert_52 ?_
        refine ab_iload C dX9_insert_53 rfl ?_
        rw [r2, e_b]
        refine ab_iadd C dX9_insert_55 (by omega) ?_
        refine ab_baload C s_le (by omega) (by omega) dX9_insert_56 ?_
        have ef : upA M (m + 12) q le (wsm n d + w) = ldq n d (M le) w := upA_k (by omega)
        rw [ef]
        refine ab_if_ne (tgt := 128) C dX9_insert_57 rfl (fun h_57 => ?_) (fun h_57 => ?_)
        · skip
          refine ab_aload_n C dX9_insert_128 rfl rfl ?_
          refine gf_RX9_55 C s_t rfl dX9_insert_129 ?_
          refine ab_iload C dX9_insert_132 rfl ?_
          refine ab_iaload C s_t_row (by omega) (by omega) dX9_insert_134 ?_
          rw [rq]
          refine ab_istore6 (lv := []) C rfl dX9_insert_135 ?_
          refine ab_iconst C dX9_insert_137 (by decide) ?_
          refine ab_istore7 (lv := []) C rfl dX9_insert_138 ?_
          refine ab_mem (M2 := upA M (m + 12) (fun z9 => if 0 ≤ z9 ∧ z9 < (0 : Int) then (q z9 + (p - q w) * rwq n d (M al) w z9) % p else q z9)) (upA_ext (fun j => by rw [if_neg (by omega)])) ?_
          refine ab_loop (fun x (_ : Unit) => AJ K S 140 [vP m, vP al, vP le, vI d, vI w, vI (sqm n d + w * pw n d), vI (q w), vI x] [] (upA M (m + 12) (fun z9 => if 0 ≤ z9 ∧ z9 < x then (q z9 + (p - q w) * rwq n d (M al) w z9) % p else q z9))) (fun x _ => 0 ≤ x) (w + 1) ?_ 0 () (by omega) (by omega)
          · intro x _ hx x0 ihx
            have hEw := (hE w w0 hw1).2
            have t12 : upA M (m + 12) (fun z9 => if 0 ≤ z9 ∧ z9 < x then (q z9 + (p - q w) * rwq n d (M al) w z9) % p else q z9) (m + 12) x = q x := by rw [upA_s, if_neg (by omega)]
            have tp : upA M (m + 12) (fun z9 => if 0 ≤ z9 ∧ z9 < x then (q z9 + (p - q w) * rwq n d (M al) w z9) % p else q z9) m 1 = p := by rw [upA_k (by omega), m_p]
            have ta : upA M (m + 12) (fun z9 => if 0 ≤ z9 ∧ z9 < x then (q z9 + (p - q w) * rwq n d (M al) w z9) % p else q z9) al ((sqm n d + w * pw n d) + x) = rwq n d (M al) w x := upA_k (by omega)
            have hm : x ≤ w → 0 ≤ (p - q w) * rwq n d (M al) w x ∧ (p - q w) * rwq n d (M al) w x ≤ 97 * 97 ∧ 0 ≤ q x ∧ q x < p := fun z => by
              have h8 := (hEw h_57).2 x x0 (by omega)
              have h9 := hqr x x0 (by omega)
              exact ⟨Int.mul_nonneg (by omega) (by omega), Int.mul_le_mul (by omega) (by omega) (by omega) (by omega), h9.1, h9.2.1⟩
            refine ab_iload C dX9_insert_140 rfl ?_
            refine ab_iload C dX9_insert_142 rfl ?_
            refine ab_icmp_gt (tgt := 188) C dX9_insert_144 rfl (fun h_144 => ?_) (fun h_144 => ?_)
            · skip
              refine ab_iinc4 (lv := []) C rfl dX9_insert_188 (by omega) ?_
              refine ab_goto (tgt := 10) C dX9_insert_191 rfl ?_
              first
              | (refine ih (w - 1, q, y5, y6, y7) (by dsimp only; omega) ⟨⟨by dsimp only; omega, by dsimp only; omega⟩, fun x a c => ⟨(hqr x a c).1, (hqr x a c).2.1, fun z => ?_⟩, ⟨hc5, hc6, hc7⟩, hVV⟩
                 dsimp only at z ⊢
                 rcases (show x = w ∨ w < x by omega) with y | y
                 · rw [y]; exact h_22
                 · exact (hqr x a c).2.2 y)
              | (have ex : x = w + 1 := by omega
                 subst ex
                 refine ih (w - 1, (fun z9 => if 0 ≤ z9 ∧ z9 < (w + 1) then (q z9 + (p - q w) * rwq n d (M al) w z9) % p else q z9), _, _, _) (by dsimp only; omega) ⟨⟨by dsimp only; omega, by dsimp only; omega⟩, fun x a c => ?_, ⟨rfl, rfl, rfl⟩, fun V hV hR => (Iff.trans (elim_in (q := q) (q2 := (fun z9 => if 0 ≤ z9 ∧ z9 < (w + 1) then (q z9 + (p - q w) * rwq n d (M al) w z9) % p else q z9)) (v := q w) (R := rwq n d (M al) w) hV (hR w w0 hw1 h_57) (fun i i0 i1 => ?_)) (hVV V hV hR))⟩
                 · dsimp only
                   by_cases z : 0 ≤ x ∧ x < w + 1
                   · rw [if_pos z]
                     have := emod_in (a := q x + (p - q w) * rwq n d (M al) w x) p1
                     refine ⟨this.1, this.2, fun y => ?_⟩
                     have e : x = w := by omega
                     subst e
                     rw [(hEw h_57).1, Int.mul_one, show q x + (p - q x) = p by omega]
                     exact Int.emod_self
                   · rw [if_neg z]
                     exact ⟨(hqr x a c).1, (hqr x a c).2.1, fun y => (hqr x a c).2.2 (by omega)⟩
                 · (try dsimp only)
                   by_cases z : 0 ≤ i ∧ i < w + 1
                   · rw [if_pos z]
                     exact cg_tr (cg_mod p _) (cg_pv p _ _ _)
                   · rw [if_neg z, (hqr i i0 i1).2.2 (by omega), ((hEw h_57).2 i i0 i1).2.2 (by omega), Int.mul_zero]
                     exact cg_eq rfl)
            · skip
              refine ab_aload_n C dX9_insert_147 rfl rfl ?_
              refine gf_RX9_55 C s_t rfl dX9_insert_148 ?_
              refine ab_iload C dX9_insert_151 rfl ?_
              refine ab_aload_n C dX9_insert_153 rfl rfl ?_
              refine gf_RX9_55 C s_t rfl dX9_insert_154 ?_
              refine ab_iload C dX9_insert_157 rfl ?_
              refine ab_iaload C s_t_row (by omega) (by omega) dX9_insert_159 ?_
              rw [t12]
              refine ab_aload_n C dX9_insert_160 rfl rfl ?_
              refine gf_RX9_13 C s_t rfl dX9_insert_161 ?_
              rw [tp]
              refine ab_iload C dX9_insert_164 rfl ?_
              refine ab_isub C dX9_insert_166 (by omega) ?_
              refine ab_aload_n C dX9_insert_167 rfl rfl ?_
              refine ab_iload C dX9_insert_168 rfl ?_
              refine ab_iload C dX9_insert_170 rfl ?_
              refine ab_iadd C dX9_insert_172 (by omega) ?_
              refine ab_iaload C s_al (by omega) (by omega) dX9_insert_173 ?_
              rw [ta]
              refine ab_imul C dX9_insert_174 (by omega) ?_
              refine ab_iadd C dX9_insert_175 (by omega) ?_
              refine ab_aload_n C dX9_insert_176 rfl rfl ?_
              refine gf_RX9_13 C s_t rfl dX9_insert_177 ?_
              rw [tp]
              refine ab_irem C dX9_insert_180 (by omega) (by omega) ?_
              refine ab_iastore C s_t_row (by omega) (by omega) dX9_insert_181 ?_
              refine ab_iinc7 (lv := []) C rfl dX9_insert_182 (by omega) ?_
              refine ab_goto (tgt := 140) C dX9_insert_185 rfl ?_
              refine ab_mem (M2 := upA M (m + 12) (fun z9 => if 0 ≤ z9 ∧ z9 < (x + 1) then (q z9 + (p - q w) * rwq n d (M al) w z9) % p else q z9)) ?_ (ihx () (by omega) (by omega))
              rw [up_upA]
              exact upA_ext (fun y => by
                by_cases q1 : y = x
                · rw [if_pos q1, if_pos (by omega), q1]
                · rw [if_neg q1]
                  by_cases q2 : 0 ≤ y ∧ y < x
                  · rw [if_pos q2, if_pos (by omega)]
                  · rw [if_neg q2, if_neg (by omega)])
        · skip
          refine ab_aload_n C dX9_insert_60 rfl rfl ?_
          refine ab_aload_n C dX9_insert_61 rfl rfl ?_
          refine gf_RX9_55 C s_t rfl dX9_insert_62 ?_
          refine ab_iload C dX9_insert_65 rfl ?_
          refine ab_iaload C s_t_row (by omega) (by omega) dX9_insert_67 ?_
          refine ab_callV C cl_RX9_134 (m_X9_inverse B_t (by assumption) (by have := hqr w w0 hw1; rw [rq]; omega) (by have := hqr w w0 hw1; rw [rq]; omega)) (by decide) rfl s_t rfl rfl (Nat.le_of_ble_eq_true rfl) dX9_insert_68 (ab_kI (fun r_68 M_68 h_68 => ?_))
          obtain ⟨rfl, rfl⟩ := h_68
          rw [rq]
          refine ab_istore6 (lv := []) C rfl dX9_insert_71 ?_
          refine ab_iconst C dX9_insert_73 (by decide) ?_
          refine ab_istore7 (lv := []) C rfl dX9_insert_74 ?_
          refine ab_mem (M2 := upA (upA M (m + 12) q) al (fun y => if (sqm n d + w * pw n d) ≤ y ∧ y < (sqm n d + w * pw n d) + (0 : Int) then (q (y - (sqm n d + w * pw n d)) * ivf p (q w)) % p else M al y)) (upA_id (fun j => by rw [if_neg (by omega), ral])) ?_
          refine ab_loop (fun x (_ : Unit) => AJ K S 76 [vP m, vP al, vP le, vI d, vI w, vI (sqm n d + w * pw n d), vI (ivf p (q w)), vI x] [] (upA (upA M (m + 12) q) al (fun y => if (sqm n d + w * pw n d) ≤ y ∧ y < (sqm n d + w * pw n d) + x then (q (y - (sqm n d + w * pw n d)) * ivf p (q w)) % p else M al y))) (fun x _ => 0 ≤ x) (pw n d) ?_ 0 () (by omega) (by omega)
          · intro x _ hx x0 ihx
            have t1 : upA (upA M (m + 12) q) al (fun y => if (sqm n d + w * pw n d) ≤ y ∧ y < (sqm n d + w * pw n d) + x then (q (y - (sqm n d + w * pw n d)) * ivf p (q w)) % p else M al y) (m + 1) d = pw n d := by rw [upA_k (by omega), r1, e_w]
            have t2 : upA (upA M (m + 12) q) al (fun y => if (sqm n d + w * pw n d) ≤ y ∧ y < (sqm n d + w * pw n d) + x then (q (y - (sqm n d + w * pw n d)) * ivf p (q w)) % p else M al y) (m + 2) d = wsm n d := by rw [upA_k (by omega), r2, e_b]
            have t12 : upA (upA M (m + 12) q) al (fun y => if (sqm n d + w * pw n d) ≤ y ∧ y < (sqm n d + w * pw n d) + x then (q (y - (sqm n d + w * pw n d)) * ivf p (q w)) % p else M al y) (m + 12) x = q x := by rw [upA_k (by omega), rq]
            have tp : upA (upA M (m + 12) q) al (fun y => if (sqm n d + w * pw n d) ≤ y ∧ y < (sqm n d + w * pw n d) + x then (q (y - (sqm n d + w * pw n d)) * ivf p (q w)) % p else M al y) m 1 = p := by rw [upA_k (by omega), upA_k (by omega), m_p]
            obtain ⟨v1, v2, v3⟩ := ivf_ok (v := q w) hPr (by omega) (by omega)
            have hm : x < pw n d → 0 ≤ q x * ivf p (q w) ∧ q x * ivf p (q w) ≤ 97 * 97 := fun z => by
              have := hqr x x0 z
              exact ⟨Int.mul_nonneg (by omega) (by omega), Int.mul_le_mul (by omega) (by omega) (by omega) (by omega)⟩
            refine ab_iload C dX9_insert_76 rfl ?_
            refine ab_aload_n C dX9_insert_78 rfl rfl ?_
            refine gf_RX9_19 C s_t rfl dX9_insert_79 ?_
            refine ab_iload_n C dX9_insert_82 rfl rfl ?_
            refine ab_iaload C s_t_words (by omega) (by omega) dX9_insert_83 ?_
            rw [t1]
            refine ab_icmp_ge (tgt := 115) C dX9_insert_84 rfl (fun h_84 => ?_) (fun h_84 => ?_)
            · skip
              refine ab_aload_n C dX9_insert_115 rfl rfl ?_
              refine ab_aload_n C dX9_insert_116 rfl rfl ?_
              refine gf_RX9_23 C s_t rfl dX9_insert_117 ?_
              refine ab_iload_n C dX9_insert_120 rfl rfl ?_
              refine ab_iaload C s_t_begins (by omega) (by omega) dX9_insert_121 ?_
              rw [t2]
              refine ab_iload C dX9_insert_122 rfl ?_
              refine ab_iadd C dX9_insert_124 (by omega) ?_
              refine ab_iconst C dX9_insert_125 (by decide) ?_
              refine ab_bastore C s_le (by omega) (by omega) (by omega) dX9_insert_126 ?_
              refine ab_vret (st := []) C r dX9_insert_127 ?_
              have ex : x = pw n d := by omega
              subst ex
              obtain ⟨M9, hM9⟩ : ∃ M9, up (upA (upA M (m + 12) q) al (fun y => if (sqm n d + w * pw n d) ≤ y ∧ y < (sqm n d + w * pw n d) + (pw n d) then (q (y - (sqm n d + w * pw n d)) * ivf p (q w)) % p else M al y)) le (wsm n d + w) 1 = M9 := ⟨_, rfl⟩
              rw [hM9]
              have z1 : M9 al = (fun y => if (sqm n d + w * pw n d) ≤ y ∧ y < (sqm n d + w * pw n d) + (pw n d) then (q (y - (sqm n d + w * pw n d)) * ivf p (q w)) % p else M al y) := by
                rw [← hM9, up_row (by omega)]
                funext y; exact upA_s
              have z2 : M9 le = stZ n d w 1 (M le) := by
                rw [← hM9]
                funext y
                unfold stZ up
                by_cases z : y = wsm n d + w
                · simp [z]
                · simp [z]
                  rw [upA_k (by omega), upA_k (by omega)]
              have ro : ∀ w2 y, w2 ≠ w → 0 ≤ y → y < pw n d → rwq n d (M9 al) w2 y = rwq n d (M al) w2 y := fun w2 y c1 c2 c3 => by
                rw [z1]
                unfold rwq
                dsimp only
                rw [if_neg]
                intro z
                have := rwq_un (P := pw n d) (w := w2) (x := y) (w2 := w) (x2 := w2 * pw n d + y - w * pw n d) c2 c3 (by omega) (by omega) (by omega)
                exact c1 this.1
              have rw_ : ∀ y, 0 ≤ y → y < pw n d → rwq n d (M9 al) w y = (q y * ivf p (q w)) % p := fun y c2 c3 => by
                rw [z1]
                unfold rwq
                dsimp only
                rw [if_pos (by omega), show sqm n d + w * pw n d + y - (sqm n d + w * pw n d) = y by omega]
              obtain ⟨v1, v2, v3⟩ := ivf_ok (v := q w) hPr (by omega) (by omega)
              have rvo : ∀ w2, w2 ≠ w → rvV n d (M9 al) w2 = rvV n d (M al) w2 := fun w2 c1 => by
                funext y
                unfold rvV
                by_cases z : 0 ≤ y ∧ y < pw n d
                · rw [if_pos z, if_pos z, ro w2 y c1 z.1 z.2]
                · rw [if_neg z, if_neg z]
              refine ⟨rfl, ?_, fun w2 a c => ?_, fun y hy => ?_, fun y hy => ?_, fun V hV hR => ?_, fun V hV hR hqq => ?_⟩
              · rw [← hM9]; exact same_tr (same_tr (same_upA (by simp)) (same_upA (by simp))) (same_up (by simp))
              · rw [z2]
                by_cases z : w2 = w
                · subst z
                  rw [stZ_s]
                  refine ⟨Or.inr rfl, fun _ => ⟨by rw [rw_ w2 a c]; exact v3, fun y c2 c3 => ?_⟩⟩
                  rw [rw_ y c2 c3]
                  have := emod_in (a := q y * ivf p (q w2)) p1
                  refine ⟨this.1, this.2, fun y2 => ?_⟩
                  rw [(hqr y c2 c3).2.2 y2, Int.zero_mul]; rfl
                · rw [stZ_n z]
                  refine ⟨(hE w2 a c).1, fun y => ?_⟩
                  rw [ro w2 w2 z a c]
                  refine ⟨((hE w2 a c).2 y).1, fun x c2 c3 => ?_⟩
                  rw [ro w2 x z c2 c3]
                  exact ((hE w2 a c).2 y).2 x c2 c3
              · rw [z1]; dsimp only; rw [if_neg (by omega)]
              · rw [z2]; unfold stZ; rw [if_neg (by omega)]
              · have hR0 : RowsIn n d (M al) (M le) V := fun w2 a c hl => by
                  have z : w2 ≠ w := fun z => by rw [z] at hl; exact hl h_57
                  rw [← rvo w2 z]
                  exact hR w2 a c (by rw [z2, stZ_n z]; exact hl)
                refine ⟨hR0, (hVV V hV hR0).mp ?_⟩
                have hw9 := hR w w0 hw1 (by rw [z2, stZ_s]; decide)
                refine hV.2.2.2 _ _ (hV.2.2.1 (q w) _ hw9) (fun i i0 i1 => ?_)
                unfold rvV qvV
                (try dsimp only)
                rw [if_pos ⟨i0, i1⟩, if_pos ⟨i0, i1⟩, rw_ i i0 i1]
                have c1 := cg_mulL (q w) (cg_mod p (q i * ivf p (q w)))
                have c2 := cg_mod p (q w * ivf p (q w))
                rw [v3] at c2
                refine cg_tr c1 ?_
                have c3 := cg_mulL (q i) (cg_sy c2)
                refine cg_tr (cg_eq ?_) (cg_tr c3 (cg_eq (Int.mul_one _)))
                rw [Int.mul_left_comm]
              · intro w2 a c hl
                rw [z2] at hl
                by_cases z : w2 = w
                · subst z
                  have hq9 := (hVV V hV hR).mpr hqq
                  refine hV.2.2.2 _ _ (hV.2.2.1 (ivf p (q w2)) _ hq9) (fun i i0 i1 => ?_)
                  unfold rvV qvV
                  (try dsimp only)
                  rw [if_pos ⟨i0, i1⟩, if_pos ⟨i0, i1⟩, rw_ i i0 i1, Int.mul_comm]
                  exact cg_sy (cg_mod p _)
                · rw [stZ_n z] at hl
                  rw [rvo w2 z]
                  exact hR w2 a c hl
            · skip
              refine ab_aload_n C dX9_insert_87 rfl rfl ?_
              refine ab_iload C dX9_insert_88 rfl ?_
              refine ab_iload C dX9_insert_90 rfl ?_
              refine ab_iadd C dX9_insert_92 (by omega) ?_
              refine ab_aload_n C dX9_insert_93 rfl rfl ?_
              refine gf_RX9_55 C s_t rfl dX9_insert_94 ?_
              refine ab_iload C dX9_insert_97 rfl ?_
              skip
              refine ab_iaload C s_t_row (by omega) (by omega) dX9_insert_99 ?_
              rw [t12]
              refine ab_iload C dX9_insert_100 rfl ?_
              refine ab_imul C dX9_insert_102 (by omega) ?_
              refine ab_aload_n C dX9_insert_103 rfl rfl ?_
              refine gf_RX9_13 C s_t rfl dX9_insert_104 ?_
              rw [tp]
              refine ab_irem C dX9_insert_107 (by omega) (by omega) ?_
              refine ab_iastore C s_al (by omega) (by omega) dX9_insert_108 ?_
              refine ab_iinc7 (lv := []) C rfl dX9_insert_109 (by omega) ?_
              refine ab_goto (tgt := 76) C dX9_insert_112 rfl ?_
              refine ab_mem (M2 := upA (upA M (m + 12) q) al (fun y => if (sqm n d + w * pw n d) ≤ y ∧ y < (sqm n d + w * pw n d) + (x + 1) then (q (y - (sqm n d + w * pw n d)) * ivf p (q w)) % p else M al y)) ?_ (ihx () (by omega) (by omega))
              rw [up_upA]
              exact upA_ext (fun y => by
                by_cases q1 : y = (sqm n d + w * pw n d) + x
                · rw [if_pos q1, if_pos (by omega), q1, show (sqm n d + w * pw n d) + x - (sqm n d + w * pw n d) = x by omega]
                · rw [if_neg q1]
                  by_cases q2 : (sqm n d + w * pw n d) ≤ y ∧ y < (sqm n d + w * pw n d) + x
                  · rw [if_pos q2, if_pos (by omega)]
                  · rw [if_neg q2, if_neg (by omega)])
      · skip
        refine ab_goto (tgt := 188) C dX9_insert_25 rfl ?_
        refine ab_iinc4 (lv := []) C rfl dX9_insert_188 (by omega) ?_
        refine ab_goto (tgt := 10) C dX9_insert_191 rfl ?_
        first
        | (refine ih (w - 1, q, y5, y6, y7) (by dsimp only; omega) ⟨⟨by dsimp only; omega, by dsimp only; omega⟩, fun x a c => ⟨(hqr x a c).1, (hqr x a c).2.1, fun z => ?_⟩, ⟨hc5, hc6, hc7⟩, hVV⟩
           dsimp only at z ⊢
           rcases (show x = w ∨ w < x by omega) with y | y
           · rw [y]; exact h_22
           · exact (hqr x a c).2.2 y)
        | (have ex : x = w + 1 := by omega
           subst ex
           refine ih (w - 1, (fun z9 => if 0 ≤ z9 ∧ z9 < (w + 1) then (q z9 + (p - q w) * rwq n d (M al) w z9) % p else q z9), _, _, _) (by dsimp only; omega) ⟨⟨by dsimp only; omega, by dsimp only; omega⟩, fun x a c => ?_, ⟨rfl, rfl, rfl⟩, fun V hV hR => (Iff.trans (elim_in (q := q) (q2 := (fun z9 => if 0 ≤ z9 ∧ z9 < (w + 1) then (q z9 + (p - q w) * rwq n d (M al) w z9) % p else q z9)) (v := q w) (R := rwq n d (M al) w) hV (hR w w0 hw1 h_57) (fun i i0 i1 => ?_)) (hVV V hV hR))⟩
           · dsimp only
             by_cases z : 0 ≤ x ∧ x < w + 1
             · rw [if_pos z]
               have := emod_in (a := q x + (p - q w) * rwq n d (M al) w x) p1
               refine ⟨this.1, this.2, fun y => ?_⟩
               have e : x = w := by omega
               subst e
               rw [(hEw h_57).1, Int.mul_one, show q x + (p - q x) = p by omega]
               exact Int.emod_self
             · rw [if_neg z]
               exact ⟨(hqr x a c).1, (hqr x a c).2.1, fun y => (hqr x a c).2.2 (by omega)⟩
           · (try dsimp only)
             by_cases z : 0 ≤ i ∧ i < w + 1
             · rw [if_pos z]
               exact cg_tr (cg_mod p _) (cg_pv p _ _ _)
             · rw [if_neg z, (hqr i i0 i1).2.2 (by omega), ((hEw h_57).2 i i0 i1).2.2 (by omega), Int.mul_zero]
               exact cg_eq rfl)
