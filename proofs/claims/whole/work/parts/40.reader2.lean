set_option maxRecDepth 100000 in
set_option maxHeartbeats 4000000 in
theorem m_X4_read {D : va_G} {cA : Nat → ClassId} {S : List AbS} {M : AbM} {rr a u : Nat} {n p : Int} (B_t : shRe S rr a) (A_t_alphabet : Al M a n p) (hr : rr < a ∨ a + 3 < rr) (hu : u + 1 < a ∨ a + 3 < u) (hru : rr < u ∨ u + 1 < rr) {t : Nat} (B_p : shTa S t) (B_f : shSu S u a) (ht : (t + 1 < rr ∨ rr < t) ∧ (t + 1 < u ∨ u + 1 < t) ∧ (t + 1 < a ∨ a + 3 < t)) (t0 : 0 ≤ M t 1) (t1 : M t 1 ≤ 80) (hb : ∀ i, 0 ≤ i → i < M t 1 → 0 ≤ M (t + 1) i ∧ M (t + 1) i ≤ 255) : Meth yX4_read cX4_read 5 (some .int) rmX4_read D cA S [vP rr, vP t, vP u] M (qI fun x M2 => same [rr, u + 1] M M2 ∧ x = (endR n p (M t 1) (runR n p (M (t + 1)) (M rr 4) (M t 1).toNat)).1 ∧ (x = 0 → ∀ y, 0 ≤ y → y < 364 → M2 (u + 1) y = (endR n p (M t 1) (runR n p (M (t + 1)) (M rr 4) (M t 1).toNat)).2 y)) := by
  refine ab_intro (lv := [vP rr, vP t, vP u, vU, vU]) (by decide +kernel) rfl (Nat.le_of_ble_eq_true rfl) ?_
  intro hO hargs K hKD hKA C r
  have C : Cx K cX4_read RX4 rmX4_read := C
  obtain ⟨s_t, B_t_alphabet⟩ := id B_t
  obtain ⟨s_t_alphabet, -⟩ := id B_t_alphabet
  obtain ⟨⟨n1, n2, hPr⟩, -⟩ := id A_t_alphabet
  obtain ⟨p1, p2, -⟩ := id hPr
  have hLB := Lg_B n
  obtain ⟨s_p, s_p_bytes⟩ := id B_p
  obtain ⟨s_f, s_f_numbers, -⟩ := id B_f
  have A0 := A_t_alphabet
  refine ab_aload_n C dX4_read_0 rfl rfl ?_
  refine ab_callV C cl_RX4_15 (m_X6_clear B_f) (by decide) rfl s_f rfl rfl (Nat.le_of_ble_eq_true rfl) dX4_read_1 (ab_kV (fun M_1 h_1 => ?_))
  subst h_1
  refine ab_aload_n C dX4_read_4 rfl rfl ?_
  refine ab_iconst C dX4_read_5 (by decide) ?_
  refine ab_iconst C dX4_read_6 (by decide) ?_
  refine ab_callV C cl_RX4_20 (m_X4_openTerm B_t) (by decide) rfl s_t rfl rfl (Nat.le_of_ble_eq_true rfl) dX4_read_7 (ab_kV (fun M_7 h_7 => ?_))
  subst h_7
  refine ab_iconst C dX4_read_10 (by decide) ?_
  refine ab_istore3 (lv := []) C rfl dX4_read_11 ?_
  obtain ⟨Mi, hMi⟩ : ∃ Mi, up (up (up (up (up (upA M (u + 1) (fun j => if 0 ≤ j ∧ j < 364 then 0 else M (u + 1) j)) rr 1 0) rr 2 1) rr 3 1) rr 5 0) rr 6 0 = Mi := ⟨_, rfl⟩
  rw [hMi]
  have hsi : same [rr, u + 1] M Mi := by rw [← hMi]; exact same_tr (same_upA (by simp)) (same_tr (same_tr (same_tr (same_tr (same_up (by simp)) (same_up (by simp))) (same_up (by simp))) (same_up (by simp))) (same_up (by simp)))
  refine ab_loop (fun i (y : AbV × AbM) => AJ K S 12 [vP rr, vP t, vP u, vI i, y.1] [] y.2) (fun i y => 0 ≤ i ∧ same [rr, u + 1] M y.2 ∧ (runR n p (M (t + 1)) (M rr 4) i.toNat).1 = -1 ∧ rsOf y.2 rr = (runR n p (M (t + 1)) (M rr 4) i.toNat).2.1 ∧ (∀ j, 0 ≤ j → j < 364 → y.2 (u + 1) j = (runR n p (M (t + 1)) (M rr 4) i.toNat).2.2 j) ∧ okR n (rsOf y.2 rr) ∧ ((rsOf y.2 rr).1 = 2 → 0 ≤ (rsOf y.2 rr).2.2.2.1 ∧ (rsOf y.2 rr).2.2.2.1 ≤ 80)) (M t 1) ?_ 0 (vU, Mi) (by omega) ⟨by omega, hsi, rfl, ?_, ?_, ?_, ?_⟩
  · intro i y hi hI ih
    obtain ⟨y1, M5⟩ := y
    obtain ⟨i0, hse, hru1, hrs, hvv, hok, hnp⟩ := hI
    dsimp only at hse hrs hvv hok hnp ih ⊢
    have A_t_alphabet := hse.al A0 (by intro k hk; simp only [List.mem_cons, List.not_mem_nil, or_false] at hk; omega)
    have et : M5 t 1 = M t 1 := by rw [hse t (by simp; omega)]
    have etb : ∀ j, M5 (t + 1) j = M (t + 1) j := fun j => by rw [hse (t + 1) (by simp; omega)]
    refine ab_iload_n C dX4_read_12 rfl rfl ?_
    refine ab_aload_n C dX4_read_13 rfl rfl ?_
    refine ab_callV C cl_RX4_24 (m_X7_size B_p) (by decide) rfl s_p rfl rfl (Nat.le_of_ble_eq_true rfl) dX4_read_14 (ab_kI (fun r_14 M_14 h_14 => ?_))
    obtain ⟨rfl, rfl⟩ := h_14
    refine ab_icmp_ge (tgt := 51) C dX4_read_17 rfl (fun h_17 => ?_) (fun h_17 => ?_)
    · skip
      refine ab_aload_n C dX4_read_51 rfl rfl ?_
      refine ab_callV C cl_RX4_38 (m_X4_needsTerm B_t) (by decide) rfl s_t rfl rfl (Nat.le_of_ble_eq_true rfl) dX4_read_52 (ab_kI (fun r_52 M_52 h_52 => ?_))
      obtain ⟨rfl, rfl⟩ := h_52
      refine ab_if_eq (tgt := 66) C dX4_read_55 rfl (fun h_55 => ?_) (fun h_55 => ?_)
      · skip
        refine ab_aload_n C dX4_read_66 rfl rfl ?_
        refine ab_aload_n C dX4_read_67 rfl rfl ?_
        refine ab_callV C cl_RX4_42 (m_X4_closeTerm B_t (by assumption) (by omega) (by omega) (by omega) B_f hok) (by decide) rfl s_t rfl rfl (Nat.le_of_ble_eq_true rfl) dX4_read_68 (ab_kV (fun M_68 h_68 => ?_))
        subst h_68
        refine ab_iconst C dX4_read_71 (by decide) ?_
        refine ab_iret (st := []) C r dX4_read_72 ?_
        have ei : i = M t 1 := by omega
        rw [ei] at hru1 hrs hvv
        have hst := b01_eq h_55
        have e1 : M5 rr 1 = (runR n p (M (t + 1)) (M rr 4) (M t 1).toNat).2.1.1 := congrArg (fun q : RS => q.1) hrs
        rw [e1] at hst
        refine ⟨_, rfl, same_tr hse (same_upA (by simp)), ?_, fun _ y y0 y1 => ?_⟩
        · unfold endR
          rw [if_neg (fun z => z hru1), if_neg hst]
        · unfold endR
          rw [if_neg (fun z => z hru1), if_neg hst, upA_s, hrs]
          exact closeV_v hvv y y0 y1
      · skip
        refine ab_bipush C dX4_read_58 (by decide) (by decide +kernel) ?_
        refine ab_aload_n C dX4_read_60 rfl rfl ?_
        refine ab_callV C cl_RX4_24 (m_X7_size B_p) (by decide) rfl s_p rfl rfl (Nat.le_of_ble_eq_true rfl) dX4_read_61 (ab_kI (fun r_61 M_61 h_61 => ?_))
        obtain ⟨rfl, rfl⟩ := h_61
        refine ab_isub C dX4_read_64 (by omega) ?_
        refine ab_iret (st := []) C r dX4_read_65 ?_
        have ei : i = M t 1 := by omega
        rw [ei] at hru1 hrs
        have hst := b01_ne h_55
        have e1 : M5 rr 1 = (runR n p (M (t + 1)) (M rr 4) (M t 1).toNat).2.1.1 := congrArg (fun q : RS => q.1) hrs
        rw [e1] at hst
        refine ⟨_, rfl, hse, ?_, fun z => ?_⟩
        · unfold endR
          rw [if_neg (fun z => z hru1), if_pos hst, et]
        · exfalso; rw [et] at z; omega
    · skip
      refine ab_aload_n C dX4_read_20 rfl rfl ?_
      refine ab_aload_n C dX4_read_21 rfl rfl ?_
      refine ab_iload_n C dX4_read_22 rfl rfl ?_
      refine ab_callV C cl_RX4_30 (m_X7_at B_p (by omega) (by rw [et]; omega) (by rw [et]; omega)) (by decide) rfl s_p rfl rfl (Nat.le_of_ble_eq_true rfl) dX4_read_23 (ab_kI (fun r_23 M_23 h_23 => ?_))
      obtain ⟨rfl, rfl⟩ := h_23
      refine ab_iload_n C dX4_read_26 rfl rfl ?_
      refine ab_aload_n C dX4_read_27 rfl rfl ?_
      refine ab_callV C cl_RX4_34 (m_X4_takeByte B_t (by assumption) (by omega) (by omega) (by omega) B_f hok (by rw [etb]; exact (hb i i0 (by omega)).1) (by rw [etb]; exact (hb i i0 (by omega)).2)) (by decide) rfl s_t rfl rfl (Nat.le_of_ble_eq_true rfl) dX4_read_28 (ab_kI (fun r_28 M_28 h_28 => ?_))
      obtain ⟨hs2, e2⟩ := h_28
      rw [etb] at e2
      have e20 : r_28 = (rByte n p (rsOf M5 rr) (M5 (u + 1)) (M (t + 1) i) i).1 := congrArg (fun q : RR => q.1) e2
      have hf9 := rByte_f (n := n) (p := p) (s := rsOf M5 rr) (v := M5 (u + 1)) (c := M (t + 1) i) (pl := i) i0 (by omega) hnp
      rw [← e20] at hf9
      refine ab_istore4 (lv := []) C rfl dX4_read_31 ?_
      refine ab_iload C dX4_read_33 rfl ?_
      refine ab_iconst C dX4_read_35 (by decide) ?_
      refine ab_icmp_eq (tgt := 45) C dX4_read_36 rfl (fun h_36 => ?_) (fun h_36 => ?_)
      · skip
        refine ab_iinc3 (lv := []) C rfl dX4_read_45 (by omega) ?_
        refine ab_goto (tgt := 12) C dX4_read_48 rfl ?_
        have e2a : r_28 = (rByte n p (rsOf M5 rr) (M5 (u + 1)) (M (t + 1) i) i).1 := congrArg (fun q : RR => q.1) e2
        have e2b : rsOf M_28 rr = (rByte n p (rsOf M5 rr) (M5 (u + 1)) (M (t + 1) i) i).2.1 := congrArg (fun q : RR => q.2.1) e2
        have e2c : M_28 (u + 1) = (rByte n p (rsOf M5 rr) (M5 (u + 1)) (M (t + 1) i) i).2.2 := congrArg (fun q : RR => q.2.2) e2
        rw [h_36] at e2a
        have hv := rByte_v (n := n) (p := p) (s := rsOf M5 rr) (c := M (t + 1) i) (pl := i) hvv
        have hk := okR_byte n1 hok i0 (fun z => (hnp z).1) e2a.symm
        have hnb := np_byte (n := n) (p := p) (s := rsOf M5 rr) (v := M5 (u + 1)) (c := M (t + 1) i) (pl := i) (by omega) (fun z => (hnp z).2)
        have hrn := runR_s (n := n) (p := p) (T := M (t + 1)) (np := M rr 4) i0 hru1
        refine ih (_, _) (by omega) ⟨by omega, same_tr hse hs2, ?_, ?_, ?_, ?_, ?_⟩
        · rw [hrn, ← hrs, ← hv.1]; exact e2a.symm
        · rw [hrn, ← hrs, ← hv.2.1]; exact e2b
        · rw [hrn, ← hrs]
          intro j j0 j1
          rw [← hv.2.2 j j0 j1]
          exact congrFun e2c j
        · show okR n (rsOf M_28 rr)
          rw [e2b]; exact hk.1
        · show (rsOf M_28 rr).1 = 2 → 0 ≤ (rsOf M_28 rr).2.2.2.1 ∧ (rsOf M_28 rr).2.2.2.1 ≤ 80
          rw [e2b]; exact fun z => ⟨hk.2 z, hnb z⟩
      · skip
        refine ab_bipush C dX4_read_39 (by decide) (by decide +kernel) ?_
        refine ab_iload C dX4_read_41 rfl ?_
        refine ab_isub C dX4_read_43 (by omega) ?_
        refine ab_iret (st := []) C r dX4_read_44 ?_
        have e2a : r_28 = (rByte n p (rsOf M5 rr) (M5 (u + 1)) (M (t + 1) i) i).1 := congrArg (fun q : RR => q.1) e2
        have hv := rByte_v (n := n) (p := p) (s := rsOf M5 rr) (c := M (t + 1) i) (pl := i) hvv
        have hrn := runR_s (n := n) (p := p) (T := M (t + 1)) (np := M rr 4) i0 hru1
        have e5 : (runR n p (M (t + 1)) (M rr 4) (i + 1).toNat).1 = r_28 := by rw [hrn, ← hrs, ← hv.1]; exact e2a.symm
        have e6 := runR_f (n := n) (p := p) (T := M (t + 1)) (np := M rr 4) (i := i + 1) (N := M t 1) (by omega) (by omega) (by rw [e5]; exact h_36)
        refine ⟨_, rfl, same_tr hse hs2, ?_, fun z => ?_⟩
        · unfold endR
          rw [e6, e5, if_pos h_36]
        · exfalso
          have := rByte_f (n := n) (p := p) (s := rsOf M5 rr) (v := M5 (u + 1)) (c := M (t + 1) i) (pl := i) i0 (by omega) hnp
          rw [← e2a] at this
          omega
  · show rsOf Mi rr = _
    rw [← hMi]
    simp [up, upA, runR, rsOf]
    intro z; omega
  · intro j j0 j1
    show Mi (u + 1) j = 0
    rw [← hMi, up_k (by omega), up_k (by omega), up_k (by omega), up_k (by omega), up_k (by omega), upA_s, if_pos ⟨j0, j1⟩]
  · have e9 : rsOf Mi rr = (0, 1, 1, Mi rr 4, 0, 0) := by
      rw [← hMi]
      simp [up, rsOf]
    rw [e9]
    exact ⟨⟨by dsimp only; omega, by dsimp only; omega⟩, Or.inl rfl, ⟨by dsimp only; omega, by dsimp only; omega⟩, ⟨by dsimp only; omega, by dsimp only; omega⟩, by dsimp only; omega, by show (0 : Int) < pw n 0; rw [pw_0]; decide⟩
  · have e9 : (rsOf Mi rr).1 = 0 := by
      rw [← hMi]
      simp [up, rsOf]
    rw [e9]
    intro z
    omega
