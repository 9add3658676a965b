/-! ===== the reference's answers, over one state ===== -/
theorem w_X9_normal {D : va_G} {cA : Nat → ClassId} {S : List AbS} {M : AbM} {m : Nat} {a : St} {d : Int} (B_t : shMo S m) (H : MRel a M m) : Meth yX9_normal cX9_normal 2 (some .int) rmX9_normal D cA S [vP m, vI d] M (qI fun q M2 => same (MP m) M M2 ∧ MRel a M2 m ∧ q = aNormal a d) := by
  obtain ⟨e1, e2, e3, e4, e5, e6⟩ := H.2.1.eq
  refine (m_X9_normal B_t H.1 H.2.1.m H.2.2.1).mono (fun rs M2 h => ?_)
  obtain ⟨q, hr, hK, hv⟩ := h
  refine ⟨q, hr, (hK.rel H).1, (hK.rel H).2, ?_⟩
  rw [← hv]
  unfold aNormal
  rw [e3]
theorem w_X9_leads {D : va_G} {cA : Nat → ClassId} {S : List AbS} {M : AbM} {m : Nat} {a : St} {d w : Int} (B_t : shMo S m) (H : MRel a M m) : Meth yX9_leads cX9_leads 3 (some .int) rmX9_leads D cA S [vP m, vI d, vI w] M (qI fun q M2 => same (MP m) M M2 ∧ MRel a M2 m ∧ q = aLeads a d w) := by
  obtain ⟨e1, e2, e3, e4, e5, e6⟩ := H.2.1.eq
  refine (m_X9_leads B_t H.1 H.2.1.m H.2.2.1).mono (fun rs M2 h => ?_)
  obtain ⟨q, hr, hK, hv⟩ := h
  refine ⟨q, hr, (hK.rel H).1, (hK.rel H).2, ?_⟩
  rw [← hv]
  unfold aLeads
  rw [e1]
theorem w_X9_word {D : va_G} {cA : Nat → ClassId} {S : List AbS} {M : AbM} {m : Nat} {a : St} {d i : Int} (B_t : shMo S m) (H : MRel a M m) : Meth yX9_word cX9_word 3 (some .int) rmX9_word D cA S [vP m, vI d, vI i] M (qI fun q M2 => same (MP m) M M2 ∧ MRel a M2 m ∧ q = aWord a d i) := by
  obtain ⟨e1, e2, e3, e4, e5, e6⟩ := H.2.1.eq
  refine (m_X9_word B_t H.1 H.2.1.m H.2.2.1).mono (fun rs M2 h => ?_)
  obtain ⟨q, hr, hK, hv⟩ := h
  refine ⟨q, hr, (hK.rel H).1, (hK.rel H).2, ?_⟩
  rw [← hv]
  unfold aWord aWd
  rw [e1]
theorem w_X9_plain {D : va_G} {cA : Nat → ClassId} {S : List AbS} {M : AbM} {m : Nat} {a : St} {d v w : Int} (B_t : shMo S m) (H : MRel a M m) : Meth yX9_plain cX9_plain 4 (some .int) rmX9_plain D cA S [vP m, vI d, vI v, vI w] M (qI fun q M2 => same (MP m) M M2 ∧ MRel a M2 m ∧ q = aPlain a d v w) := by
  obtain ⟨e1, e2, e3, e4, e5, e6⟩ := H.2.1.eq
  refine (m_X9_plain B_t H.1 H.2.1.m H.2.2.1).mono (fun rs M2 h => ?_)
  obtain ⟨q, hr, hK, hv⟩ := h
  refine ⟨q, hr, (hK.rel H).1, (hK.rel H).2, ?_⟩
  rw [← hv]
  unfold aPlain
  rw [e2]
theorem w_X9_product {D : va_G} {cA : Nat → ClassId} {S : List AbS} {M : AbM} {m : Nat} {a : St} {d i e j v : Int} (B_t : shMo S m) (H : MRel a M m) : Meth yX9_product cX9_product 8 (some .int) rmX9_product D cA S [vP m, vI d, vI i, vI e, vI j, vI v] M (qI fun q M2 => same (MP m) M M2 ∧ MRel a M2 m ∧ q = aProduct a d i e j v) := by
  obtain ⟨e1, e2, e3, e4, e5, e6⟩ := H.2.1.eq
  refine (m_X9_product B_t H.1 H.2.1.m H.2.2.1).mono (fun rs M2 h => ?_)
  obtain ⟨q, hr, hK, hv⟩ := h
  refine ⟨q, hr, (hK.rel H).1, (hK.rel H).2, ?_⟩
  rw [← hv]
  unfold aProduct aWd
  rw [e1, e2]
theorem w_X9_middle {D : va_G} {cA : Nat → ClassId} {S : List AbS} {M : AbM} {m : Nat} {a : St} {d : Int} (B_t : shMo S m) (H : MRel a M m) : Meth yX9_middle cX9_middle 8 (some .int) rmX9_middle D cA S [vP m, vI d] M (qI fun q M2 => same (MP m) M M2 ∧ MRel a M2 m ∧ q = aMiddle a d) := by
  obtain ⟨e1, e2, e3, e4, e5, e6⟩ := H.2.1.eq
  refine (m_X9_middle B_t H.1 H.2.1.m H.2.2.1).mono (fun rs M2 h => ?_)
  obtain ⟨q, hr, hK, hv⟩ := h
  refine ⟨q, hr, (hK.rel H).1, (hK.rel H).2, ?_⟩
  rw [← hv]
  unfold aMiddle
  rw [e5]
theorem w_X9_least {D : va_G} {cA : Nat → ClassId} {S : List AbS} {M : AbM} {m : Nat} {a : St} {i y : Int} (B_t : shMo S m) (H : MRel a M m) : Meth yX9_least cX9_least 6 (some .int) rmX9_least D cA S [vP m, vI i, vI y] M (qI fun q M2 => same (MP m) M M2 ∧ MRel a M2 m ∧ aLeast a i y q) := by
  obtain ⟨e1, e2, e3, e4, e5, e6⟩ := H.2.1.eq
  refine (m_X9_least B_t H.1 H.2.1.m H.2.2.1).mono (fun rs M2 h => ?_)
  obtain ⟨q, hr, hK, hv⟩ := h
  refine ⟨q, hr, (hK.rel H).1, (hK.rel H).2, ?_⟩
  unfold aLeast
  rw [e1, e2] at hv
  exact hv
theorem w_X9_other {D : va_G} {cA : Nat → ClassId} {S : List AbS} {M : AbM} {m : Nat} {a : St} {d : Int} (B_t : shMo S m) (H : MRel a M m) : Meth yX9_other cX9_other 2 (some .int) rmX9_other D cA S [vP m, vI d] M (qI fun q M2 => same (MP m) M M2 ∧ MRel a M2 m ∧ q = aOther a d) := by
  obtain ⟨e1, e2, e3, e4, e5, e6⟩ := H.2.1.eq
  refine (m_X9_other B_t H.1 H.2.1.m H.2.2.1).mono (fun rs M2 h => ?_)
  obtain ⟨q, hr, hK, hv⟩ := h
  refine ⟨q, hr, (hK.rel H).1, (hK.rel H).2, ?_⟩
  rw [← hv]
  unfold aOther aO
  rw [e3, e6]
  have hsh := short_eq H.2.1
  by_cases z : cntF (fun i => M (m + 4) i - 2) (M m 6) = 0
  · rw [if_pos z, if_pos (show cntF (fun i => a.len i - 2) a.sz = 0 from hsh.mp z)]
  · rw [if_neg z, if_neg (show ¬ cntF (fun i => a.len i - 2) a.sz = 0 from fun y => z (hsh.mpr y))]
theorem w_X9_fit {D : va_G} {cA : Nat → ClassId} {S : List AbS} {M : AbM} {m : Nat} {a : St} (B_t : shMo S m) (H : MRel a M m) : Meth yX9_fit cX9_fit 5 (some .int) rmX9_fit D cA S [vP m] M (qI fun q M2 => same (MP m) M M2 ∧ MRel a M2 m ∧ aFit a q) := by
  obtain ⟨e1, e2, e3, e4, e5, e6⟩ := H.2.1.eq
  refine (m_X9_fit B_t H.1 H.2.1.m H.2.2.1).mono (fun rs M2 h => ?_)
  obtain ⟨q, hr, hK, hv⟩ := h
  refine ⟨q, hr, (hK.rel H).1, (hK.rel H).2, ?_⟩
  have hsh := short_eq H.2.1
  rw [e3, e6] at hv
  exact ⟨fun z => hv.1 (hsh.mpr z), fun z => hv.2 (fun y => z (hsh.mp y))⟩
theorem w_X9_count {D : va_G} {cA : Nat → ClassId} {S : List AbS} {M : AbM} {m : Nat} {a : St} {h : Int} (B_t : shMo S m) (H : MRel a M m) : Meth yX9_count cX9_count 2 (some .int) rmX9_count D cA S [vP m, vI h] M (qI fun q M2 => same (MP m) M M2 ∧ MRel a M2 m ∧ q = aCount a h) := by
  obtain ⟨e1, e2, e3, e4, e5, e6⟩ := H.2.1.eq
  refine (m_X9_count B_t H.1 H.2.1.m H.2.2.1).mono (fun rs M2 h => ?_)
  obtain ⟨q, hr, hK, hv⟩ := h
  refine ⟨q, hr, (hK.rel H).1, (hK.rel H).2, ?_⟩
  rw [← hv]
  unfold aCount
  rw [e4, H.2.1.1, cnt_400 (fun j j0 j1 => (H.2.2.2.1.1.1 j j0 j1).1) H.2.2.2.1.2]
theorem sh_in {w i : Int} (h : -9223372036854775808 ≤ w ∧ w ≤ 9223372036854775807) : inL (w / 2 ^ (8 * i).toNat) := by
  have hp : (0 : Int) < 2 ^ (8 * i).toNat := Int.pow_pos (by decide)
  constructor
  · refine Int.le_ediv_of_mul_le hp ?_
    have hp1 : (1 : Int) ≤ 2 ^ (8 * i).toNat := hp
    generalize (2 : Int) ^ (8 * i).toNat = X at hp1
    omega
  · by_cases q : 0 ≤ w
    · exact Int.le_trans (Int.ediv_le_self _ q) h.2
    · have := Int.ediv_neg_of_neg_of_pos (show w < 0 by omega) hp
      omega
