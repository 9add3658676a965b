/-! ===== one state for both sides ===== -/
abbrev St : Type := Int × Int × Int × (Int → Int) × (Int → Int) × (Int → Int) × Int × (Int → Int) × (Int → Int) × (Int → Int) × (Int → Int)
abbrev St.n (a : St) : Int := a.1
abbrev St.p (a : St) : Int := a.2.1
abbrev St.sz (a : St) : Int := a.2.2.1
abbrev St.len (a : St) : Int → Int := a.2.2.2.1
abbrev St.num (a : St) : Int → Int := a.2.2.2.2.1
abbrev St.sum (a : St) : Int → Int := a.2.2.2.2.2.1
abbrev St.tn (a : St) : Int := a.2.2.2.2.2.2.1
abbrev St.tp (a : St) : Int → Int := a.2.2.2.2.2.2.2.1
abbrev St.ln (a : St) : Int → Int := a.2.2.2.2.2.2.2.2.1
abbrev St.sn (a : St) : Int → Int := a.2.2.2.2.2.2.2.2.2.1
abbrev St.it (a : St) : Int → Int := a.2.2.2.2.2.2.2.2.2.2
def lawsA (a : St) (N : Int) (le nu : Int → Int) : Prop := N = a.sz ∧ (0 ≤ a.sz ∧ a.sz ≤ 8) ∧ ∀ i, 0 ≤ i → i < a.sz → le i = a.len i ∧ (2 ≤ a.len i ∧ a.len i ≤ 4) ∧ ∀ y, 0 ≤ y → y < pw a.n (a.len i) → nu (i * 81 + y) = a.num (i * 81 + y) ∧ 0 ≤ a.num (i * 81 + y) ∧ a.num (i * 81 + y) < a.p
def sumA (a : St) (s : Int → Int) : Prop := (∀ j, 0 ≤ j → j < 364 → s j = a.sum j ∧ 0 ≤ a.sum j ∧ a.sum j < a.p) ∧ ∀ j, wsm a.n (Lg a.n + 1) ≤ j → j < 364 → a.sum j = 0
def tapeA (a : St) (N : Int) (t : Int → Int) : Prop := N = a.tn ∧ (0 ≤ a.tn ∧ a.tn ≤ 80) ∧ ∀ i, 0 ≤ i → i < a.tn → t i = a.tp i ∧ 32 ≤ a.tp i ∧ a.tp i ≤ 126
def sheetA (a : St) (k l s : Int) (it : Int → Int) : Prop := l = a.ln k ∧ s = a.sn k ∧ (-1 ≤ a.ln k ∧ a.ln k ≤ 2) ∧ (0 ≤ a.sn k ∧ a.sn k ≤ 90) ∧ ∀ i, 0 ≤ i → i < 90 → it i = a.it (90 * k + i) ∧ -2147483648 ≤ a.it (90 * k + i) ∧ a.it (90 * k + i) ≤ 2147483647
def MRel (a : St) (M : AbM) (m : Nat) : Prop := MoA M m a.n a.p ∧ lawsA a (M m 6) (M (m + 4)) (M (m + 5)) ∧ MRd a.n a.p M m ∧ (sumA a (M (m + 15)) ∧ ∀ j, 364 ≤ j → j < 400 → M (m + 15) j = 0) ∧ tapeA a (M m 11) (M (m + 7)) ∧ ∀ k, 0 ≤ k → k < 4 → sheetA a k (M (m + 16) k) (M (m + 17) k) (fun i => M (m + 18) (90 * k + i))
abbrev MP (m : Nat) : List Nat := [m, m + 1, m + 2, m + 3, m + 4, m + 5, m + 6, m + 7, m + 8, m + 9, m + 10, m + 11, m + 12, m + 13, m + 14, m + 15, m + 16, m + 17, m + 18]
theorem LwD_cg {n sz : Int} {len num len2 num2 : Int → Int} (h : ∀ i, 0 ≤ i → i < sz → len i = len2 i ∧ ∀ y, 0 ≤ y → y < pw n (len2 i) → num (i * 81 + y) = num2 (i * 81 + y)) (e : Int) : LwD n e sz len num = LwD n e sz len2 num2 := by
  have key : ∀ i, 0 ≤ i → i < sz → len i = e → lawR n e i num = lawR n e i num2 := fun i i0 i1 he => by
    funext y
    unfold lawR
    by_cases q : 0 ≤ y ∧ y < pw n e
    · rw [if_pos q, if_pos q]
      exact (h i i0 i1).2 y q.1 (by rw [← (h i i0 i1).1, he]; exact q.2)
    · rw [if_neg q, if_neg q]
  funext x
  unfold LwD
  refine propext ⟨fun ⟨i, i0, i1, he, hx⟩ => ⟨i, i0, i1, by rw [← (h i i0 i1).1]; exact he, by rw [← key i i0 i1 he]; exact hx⟩, fun ⟨i, i0, i1, he, hx⟩ => ?_⟩
  have he2 : len i = e := by rw [(h i i0 i1).1]; exact he
  exact ⟨i, i0, i1, he2, by rw [key i i0 i1 he2]; exact hx⟩
theorem pick_cg {n p sz : Int} {len num len2 num2 : Int → Int} (h : ∀ e, LwD n e sz len num = LwD n e sz len2 num2) : pick n p sz len num = pick n p sz len2 num2 := by
  have e : DoneG n p sz len num = DoneG n p sz len2 num2 := by
    funext L R e
    unfold DoneG
    rw [h e]
  unfold pick
  rw [e]
theorem sld_cg {n p sz : Int} {len num len2 num2 : Int → Int} (h : ∀ e, LwD n e sz len num = LwD n e sz len2 num2) : sld n p sz len num = sld n p sz len2 num2 := by
  unfold sld
  rw [pick_cg h]
theorem srh_cg {n p sz : Int} {len num len2 num2 : Int → Int} (h : ∀ e, LwD n e sz len num = LwD n e sz len2 num2) : srh n p sz len num = srh n p sz len2 num2 := by
  unfold srh
  rw [pick_cg h]
theorem sNm_cg {n p sz : Int} {len num len2 num2 : Int → Int} (h : ∀ e, LwD n e sz len num = LwD n e sz len2 num2) : sNm n p sz len num = sNm n p sz len2 num2 := by
  unfold sNm
  rw [sld_cg h]
theorem sLs_cg {n p sz : Int} {len num len2 num2 : Int → Int} (h : ∀ e, LwD n e sz len num = LwD n e sz len2 num2) : sLs n p sz len num = sLs n p sz len2 num2 := by
  unfold sLs
  rw [sld_cg h]
theorem sMid_cg {n p sz : Int} {len num len2 num2 : Int → Int} (h : ∀ e, LwD n e sz len num = LwD n e sz len2 num2) : sMid n p sz len num = sMid n p sz len2 num2 := by
  unfold sMid
  rw [sld_cg h, srh_cg h]
theorem oNum_cg {n p sz : Int} {len num len2 num2 : Int → Int} (h : ∀ e, LwD n e sz len num = LwD n e sz len2 num2) : oNum n p sz len num = oNum n p sz len2 num2 := by
  unfold oNum
  rw [sld_cg h, srh_cg h]
theorem lawsA.eq {a : St} {N : Int} {le nu : Int → Int} (h : lawsA a N le nu) : sld a.n a.p N le nu = sld a.n a.p a.sz a.len a.num ∧ srh a.n a.p N le nu = srh a.n a.p a.sz a.len a.num ∧ sNm a.n a.p N le nu = sNm a.n a.p a.sz a.len a.num ∧ sLs a.n a.p N le nu = sLs a.n a.p a.sz a.len a.num ∧ sMid a.n a.p N le nu = sMid a.n a.p a.sz a.len a.num ∧ oNum a.n a.p N le nu = oNum a.n a.p a.sz a.len a.num := by
  obtain ⟨rfl, -, h⟩ := h
  have e : ∀ e, LwD a.n e a.sz le nu = LwD a.n e a.sz a.len a.num := LwD_cg (fun i i0 i1 => ⟨(h i i0 i1).1, fun y y0 y1 => ((h i i0 i1).2.2 y y0 y1).1⟩)
  exact ⟨sld_cg e, srh_cg e, sNm_cg e, sLs_cg e, sMid_cg e, oNum_cg e⟩
theorem lawsA.m {a : St} {M : AbM} {m : Nat} (h : lawsA a (M m 6) (M (m + 4)) (M (m + 5))) : LawsM a.n a.p M m := by
  obtain ⟨e, h0, h⟩ := h
  unfold LawsM
  rw [e]
  refine ⟨h0.1, h0.2, fun i i0 i1 => ?_⟩
  have := h i i0 i1
  rw [this.1]
  exact ⟨this.2.1.1, this.2.1.2, fun y y0 y1 => by rw [(this.2.2 y y0 y1).1]; exact (this.2.2 y y0 y1).2⟩
theorem KeepM.rel {a : St} {M M2 : AbM} {m : Nat} (hK : KeepM a.n a.p M M2 m) (h : MRel a M m) : same (MP m) M M2 ∧ MRel a M2 m := by
  obtain ⟨hs, hm, hR⟩ := hK
  obtain ⟨hA, hL, -, hS, hT, hH⟩ := h
  refine ⟨same_mono hs (by intro k hk; simp only [List.mem_cons, List.not_mem_nil, or_false] at hk ⊢; omega), ?_⟩
  unfold MRel
  rw [hm 6 (by decide) (by decide), hm 11 (by decide) (by decide), hs (m + 4) (by simp), hs (m + 5) (by simp), hs (m + 15) (by simp), hs (m + 7) (by simp), hs (m + 16) (by simp), hs (m + 17) (by simp), hs (m + 18) (by simp)]
  exact ⟨hA.of (hm 0 (by decide) (by decide)) (hm 1 (by decide) (by decide)) (hm 2 (by decide) (by decide)) (hs _ (by simp)) (hs _ (by simp)) (hs _ (by simp)), hL, hR, hS, hT, hH⟩
/-- what changes of the laws leaves -/
theorem MRd.no {n p : Int} {M : AbM} {m : Nat} (h : M m 13 = 0) : MRd n p M m := fun z => absurd h z
theorem MRd.rows {n p : Int} {M M2 : AbM} {m : Nat} (h : MRd n p M m) (h6 : M2 m 6 = M m 6) (h13 : M2 m 13 = M m 13) (h14 : M2 m 14 = M m 14) (a4 : M2 (m + 4) = M (m + 4)) (a5 : M2 (m + 5) = M (m + 5)) (a8 : M2 (m + 8) = M (m + 8)) (a9 : M2 (m + 9) = M (m + 9)) (a10 : M2 (m + 10) = M (m + 10)) (a11 : M2 (m + 11) = M (m + 11)) : MRd n p M2 m := by
  unfold MRd at *
  rw [h6, h13, h14, a4, a5, a8, a9, a10, a11]
  exact h
/-- the answers -/
noncomputable def aNormal (a : St) (d : Int) : Int := if 0 ≤ d ∧ d ≤ Lg a.n then sNm a.n a.p a.sz a.len a.num d else -1
noncomputable def aLeads (a : St) (d w : Int) : Int := if 0 ≤ d ∧ d ≤ Lg a.n ∧ 0 ≤ w ∧ w < pw a.n d then sld a.n a.p a.sz a.len a.num d w else -1
noncomputable def aWd (a : St) (d i : Int) : Int := nthF (nlA (sld a.n a.p a.sz a.len a.num d)) (pw a.n d) i
noncomputable def aWord (a : St) (d i : Int) : Int := if (0 ≤ d ∧ d ≤ Lg a.n) ∧ 0 ≤ i then aWd a d i else -1
noncomputable def aPlain (a : St) (d v w : Int) : Int := if (0 ≤ d ∧ d ≤ Lg a.n ∧ 0 ≤ v ∧ v < pw a.n d) ∧ (0 ≤ d ∧ d ≤ Lg a.n ∧ 0 ≤ w ∧ w < pw a.n d) then srh a.n a.p a.sz a.len a.num d w v else -1
noncomputable def aProduct (a : St) (d i e j v : Int) : Int := if (0 ≤ d ∧ d ≤ Lg a.n) ∧ (0 ≤ e ∧ e ≤ Lg a.n) ∧ d + e ≤ Lg a.n ∧ 0 ≤ i ∧ 0 ≤ j ∧ 0 ≤ v ∧ v < pw a.n (d + e) then (if aWd a d i < 0 ∨ aWd a e j < 0 then -1 else srh a.n a.p a.sz a.len a.num (d + e) (aWd a d i * pw a.n e + aWd a e j) v) else -1
noncomputable def aMiddle (a : St) (d : Int) : Int := if 0 ≤ d ∧ d ≤ Lg a.n - 1 then sMid a.n a.p a.sz a.len a.num d else -1
def aLeast (a : St) (i what q : Int) : Prop := ((0 ≤ i ∧ 0 ≤ what ∧ what ≤ 2) → LeastR a.n (fun e => lsA a.n e (sld a.n a.p a.sz a.len a.num (e - 1)) (sld a.n a.p a.sz a.len a.num e)) (fun e x => cntF (srh a.n a.p a.sz a.len a.num e x) (x + 1)) i what q) ∧ (¬ (0 ≤ i ∧ 0 ≤ what ∧ what ≤ 2) → q = -1)
def aShort (a : St) : Prop := cntF (fun i => a.len i - 2) a.sz = 0
noncomputable def aO (a : St) (d : Int) : Int := sNm a.n a.p (sNm a.n a.p a.sz a.len a.num 2) (fun _ => 2) (oNum a.n a.p a.sz a.len a.num) d
noncomputable def aOther (a : St) (d : Int) : Int := if 0 ≤ d ∧ d ≤ Lg a.n then (if cntF (fun i => a.len i - 2) a.sz = 0 then aO a d else -2) else -1
def aFit (a : St) (q : Int) : Prop := (aShort a → FitR a.n (serF (fun d => sNm a.n a.p a.sz a.len a.num d) (aO a)) q) ∧ (¬ aShort a → q = -2)
noncomputable def aCount (a : St) (h : Int) : Int := if h = 0 then a.n else if h = 1 then a.p else if h = 2 then Lg a.n else if h = 3 then a.sz else if h = 4 then sumF (sLs a.n a.p a.sz a.len a.num) (Lg a.n + 1) else if h = 5 then cntF a.sum 364 else -1
theorem short_eq {a : St} {N : Int} {le nu : Int → Int} (h : lawsA a N le nu) : cntF (fun i => le i - 2) N = 0 ↔ aShort a := by
  obtain ⟨rfl, h0, h⟩ := h
  have : cntF (fun i => le i - 2) a.sz = cntF (fun i => a.len i - 2) a.sz := cntF_congr (fun i i0 i1 => by rw [(h i i0 i1).1])
  rw [this]
  rfl
theorem cnt_400 {f g : Int → Int} (h : ∀ j, 0 ≤ j → j < 364 → f j = g j) (h0 : ∀ j, 364 ≤ j → j < 400 → f j = 0) : cntF f 400 = cntF g 364 := by
  have e1 : cntF f 364 = cntF g 364 := cntF_congr (fun j a b => by rw [h j a b])
  have key : ∀ k : Nat, (k : Int) ≤ 36 → cntF f (364 + k) = cntF f 364 := by
    intro k
    induction k with
    | zero => intro _; rfl
    | succ k ih =>
      intro hk
      rw [show (364 : Int) + ((k + 1 : Nat) : Int) = 364 + k + 1 by omega, cntF_s (by omega), ih (by omega), if_pos (h0 _ (by omega) (by omega)), Int.add_zero]
  have := key 36 (by omega)
  rw [← e1, ← this]
  rfl
