/-! ===== answers of both sides ===== -/
theorem same_mono {ps qs : List Nat} {M M2 : AbM} (h : same ps M M2) (hk : ∀ k ∈ ps, k ∈ qs) : same qs M M2 := fun k hq => h k (fun z => hq (hk k z))
noncomputable def KeepM (n p : Int) (M M2 : AbM) (m : Nat) : Prop := same [m, m + 8, m + 9, m + 10, m + 11, m + 12, m + 13, m + 14] M M2 ∧ (∀ j, j ≠ 13 → j ≠ 14 → M2 m j = M m j) ∧ MRd n p M2 m
theorem KeepM.rf {n p : Int} {M : AbM} {m : Nat} (h : MRd n p M m) : KeepM n p M M m := ⟨same_rf _ _, fun _ _ _ => rfl, h⟩
theorem KeepM.find {n p : Int} {M M2 : AbM} {m : Nat} (h : same [m, m + 8, m + 9, m + 10, m + 11, m + 12] M M2) (h2 : ∀ j, j ≠ 13 → j ≠ 14 → M2 m j = M m j) (h3 : MRd n p M2 m) : KeepM n p M M2 m := ⟨same_mono h (by intro k hk; simp only [List.mem_cons, List.not_mem_nil, or_false] at hk ⊢; omega), h2, h3⟩
theorem MRd.keep {n p : Int} {M M2 : AbM} {m : Nat} (h : MRd n p M m) (h2 : same [m + 12, m + 13, m + 14] M M2) : MRd n p M2 m := by
  unfold MRd at *
  rw [h2 m (by simp), h2 (m + 8) (by simp), h2 (m + 9) (by simp), h2 (m + 4) (by simp), h2 (m + 5) (by simp), h2 (m + 10) (by simp), h2 (m + 11) (by simp)]
  exact h
theorem KeepM.tr {n p : Int} {M M2 M3 : AbM} {m : Nat} (h : KeepM n p M M2 m) (h2 : same [m + 12, m + 13, m + 14] M2 M3) : KeepM n p M M3 m :=
  ⟨same_tr h.1 (same_mono h2 (by intro k hk; simp only [List.mem_cons, List.not_mem_nil, or_false] at hk ⊢; omega)), fun j a b => by rw [h2 m (by simp)]; exact h.2.1 j a b, h.2.2.keep h2⟩
theorem lead1 {n p sz : Int} {len num A Z : Int → Int} (hp : 2 ≤ p) (hM : MdOK n p A Z sz len num) (hl : ∀ i, 0 ≤ i → i < sz → 2 ≤ len i) : ∀ e, 0 ≤ e → e ≤ 1 → ∀ w, 0 ≤ w → w < pw n e → ldq n e Z w = 0 := by
  have hLB := Lg_B n
  have h0 : ∀ w, 0 ≤ w → w < pw n 0 → ldq n 0 Z w = 0 := fun w w0 w1 => by
    rw [pw_0] at w1
    rw [show w = 0 by omega]
    exact (hM 0 (by omega) (by omega)).2.2.1 rfl
  intro e e0 e1
  rcases (show e = 0 ∨ e = 1 by omega) with rfl | rfl
  · exact h0
  · intro w w0 w1
    by_cases q : ldq n 1 Z w = 0
    · exact q
    · exfalso
      obtain ⟨hE, -, -, hV⟩ := hM 1 (by omega) (by omega)
      have hS : SubV p (pw n 1) (fun x => ∀ i, 0 ≤ i → i < pw n 1 → cg p (x i) 0) := ⟨fun i _ _ => cg_rf p 0, fun x y hx hy i a b => cg_tr (cg_add (hx i a b) (hy i a b)) (cg_eq (by omega)), fun c x hx i a b => cg_tr (cg_mulL c (hx i a b)) (cg_eq (Int.mul_zero c)), fun x y hx h i a b => cg_tr (cg_sy (h i a b)) (hx i a b)⟩
      have := (hV (by omega) _ hS).mpr ⟨fun c t _ _ t0 t1 hl2 => absurd (h0 t t0 t1) hl2, fun x hx => by
        obtain ⟨i, i0, i1, hi, -⟩ := hx
        have := hl i i0 i1
        omega⟩ w w0 w1 q w w0 w1
      unfold rvV at this
      rw [if_pos ⟨w0, w1⟩, ((hE w w0 w1).2 q).1] at this
      have h9 := cg_in this (by omega) (by omega) (by omega) (by omega)
      omega
theorem ls01 {n p sz : Int} {len num A Z : Int → Int} (hp : 2 ≤ p) (n1 : 1 ≤ n) (hM : MdOK n p A Z sz len num) (hl : ∀ i, 0 ≤ i → i < sz → 2 ≤ len i) : lsC n 0 Z = 0 ∧ lsC n 1 Z = 0 := by
  have h := lead1 hp hM hl
  constructor
  · exact (cntF_eq0 (by have := pw_pos (d := 0) n1; omega)).mpr (fun i a b => if_neg (fun z => absurd z.1 (by decide)))
  · exact (cntF_eq0 (by have := pw_pos (d := 1) n1; omega)).mpr (fun i a b => if_neg (fun z => z.2.1 (h 1 (by omega) (by omega) i a b)))
theorem mod_ls {n p sz : Int} {len num A Z : Int → Int} (hp : 2 ≤ p) (n1 : 1 ≤ n) {d : Int} (d0 : 0 ≤ d) (h : ∀ e, 0 ≤ e → e ≤ d → DoneM n p e A Z (LwD n e sz len num)) {w : Int} (w0 : 0 ≤ w) (w1 : w < pw n d) : lsF n d Z w = lsA n d (sld n p sz len num (d - 1)) (sld n p sz len num d) w := by
  have h1 := mod_same hp n1 d0 h
  unfold lsF lsA
  rw [(h1 w w0 w1).1]
  by_cases q : 0 < d
  · have h' := mod_same (d := d - 1) hp n1 (by omega) (fun e a b => h e a (by omega))
    obtain ⟨t0, t1, -⟩ := tail_B (d := d) n1 (by omega) w0 w1
    obtain ⟨u0, u1, -⟩ := head_B (d := d) n1 (by omega) w0 w1
    rw [(h' _ t0 t1).1, (h' _ u0 u1).1]
  · rw [if_neg (fun z => q z.1), if_neg (fun z => q z.1)]
theorem mod_nl {n p sz : Int} {len num A Z : Int → Int} (hp : 2 ≤ p) (n1 : 1 ≤ n) {d : Int} (d0 : 0 ≤ d) (h : ∀ e, 0 ≤ e → e ≤ d → DoneM n p e A Z (LwD n e sz len num)) (w : Int) (w0 : 0 ≤ w) (w1 : w < pw n d) : nlF n d Z w = nlA (sld n p sz len num d) w := by
  unfold nlF nlA
  rw [(mod_same hp n1 d0 h w w0 w1).1]
/-- the i-th least law -/
def LeastR (n : Int) (LS : Int → Int → Int) (T : Int → Int → Int) (i what r : Int) : Prop := (∃ d w, 0 ≤ d ∧ d ≤ Lg n ∧ 0 ≤ w ∧ w < pw n d ∧ LS d w ≠ 0 ∧ sumF (fun e => cntF (LS e) (pw n e)) d + cntF (LS d) w = i ∧ r = (if what = 0 then d else if what = 1 then w else 1 + T d w)) ∨ (sumF (fun e => cntF (LS e) (pw n e)) (Lg n + 1) ≤ i ∧ r = -1)
theorem sum_mono {f : Int → Int} (hf : ∀ i, 0 ≤ i → 0 ≤ f i) {a b : Int} (a0 : 0 ≤ a) (h : a ≤ b) : sumF f a ≤ sumF f b := by
  have key : ∀ k : Nat, sumF f a ≤ sumF f (a + k) := by
    intro k
    induction k with
    | zero => rw [show a + ((0 : Nat) : Int) = a by omega]; exact Int.le_refl _
    | succ k ih =>
      rw [show a + ((k + 1 : Nat) : Int) = a + k + 1 by omega, sumF_s (by omega)]
      have := hf (a + k) (by omega)
      omega
  have := key (b - a).toNat
  rw [show a + (((b - a).toNat : Nat) : Int) = b by omega] at this
  exact this
theorem least_lt {n : Int} {LS : Int → Int → Int} (n1 : 1 ≤ n) {d w d2 : Int} (d0 : 0 ≤ d) (w0 : 0 ≤ w) (w1 : w < pw n d) (h : LS d w ≠ 0) (hd : d < d2) : sumF (fun e => cntF (LS e) (pw n e)) d + cntF (LS d) w < sumF (fun e => cntF (LS e) (pw n e)) d2 := by
  have h1 := sum_mono (f := fun e => cntF (LS e) (pw n e)) (fun i _ => (cntF_B (by have := pw_pos (d := i) n1; omega)).1) (a := d + 1) (b := d2) (by omega) (by omega)
  rw [sumF_s d0] at h1
  have h2 := cnt_mono (f := LS d) (a := w + 1) (b := pw n d) (by omega) (by omega)
  rw [cntF_s w0, if_neg h] at h2
  omega
theorem LeastR_un {n : Int} {LS T : Int → Int → Int} {i what r r2 : Int} (n1 : 1 ≤ n) (h : LeastR n LS T i what r) (h2 : LeastR n LS T i what r2) : r = r2 := by
  have hc : ∀ e w, 0 ≤ w → 0 ≤ cntF (LS e) w := fun e w a => (cntF_B a).1
  rcases h with ⟨d, w, d0, d1, w0, w1, hl, hi, hr⟩ | ⟨ha, hr⟩
  · rcases h2 with ⟨e, v, e0, e1, v0, v1, hm, hj, hs⟩ | ⟨ha, hs⟩
    · rcases (show d < e ∨ e < d ∨ d = e by omega) with q | q | q
      · have := least_lt n1 d0 w0 w1 hl q
        have := hc e v v0
        omega
      · have := least_lt n1 e0 v0 v1 hm q
        have := hc d w w0
        omega
      · subst q
        rcases (show w < v ∨ v < w ∨ w = v by omega) with q | q | q
        · have h2 := cnt_mono (f := LS d) (a := w + 1) (b := v) (by omega) (by omega)
          rw [cntF_s w0, if_neg hl] at h2
          omega
        · have h2 := cnt_mono (f := LS d) (a := v + 1) (b := w) (by omega) (by omega)
          rw [cntF_s v0, if_neg hm] at h2
          omega
        · subst q; rw [hr, hs]
    · have := least_lt (LS := LS) (d2 := Lg n + 1) n1 d0 w0 w1 hl (by omega)
      omega
  · rcases h2 with ⟨e, v, e0, e1, v0, v1, hm, hj, hs⟩ | ⟨hb, hs⟩
    · have := least_lt (LS := LS) (d2 := Lg n + 1) n1 e0 v0 v1 hm (by omega)
      omega
    · rw [hr, hs]
/-- the first length where the series do not fit -/
def serF (N O : Int → Int) (d : Int) : Int := sumF (fun i => if i % 2 = 0 then N (d - i) * O i else -(N (d - i) * O i)) (d + 1)
def FitR (n : Int) (F : Int → Int) (r : Int) : Prop := (1 ≤ r ∧ r ≤ Lg n ∧ F r ≠ 0 ∧ ∀ e, 1 ≤ e → e < r → F e = 0) ∨ (r = -4 ∧ ∀ e, 1 ≤ e → e ≤ Lg n → F e = 0)
theorem FitR_un {n : Int} {F : Int → Int} {r r2 : Int} (h : FitR n F r) (h2 : FitR n F r2) : r = r2 := by
  rcases h with ⟨a, b, c, d⟩ | ⟨a, b⟩
  · rcases h2 with ⟨e, f, g, k⟩ | ⟨e, f⟩
    · rcases (show r < r2 ∨ r2 < r ∨ r = r2 by omega) with q | q | q
      · exact absurd (k r a q) c
      · exact absurd (d r2 e q) g
      · exact q
    · exact absurd (f r a b) c
  · rcases h2 with ⟨e, f, g, k⟩ | ⟨e, f⟩
    · exact absurd (b r2 e f) g
    · omega
/-- a leading row's terms -/
theorem terms_row {n p d w : Int} {A Z : Int → Int} (hp : 2 ≤ p) (hE : EchOK n p d A Z) (w0 : 0 ≤ w) (w1 : w < pw n d) (h : ldq n d Z w ≠ 0) : cntF (fun x => A (sqm n d + w * pw n d + x)) (pw n d) = 1 + cntF (RM n p d A Z w) (w + 1) := by
  have hw := (hE w w0 w1).2 h
  have key : ∀ k : Nat, (k : Int) ≤ pw n d → cntF (fun x => A (sqm n d + w * pw n d + x)) k = cntF (RM n p d A Z w) (if (k : Int) ≤ w + 1 then k else w + 1) + (if (k : Int) ≤ w then 0 else 1) := by
    intro k
    induction k with
    | zero =>
      intro _
      rw [if_pos (by omega), if_pos (by omega)]
      rfl
    | succ k ih =>
      intro hk
      have ih := ih (by omega)
      have hr := hw.2 k (by omega) (by omega)
      rw [show ((k + 1 : Nat) : Int) = (k : Int) + 1 by omega, cntF_s (by omega), ih]
      have e9 : A (sqm n d + w * pw n d + k) = rwq n d A w k := rfl
      rw [e9]
      rcases (show (k : Int) < w ∨ (k : Int) = w ∨ w < (k : Int) by omega) with q | q | q
      · rw [if_pos (by omega), if_pos (by omega), if_pos (show (k : Int) + 1 ≤ w + 1 by omega), if_pos (show (k : Int) + 1 ≤ w by omega), cntF_s (by omega), RM_1 h, if_pos (show (0 : Int) ≤ k ∧ (k : Int) < w by omega)]
        by_cases z : rwq n d A w k = 0
        · rw [if_pos z, z, Int.sub_zero, Int.emod_self, if_pos rfl]
        · rw [if_neg z, if_neg (show ¬ ((p - rwq n d A w k) % p = 0) by rw [Int.emod_eq_of_lt (by omega) (by omega)]; omega)]
          omega
      · rw [if_pos (by omega), if_pos (by omega), if_pos (show (k : Int) + 1 ≤ w + 1 by omega), if_neg (show ¬ ((k : Int) + 1 ≤ w) by omega), cntF_s (by omega), RM_1 h, if_neg (show ¬ ((0 : Int) ≤ k ∧ (k : Int) < w) by omega), q, hw.1, if_neg (by decide), if_pos rfl]
      · rw [if_neg (show ¬ ((k : Int) + 1 ≤ w + 1) by omega), if_neg (show ¬ ((k : Int) + 1 ≤ w) by omega), hr.2.2 q, if_pos rfl]
        rcases (show (k : Int) ≤ w + 1 ∨ ¬ ((k : Int) ≤ w + 1) by omega) with y | y
        · rw [if_pos y, if_neg (by omega), show (k : Int) = w + 1 by omega]; omega
        · rw [if_neg y, if_neg (by omega)]; omega
  have := key (pw n d).toNat (by omega)
  rw [show (((pw n d).toNat : Nat) : Int) = pw n d by omega] at this
  rw [this, if_neg (show ¬ (pw n d ≤ w) by omega)]
  rcases (show pw n d ≤ w + 1 ∨ ¬ (pw n d ≤ w + 1) by omega) with y | y
  · rw [if_pos y, show pw n d = w + 1 by omega]; omega
  · rw [if_neg y]; omega
