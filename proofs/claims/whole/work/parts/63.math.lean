theorem lawsA.add {a : St} {N d : Int} {le nu le2 nu2 v : Int → Int} (h : lawsA a N le nu) (n1 : 1 ≤ a.n) (n2 : a.n ≤ 3) (d2 : 2 ≤ d) (d4 : d ≤ 4) (hsz : a.sz < 8) (hv : ∀ w, 0 ≤ w → w < pw a.n d → 0 ≤ v (wsm a.n d + w) ∧ v (wsm a.n d + w) < a.p) (h1 : ∀ i, 0 ≤ i → i < a.sz → le2 i = le i) (h2 : le2 a.sz = d) (h3 : ∀ k, 0 ≤ k → k < a.sz * 81 → nu2 k = nu k) (h4 : ∀ w, 0 ≤ w → w < pw a.n d → nu2 (a.sz * 81 + w) = v (wsm a.n d + w)) : lawsA (a.add d v) (a.sz + 1) le2 nu2 := by
  obtain ⟨e, ⟨s0, s1⟩, hl⟩ := h
  refine ⟨rfl, ⟨by show 0 ≤ a.sz + 1; omega, by show a.sz + 1 ≤ 8; omega⟩, fun i i0 i1 => ?_⟩
  have i1 : i < a.sz + 1 := i1
  show le2 i = (if i = a.sz then d else a.len i) ∧ (2 ≤ (if i = a.sz then d else a.len i) ∧ (if i = a.sz then d else a.len i) ≤ 4) ∧ ∀ y, 0 ≤ y → y < pw a.n (if i = a.sz then d else a.len i) → nu2 (i * 81 + y) = (if a.sz * 81 ≤ i * 81 + y then v (wsm a.n d + (i * 81 + y - a.sz * 81)) else a.num (i * 81 + y)) ∧ 0 ≤ (if a.sz * 81 ≤ i * 81 + y then v (wsm a.n d + (i * 81 + y - a.sz * 81)) else a.num (i * 81 + y)) ∧ (if a.sz * 81 ≤ i * 81 + y then v (wsm a.n d + (i * 81 + y - a.sz * 81)) else a.num (i * 81 + y)) < a.p
  by_cases q : i = a.sz
  · rw [if_pos q]
    refine ⟨by rw [q]; exact h2, ⟨d2, d4⟩, fun y y0 y1 => ?_⟩
    rw [q, if_pos (by omega), show a.sz * 81 + y - a.sz * 81 = y by omega]
    exact ⟨h4 y y0 y1, hv y y0 y1⟩
  · rw [if_neg q]
    have hi := hl i i0 (by omega)
    refine ⟨by rw [h1 i i0 (by omega)]; exact hi.1, hi.2.1, fun y y0 y1 => ?_⟩
    have := law_len n1 n2 hi.2.1.1 hi.2.1.2
    rw [if_neg (by omega), h3 _ (by omega) (by omega)]
    exact hi.2.2 y y0 y1
theorem lawsA.rem {a : St} {N : Int} {le nu : Int → Int} (h : lawsA a N le nu) (h0 : a.sz ≠ 0) : lawsA a.rem (a.sz - 1) le nu := by
  obtain ⟨e, ⟨s0, s1⟩, hl⟩ := h
  exact ⟨rfl, ⟨by show 0 ≤ a.sz - 1; omega, by show a.sz - 1 ≤ 8; omega⟩, fun i i0 i1 => hl i i0 (by have i1 : i < a.sz - 1 := i1; omega)⟩
/-! whether the terms are of one length -/
def Cp (n : Int) (v : Int → Int) (d w e : Int) : Int := if e < d then cntF (fun z => v (wsm n e + z)) (pw n e) else if e = d then cntF (fun z => v (wsm n d + z)) w else 0
def OnI (n : Int) (v : Int → Int) (d w x y : Int) : Prop := (x = -1 ∧ y = 1 ∧ ∀ e, 0 ≤ e → e ≤ d → Cp n v d w e = 0) ∨ (y = 1 ∧ 0 ≤ x ∧ x ≤ d ∧ ∀ e, 0 ≤ e → e ≤ d → (Cp n v d w e ≠ 0 ↔ e = x)) ∨ (y = 0 ∧ 0 ≤ x ∧ x ≤ d ∧ ∃ e1 e2, 0 ≤ e1 ∧ e1 < e2 ∧ e2 ≤ d ∧ Cp n v d w e1 ≠ 0 ∧ Cp n v d w e2 ≠ 0)
theorem OnI_0 {n : Int} {v : Int → Int} : OnI n v 0 0 (-1) 1 := Or.inl ⟨rfl, rfl, fun e e0 e1 => by
  unfold Cp
  rw [if_neg (by omega), if_pos (by omega), cntF_0]⟩
theorem OnI_z {n d w x y : Int} {v : Int → Int} (w0 : 0 ≤ w) (h : OnI n v d w x y) (hz : v (wsm n d + w) = 0) : OnI n v d (w + 1) x y := by
  have e : ∀ e, Cp n v d (w + 1) e = Cp n v d w e := fun e => by
    unfold Cp
    rw [cntF_s w0, if_pos hz, Int.add_zero]
  unfold OnI at *
  simp only [e]
  exact h
theorem OnI_s {n d w x y y2 : Int} {v : Int → Int} (d0 : 0 ≤ d) (w0 : 0 ≤ w) (h : OnI n v d w x y) (hz : v (wsm n d + w) ≠ 0) (hy : (y ≠ 0 ∧ (x < 0 ∨ x = d) ∧ y2 = 1) ∨ (¬ (y ≠ 0 ∧ (x < 0 ∨ x = d)) ∧ y2 = 0)) : OnI n v d (w + 1) d y2 := by
  have c0 := (cntF_B (f := fun z => v (wsm n d + z)) w0).1
  have ed : Cp n v d (w + 1) d ≠ 0 := by
    unfold Cp
    rw [if_neg (by omega), if_pos rfl, cntF_s w0, if_neg hz]
    omega
  have eo : ∀ e, e ≠ d → Cp n v d (w + 1) e = Cp n v d w e := fun e he => by
    unfold Cp
    rw [if_neg he, if_neg he]
  rcases h with ⟨hx, hy1, h⟩ | ⟨hy1, x0, x1, h⟩ | ⟨hy1, x0, x1, e1, e2, a0, a1, a2, h1, h2⟩
  · have hy2 : y2 = 1 := by omega
    refine Or.inr (Or.inl ⟨hy2, d0, Int.le_refl _, fun e e0 e1 => ⟨fun z => ?_, fun z => by rw [z]; exact ed⟩⟩)
    by_cases q : e = d
    · exact q
    · rw [eo e q, h e e0 e1] at z; exact absurd rfl z
  · by_cases q : x = d
    · have hy2 : y2 = 1 := by omega
      refine Or.inr (Or.inl ⟨hy2, d0, Int.le_refl _, fun e e0 e1 => ⟨fun z => ?_, fun z => by rw [z]; exact ed⟩⟩)
      by_cases q2 : e = d
      · exact q2
      · rw [eo e q2] at z
        rw [← q]
        exact (h e e0 e1).mp z
    · have hy2 : y2 = 0 := by omega
      exact Or.inr (Or.inr ⟨hy2, d0, Int.le_refl _, x, d, x0, by omega, Int.le_refl _, by rw [eo x q]; exact (h x x0 x1).mpr rfl, ed⟩)
  · have hy2 : y2 = 0 := by omega
    refine Or.inr (Or.inr ⟨hy2, d0, Int.le_refl _, e1, e2, a0, a1, a2, by rw [eo e1 (by omega)]; exact h1, ?_⟩)
    by_cases q : e2 = d
    · rw [q]; exact ed
    · rw [eo e2 q]; exact h2
theorem OnI_d {n d x y : Int} {v : Int → Int} (h : OnI n v d (pw n d) x y) : OnI n v (d + 1) 0 x y := by
  have eo : ∀ e, e ≤ d → Cp n v (d + 1) 0 e = Cp n v d (pw n d) e := fun e he => by
    unfold Cp
    rw [if_pos (by omega)]
    by_cases q : e < d
    · rw [if_pos q]
    · rw [if_neg q, if_pos (by omega), show e = d by omega]
  have e0 : Cp n v (d + 1) 0 (d + 1) = 0 := by
    unfold Cp
    rw [if_neg (by omega), if_pos rfl, cntF_0]
  rcases h with ⟨hx, hy1, h⟩ | ⟨hy1, x0, x1, h⟩ | ⟨hy1, x0, x1, e1, e2, a0, a1, a2, h1, h2⟩
  · refine Or.inl ⟨hx, hy1, fun e e0' e1 => ?_⟩
    rcases (show e ≤ d ∨ e = d + 1 by omega) with q | q
    · rw [eo e q]; exact h e e0' q
    · rw [q]; exact e0
  · refine Or.inr (Or.inl ⟨hy1, x0, by omega, fun e e0' e1 => ?_⟩)
    rcases (show e ≤ d ∨ e = d + 1 by omega) with q | q
    · rw [eo e q]; exact h e e0' q
    · rw [q]
      exact ⟨fun z => absurd e0 z, fun z => by omega⟩
  · exact Or.inr (Or.inr ⟨hy1, x0, by omega, e1, e2, a0, a1, by omega, by rw [eo e1 (by omega)]; exact h1, by rw [eo e2 a2]; exact h2⟩)
theorem OnlyD_un {n d d2 : Int} {v : Int → Int} (h : OnlyD n v d) (h2 : OnlyD n v d2) (d0 : 0 ≤ d) (d1 : d ≤ Lg n) : d = d2 := (h2 d d0 d1).mp ((h d d0 d1).mpr rfl)
theorem OnI_end {n x y : Int} {v : Int → Int} (h : OnI n v (Lg n + 1) 0 x y) : (y = 1 ∧ 0 ≤ x ∧ OnlyD n v x) ∨ ((y = 0 ∨ x = -1) ∧ ∀ d, 0 ≤ d → d ≤ Lg n → ¬ OnlyD n v d) := by
  have eo : ∀ e, e ≤ Lg n → Cp n v (Lg n + 1) 0 e = cntF (fun z => v (wsm n e + z)) (pw n e) := fun e he => by
    unfold Cp
    rw [if_pos (by omega)]
  have e0 : Cp n v (Lg n + 1) 0 (Lg n + 1) = 0 := by
    unfold Cp
    rw [if_neg (by omega), if_pos rfl, cntF_0]
  rcases h with ⟨hx, hy1, h⟩ | ⟨hy1, x0, x1, h⟩ | ⟨hy1, x0, x1, e1, e2, a0, a1, a2, h1, h2⟩
  · refine Or.inr ⟨Or.inr hx, fun d d0 d1 z => ?_⟩
    have := h d d0 (by omega)
    rw [eo d d1] at this
    exact (z d d0 d1).mpr rfl this
  · refine Or.inl ⟨hy1, x0, fun e e0' e1 => ?_⟩
    rw [← eo e e1]
    exact h e e0' (by omega)
  · refine Or.inr ⟨Or.inl hy1, fun d d0 d1 z => ?_⟩
    have z2 : e2 ≠ Lg n + 1 := fun q => by rw [q] at h2; exact h2 e0
    rw [eo e1 (by omega)] at h1
    rw [eo e2 (by omega)] at h2
    have := (z e1 a0 (by omega)).mp h1
    have := (z e2 (by omega) (by omega)).mp h2
    omega
theorem OnlyD_cg {n d : Int} {v v2 : Int → Int} (n1 : 1 ≤ n) (n2 : n ≤ 3) (h : ∀ j, 0 ≤ j → j < 364 → v j = v2 j) (h2 : OnlyD n v d) : OnlyD n v2 d := fun e e0 e1 => by
  have hB := sz_B n1 n2 e0 e1
  have : cntF (fun w => v2 (wsm n e + w)) (pw n e) = cntF (fun w => v (wsm n e + w)) (pw n e) := cntF_congr (fun w a b => by rw [h _ (by omega) (by omega)])
  rw [this]
  exact h2 e e0 e1
theorem OnlyD_rng {n d : Int} {v : Int → Int} : OnlyD n v d → True := fun _ => trivial
theorem cl_row {n p : Int} {s : RS} {v : Vc} (n1 : 1 ≤ n) (n2 : n ≤ 3) (hok : okR n s) (h : ∀ j, wsm n (Lg n + 1) ≤ j → j < 364 → v j = 0) : ∀ j, wsm n (Lg n + 1) ≤ j → j < 364 → closeV n p s v j = 0 := fun j a b => by
  unfold closeV
  obtain ⟨-, -, -, ⟨d0, d1⟩, w0, w1⟩ := hok
  have key : ∀ k : Nat, s.2.2.2.2.1 + 1 + k ≤ Lg n + 1 → wsm n (s.2.2.2.2.1 + 1) ≤ wsm n (s.2.2.2.2.1 + 1 + k) := by
    intro k
    induction k with
    | zero => intro _; rw [show s.2.2.2.2.1 + 1 + ((0 : Nat) : Int) = s.2.2.2.2.1 + 1 by omega]; exact Int.le_refl _
    | succ k ih =>
      intro hk
      have hB := pw_pos (d := s.2.2.2.2.1 + 1 + k) n1
      rw [show s.2.2.2.2.1 + 1 + ((k + 1 : Nat) : Int) = s.2.2.2.2.1 + 1 + k + 1 by omega, wsm_s (d := s.2.2.2.2.1 + 1 + k) (by omega)]
      have := ih (by omega)
      omega
  have hk := key (Lg n - s.2.2.2.2.1).toNat (by omega)
  rw [show s.2.2.2.2.1 + 1 + (((Lg n - s.2.2.2.2.1).toNat : Nat) : Int) = Lg n + 1 by omega, wsm_s d0] at hk
  rw [if_neg (by omega)]
  exact h j a b
theorem run_row {n p np : Int} {T : Int → Int} (n1 : 1 ≤ n) (n2 : n ≤ 3) (k : Nat) : (∀ j, wsm n (Lg n + 1) ≤ j → j < 364 → (runR n p T np k).2.2 j = 0) ∧ ((runR n p T np k).1 = -1 → okR n (runR n p T np k).2.1 ∧ ((runR n p T np k).2.1.1 = 2 → 0 ≤ (runR n p T np k).2.1.2.2.2.1)) := by
  have hLB := Lg_B n
  induction k with
  | zero => exact ⟨fun j _ _ => rfl, fun _ => ⟨⟨⟨by show (0 : Int) ≤ 0; decide, by show (0 : Int) ≤ 4; decide⟩, Or.inl rfl, ⟨by show (0 : Int) ≤ 1; decide, by show (1 : Int) ≤ 999; decide⟩, ⟨by show (0 : Int) ≤ 0; decide, by show 0 ≤ Lg n; omega⟩, by show (0 : Int) ≤ 0; decide, by show (0 : Int) < pw n 0; rw [pw_0]; decide⟩, fun z => absurd (show (0 : Int) = 2 from z) (by decide)⟩⟩
  | succ k ih =>
    have ea : runR n p T np (k + 1) = if (runR n p T np k).1 = -1 then rByte n p (runR n p T np k).2.1 (runR n p T np k).2.2 (T (k : Int)) (k : Int) else runR n p T np k := rfl
    rw [ea]
    by_cases z : (runR n p T np k).1 = -1
    · rw [if_pos z]
      obtain ⟨hok, hnp⟩ := ih.2 z
      refine ⟨?_, fun hf => okR_byte n1 hok (by omega) hnp hf⟩
      unfold rByte
      by_cases c1 : T (k : Int) = 32
      · rw [if_pos c1]; exact ih.1
      · rw [if_neg c1]
        by_cases c2 : 48 ≤ T (k : Int) ∧ T (k : Int) ≤ 57
        · rw [if_pos c2]
          unfold rDigit
          by_cases c3 : (runR n p T np k).2.1.1 = 0 ∨ (runR n p T np k).2.1.1 = 1
          · rw [if_pos c3]; exact ih.1
          · rw [if_neg c3]
            by_cases c4 : (runR n p T np k).2.1.1 ≠ 2
            · rw [if_pos c4]; exact ih.1
            · rw [if_neg c4]; exact ih.1
        · rw [if_neg c2]
          by_cases c3 : T (k : Int) = 43 ∨ T (k : Int) = 45
          · rw [if_pos c3]
            unfold rSign
            by_cases c4 : (runR n p T np k).2.1.1 = 1 ∨ ((runR n p T np k).2.1.1 = 0 ∧ (if T (k : Int) = 45 then (-1 : Int) else 1) > 0)
            · rw [if_pos c4]; exact ih.1
            · rw [if_neg c4]
              dsimp only
              by_cases c5 : (runR n p T np k).2.1.1 = 0
              · rw [if_pos c5]; exact ih.1
              · rw [if_neg c5]; exact cl_row n1 n2 hok ih.1
          · rw [if_neg c3]
            unfold rLetter
            by_cases c4 : 0 ≤ T (k : Int) - 97 ∧ T (k : Int) - 97 < n ∧ (runR n p T np k).2.1.2.2.2.2.1 < Lg n
            · rw [if_pos c4]; exact ih.1
            · rw [if_neg c4]; exact ih.1
    · rw [if_neg z]; exact ih
theorem end_row {n p np N : Int} {T : Int → Int} (n1 : 1 ≤ n) (n2 : n ≤ 3) (k : Nat) : ∀ j, wsm n (Lg n + 1) ≤ j → j < 364 → (endR n p N (runR n p T np k)).2 j = 0 := by
  obtain ⟨h1, h2⟩ := run_row (n := n) (p := p) (np := np) (T := T) n1 n2 k
  unfold endR
  by_cases z : (runR n p T np k).1 ≠ -1
  · rw [if_pos z]; exact h1
  · rw [if_neg z]
    by_cases y : (runR n p T np k).2.1.1 = 0 ∨ (runR n p T np k).2.1.1 = 1
    · rw [if_pos y]; exact h1
    · rw [if_neg y]; exact cl_row n1 n2 (h2 (by omega)).1 h1
