/-! ===== elimination: what it hangs on ===== -/
/-- two states of an elimination that are the same as far as they are looked at -/
def eqES (m : Int) (s t : ES) : Prop := (∀ i, 0 ≤ i → i < m → s.2.1 i = t.2.1 i) ∧ s.2.2 = t.2.2 ∧ ∀ i j, 0 ≤ i → i ≤ j → j < m → s.2.1 i ≠ 0 → s.1 (i * 81 + j) = t.1 (i * 81 + j)
theorem eqES_rf (m : Int) (s : ES) : eqES m s s := ⟨fun _ _ _ => rfl, rfl, fun _ _ _ _ _ _ => rfl⟩
theorem eqES_sy {m : Int} {s t : ES} (h : eqES m s t) : eqES m t s := ⟨fun i a b => (h.1 i a b).symm, h.2.1.symm, fun i j a b c d => (h.2.2 i j a b c (by rw [h.1 i a (by omega)]; exact d)).symm⟩
theorem eqES_tr {m : Int} {s t u : ES} (h : eqES m s t) (h2 : eqES m t u) : eqES m s u := ⟨fun i a b => (h.1 i a b).trans (h2.1 i a b), h.2.1.trans h2.2.1, fun i j a b c d => (h.2.2 i j a b c d).trans (h2.2.2 i j a b c (by rw [← h.1 i a (by omega)]; exact d))⟩
theorem elim_eq {p m : Int} {s t : ES} (h : eqES m s t) : ∀ (k : Nat) (i : Int) (q r : Int → Int), 0 ≤ i → i + k = m → (∀ j, 0 ≤ j → j < m → q j = r j) → (elim p m s.1 s.2.1 k i q = none ∧ elim p m t.1 t.2.1 k i r = none) ∨ ∃ a q2 r2, elim p m s.1 s.2.1 k i q = some (a, q2) ∧ elim p m t.1 t.2.1 k i r = some (a, r2) ∧ i ≤ a ∧ a < m ∧ s.2.1 a = 0 ∧ ∀ j, 0 ≤ j → j < m → q2 j = r2 j
  | 0, i, q, r => fun _ _ _ => Or.inl ⟨rfl, rfl⟩
  | k + 1, i, q, r => fun i0 hk hqr => by
    rw [elim_s, elim_s, ← hqr i i0 (by omega), ← h.1 i i0 (by omega)]
    by_cases q1 : q i = 0
    · rw [if_pos q1, if_pos q1]
      rcases elim_eq h k (i + 1) q r (by omega) (by omega) hqr with a | ⟨a, q2, r2, a1, a2, a3, a4⟩
      · exact Or.inl a
      · exact Or.inr ⟨a, q2, r2, a1, a2, by omega, a4⟩
    · rw [if_neg q1, if_neg q1]
      by_cases q2 : s.2.1 i = 0
      · rw [if_pos q2, if_pos q2]
        exact Or.inr ⟨i, q, r, rfl, rfl, by omega, by omega, q2, hqr⟩
      · rw [if_neg q2, if_neg q2]
        have hs : ∀ j, 0 ≤ j → j < m → subE p m i s.1 q j = subE p m i t.1 r j := fun j j0 j1 => by
          unfold subE
          by_cases z : i ≤ j ∧ j < m
          · rw [if_pos z, if_pos z, hqr j j0 j1, hqr i i0 (by omega), h.2.2 i j i0 z.1 z.2 q2]
          · rw [if_neg z, if_neg z, hqr j j0 j1]
        rcases elim_eq h k (i + 1) _ _ (by omega) (by omega) hs with a | ⟨a, q2', r2, a1, a2, a3, a4⟩
        · exact Or.inl a
        · exact Or.inr ⟨a, q2', r2, a1, a2, by omega, a4⟩
theorem stepE_eq {p m : Int} {s t : ES} {q r : Int → Int} (m0 : 0 ≤ m) (m1 : m ≤ 81) (h : eqES m s t) (hqr : ∀ j, 0 ≤ j → j < m → q j = r j) : eqES m (stepE p m s q) (stepE p m t r) := by
  unfold stepE
  rcases elim_eq (p := p) h m.toNat 0 q r (by omega) (by omega) hqr with ⟨a, b⟩ | ⟨a, q2, r2, a1, a2, a3, a4, a5, a6⟩
  · rw [a, b]; exact h
  · rw [a1, a2]
    refine ⟨fun i i0 i1 => ?_, ?_, fun i j i0 ij j1 hz => ?_⟩
    · show (if i = a then 1 else s.2.1 i) = (if i = a then 1 else t.2.1 i)
      rw [h.1 i i0 i1]
    · show s.2.2 + 1 = t.2.2 + 1
      rw [h.2.1]
    · show keepE p m a s.1 q2 (i * 81 + j) = keepE p m a t.1 r2 (i * 81 + j)
      unfold keepE
      by_cases z : a * 81 + a ≤ i * 81 + j ∧ i * 81 + j < a * 81 + m
      · have e : i = a := by omega
        subst e
        rw [if_pos z, if_pos z, show i * 81 + j - i * 81 = j by omega, a6 j (by omega) j1, a6 i i0 (by omega)]
      · rw [if_neg z, if_neg z]
        have hz2 : (if i = a then 1 else s.2.1 i) ≠ 0 := hz
        by_cases y : i = a
        · exfalso; subst y; omega
        · rw [if_neg y] at hz2
          exact h.2.2 i j i0 ij j1 hz2
/-- the same equation, said otherwise -/
theorem stepE_q {p m : Int} {s : ES} {q r : Int → Int} (m0 : 0 ≤ m) (hqr : ∀ j, 0 ≤ j → j < m → q j = r j) : stepE p m s q = stepE p m s r := by
  unfold stepE
  rcases elim_eq (p := p) (eqES_rf m s) m.toNat 0 q r (by omega) (by omega) hqr with ⟨a, b⟩ | ⟨a, q2, r2, a1, a2, a3, a4, a5, a6⟩
  · rw [a, b]
  · rw [a1, a2]
    have : keepE p m a s.1 q2 = keepE p m a s.1 r2 := by
      funext x
      unfold keepE
      by_cases z : a * 81 + a ≤ x ∧ x < a * 81 + m
      · rw [if_pos z, if_pos z, a6 _ (by omega) (by omega), a6 a (by omega) a4]
      · rw [if_neg z, if_neg z]
    show (keepE p m a s.1 q2, (fun j => if j = a then 1 else s.2.1 j), s.2.2 + 1) = (keepE p m a s.1 r2, (fun j => if j = a then 1 else s.2.1 j), s.2.2 + 1)
    rw [this]
theorem cnt_up {T : Int → Int} {m a : Int} (a0 : 0 ≤ a) (a1 : a < m) (h : T a = 0) : cntF (fun j => if j = a then 1 else T j) m = cntF T m + 1 := by
  have key : ∀ k : Nat, cntF (fun j => if j = a then 1 else T j) (k : Int) = cntF T k + (if a < k then 1 else 0) := by
    intro k
    induction k with
    | zero => rw [if_neg (by omega)]; rfl
    | succ k ih =>
      rw [show ((k + 1 : Nat) : Int) = (k : Int) + 1 from rfl, cntF_s (by omega), cntF_s (by omega), ih]
      rcases (show (k : Int) < a ∨ (k : Int) = a ∨ a < k by omega) with q | q | q
      · rw [if_neg (show ¬ a < (k : Int) by omega), if_neg (show ¬ a < (k : Int) + 1 by omega), if_neg (show ¬ (k : Int) = a by omega)]; omega
      · rw [if_neg (show ¬ a < (k : Int) by omega), if_pos (show a < (k : Int) + 1 by omega), if_pos q, q, h]; simp
      · rw [if_pos q, if_pos (show a < (k : Int) + 1 by omega), if_neg (show ¬ (k : Int) = a by omega)]; omega
  have := key m.toNat
  rw [show ((m.toNat : Nat) : Int) = m by omega, if_pos a1] at this
  exact this
/-- how many rows are kept is the rank -/
def rkOK (m : Int) (s : ES) : Prop := cntF s.2.1 m = s.2.2
theorem rk_step {p m : Int} {s : ES} {q : Int → Int} (m0 : 0 ≤ m) (h : rkOK m s) : rkOK m (stepE p m s q) := by
  unfold stepE
  rcases elim_eq (p := p) (eqES_rf m s) m.toNat 0 q q (by omega) (by omega) (fun _ _ _ => rfl) with ⟨a, b⟩ | ⟨a, q2, r2, a1, a2, a3, a4, a5, a6⟩
  · rw [a]; exact h
  · rw [a1]
    show cntF (fun j => if j = a then 1 else s.2.1 j) m = s.2.2 + 1
    rw [cnt_up a3 a4 a5]
    rw [h]
theorem rk_full {p m : Int} {s : ES} {q : Int → Int} (m0 : 0 ≤ m) (h : rkOK m s) (hf : m ≤ s.2.2) : stepE p m s q = s := by
  unfold stepE
  rcases elim_eq (p := p) (eqES_rf m s) m.toNat 0 q q (by omega) (by omega) (fun _ _ _ => rfl) with ⟨a, b⟩ | ⟨a, q2, r2, a1, a2, a3, a4, a5, a6⟩
  · rw [a]
  · exfalso
    have h1 := cnt_up (T := s.2.1) (m := m) a3 a4 a5
    have h2 := (cntF_B (f := fun j => if j = a then 1 else s.2.1 j) m0).2
    unfold rkOK at h
    omega
theorem rowsT_rk {n p d x : Int} {F Z : Int → Int} (m0 : 0 ≤ nmC n d Z) : ∀ (k : Nat) (s : ES), rkOK (nmC n d Z) s → rkOK (nmC n d Z) (rowsT n p d F Z x k s)
  | 0, s, h => h
  | k + 1, s, h => by
    show rkOK _ (if ldq n (d + 1) Z (k : Int) = 0 then _ else _)
    split
    · exact rk_step m0 (rowsT_rk m0 k s h)
    · exact rowsT_rk m0 k s h
theorem rowsX_rk {n p d : Int} {F Z : Int → Int} (m0 : 0 ≤ nmC n d Z) : ∀ (k : Nat) (s : ES), rkOK (nmC n d Z) s → rkOK (nmC n d Z) (rowsX n p d F Z k s)
  | 0, s, h => h
  | k + 1, s, h => rowsT_rk m0 _ _ (rowsX_rk m0 k s h)
theorem rowsT_full {n p d x : Int} {F Z : Int → Int} (m0 : 0 ≤ nmC n d Z) {s : ES} (h : rkOK (nmC n d Z) s) {k : Nat} (hf : nmC n d Z ≤ (rowsT n p d F Z x k s).2.2) : ∀ j : Nat, rowsT n p d F Z x (k + j) s = rowsT n p d F Z x k s
  | 0 => rfl
  | j + 1 => by
    show (if ldq n (d + 1) Z ((k + j : Nat) : Int) = 0 then stepE p (nmC n d Z) (rowsT n p d F Z x (k + j) s) (eqV n p d F Z x ((k + j : Nat) : Int)) else rowsT n p d F Z x (k + j) s) = _
    rw [rowsT_full m0 h hf j]
    split
    · exact rk_full m0 (rowsT_rk m0 k s h) hf
    · rfl
theorem nm_B {n d : Int} {Z : Int → Int} (n1 : 1 ≤ n) (n2 : n ≤ 3) (h0 : 0 ≤ d) (h1 : d + 1 ≤ Lg n) : 0 ≤ nmC n d Z ∧ nmC n d Z ≤ 81 := by
  have hp := pw_pos (d := d) n1
  have hc := cntF_B (f := nlF n d Z) (N := pw n d) (by omega)
  have : pw n d ≤ 81 ∨ n = 2 ∨ n = 1 := by
    have hn : n = 1 ∨ n = 2 ∨ n = 3 := by omega
    rcases hn with rfl | rfl | rfl
    · omega
    · omega
    · left
      have hd : d = 0 ∨ d = 1 ∨ d = 2 ∨ d = 3 ∨ d = 4 := by have : Lg 3 = 5 := rfl; omega
      rcases hd with rfl | rfl | rfl | rfl | rfl <;> decide +kernel
  have h2 : n = 2 → pw n d ≤ 64 := by
    intro z; subst z
    have hd : d = 0 ∨ d = 1 ∨ d = 2 ∨ d = 3 ∨ d = 4 ∨ d = 5 ∨ d = 6 := by have : Lg 2 = 7 := rfl; omega
    rcases hd with rfl | rfl | rfl | rfl | rfl | rfl | rfl <;> decide +kernel
  have h3 : n = 1 → pw n d ≤ 1 := by
    intro z; subst z
    unfold pw
    rw [Int.one_pow]
    omega
  unfold nmC
  omega
