/-! ===== elimination, as both sides do it ===== -/
/-- the equation q, less q i times the row i -/
def subE (p m i : Int) (E q : Int → Int) : Int → Int := fun j => if i ≤ j ∧ j < m then (q j - q i * E (i * 81 + j)) % p else q j
/-- the place at which an equation is kept, and what it is there -/
def elim (p m : Int) (E T : Int → Int) : Nat → Int → (Int → Int) → Option (Int × (Int → Int))
  | 0, _, _ => none
  | k + 1, i, q => if q i = 0 then elim p m E T k (i + 1) q else if T i = 0 then some (i, q) else elim p m E T k (i + 1) (subE p m i E q)
theorem elim_s {p m : Int} {E T : Int → Int} {k : Nat} {i : Int} {q : Int → Int} : elim p m E T (k + 1) i q = if q i = 0 then elim p m E T k (i + 1) q else if T i = 0 then some (i, q) else elim p m E T k (i + 1) (subE p m i E q) := rfl
/-- the row that is kept -/
def keepE (p m i : Int) (E q : Int → Int) : Int → Int := fun x => if i * 81 + i ≤ x ∧ x < i * 81 + m then (q (x - i * 81) * ivf p (q i)) % p else E x
def rngB (p m : Int) (q : Int → Int) : Prop := ∀ j, 0 ≤ j → j < m → 0 ≤ q j ∧ q j < p
def rngE (p m : Int) (E T : Int → Int) : Prop := ∀ i j, 0 ≤ i → i ≤ j → j < m → T i ≠ 0 → 0 ≤ E (i * 81 + j) ∧ E (i * 81 + j) < p
theorem rngB_sub {p m i : Int} {E q : Int → Int} (hp : 2 ≤ p) (h : rngB p m q) : rngB p m (subE p m i E q) := by
  intro j h0 h1
  unfold subE
  split
  · exact ⟨Int.emod_nonneg _ (by omega), Int.emod_lt_of_pos _ (by omega)⟩
  · exact h j h0 h1
theorem rngE_keep {p m i : Int} {E T q : Int → Int} (hp : 2 ≤ p) (h : rngE p m E T) (i0 : 0 ≤ i) (m1 : m ≤ 81) : rngE p m (keepE p m i E q) (fun j => if j = i then 1 else T j) := by
  intro a j a0 aj jm ht
  unfold keepE
  split
  · exact ⟨Int.emod_nonneg _ (by omega), Int.emod_lt_of_pos _ (by omega)⟩
  · next hn =>
    rcases Int.decEq a i with q | q
    · have ht2 : (if a = i then 1 else T a) ≠ 0 := ht
      rw [if_neg q] at ht2
      exact h a j a0 aj jm ht2
    · exfalso; subst q; omega
theorem elim_B {p m : Int} {E T : Int → Int} (hp : 2 ≤ p) : ∀ (k : Nat) (i : Int) (q : Int → Int) (i2 : Int) (q2 : Int → Int), rngB p m q → 0 ≤ i → i + k = m → elim p m E T k i q = some (i2, q2) → i ≤ i2 ∧ i2 < m ∧ rngB p m q2 ∧ q2 i2 ≠ 0 ∧ T i2 = 0
  | 0, i, q, i2, q2 => fun _ _ _ h => by cases h
  | k + 1, i, q, i2, q2 => fun hq i0 hk h => by
    unfold elim at h
    split at h
    · have := elim_B hp k (i + 1) q i2 q2 hq (by omega) (by omega) h
      exact ⟨by omega, this.2⟩
    · next hn =>
      split at h
      · next ht => cases h; exact ⟨Int.le_refl _, by omega, hq, hn, ht⟩
      · have := elim_B hp k (i + 1) _ i2 q2 (rngB_sub hp hq) (by omega) (by omega) h
        exact ⟨by omega, this.2⟩
