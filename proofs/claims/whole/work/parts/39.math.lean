theorem closeV_v {n p : Int} {s : RS} {v w : Vc} (h : ∀ j, 0 ≤ j → j < 364 → v j = w j) : ∀ j, 0 ≤ j → j < 364 → closeV n p s v j = closeV n p s w j := by
  intro j j0 j1
  unfold closeV
  rw [h j j0 j1]
theorem rByte_v {n p : Int} {s : RS} {v w : Vc} {c pl : Int} (h : ∀ j, 0 ≤ j → j < 364 → v j = w j) : (rByte n p s v c pl).1 = (rByte n p s w c pl).1 ∧ (rByte n p s v c pl).2.1 = (rByte n p s w c pl).2.1 ∧ ∀ j, 0 ≤ j → j < 364 → (rByte n p s v c pl).2.2 j = (rByte n p s w c pl).2.2 j := by
  unfold rByte
  by_cases h1 : c = 32
  · rw [if_pos h1, if_pos h1]; exact ⟨rfl, rfl, h⟩
  · rw [if_neg h1, if_neg h1]
    by_cases h2 : 48 ≤ c ∧ c ≤ 57
    · rw [if_pos h2, if_pos h2]
      unfold rDigit
      by_cases h3 : s.1 = 0 ∨ s.1 = 1
      · rw [if_pos h3, if_pos h3]; exact ⟨rfl, rfl, h⟩
      · rw [if_neg h3, if_neg h3]
        by_cases h4 : s.1 ≠ 2
        · rw [if_pos h4, if_pos h4]; exact ⟨rfl, rfl, h⟩
        · rw [if_neg h4, if_neg h4]; exact ⟨rfl, rfl, h⟩
    · rw [if_neg h2, if_neg h2]
      by_cases h3 : c = 43 ∨ c = 45
      · rw [if_pos h3, if_pos h3]
        unfold rSign
        by_cases h4 : s.1 = 1 ∨ (s.1 = 0 ∧ (if c = 45 then (-1 : Int) else 1) > 0)
        · rw [if_pos h4, if_pos h4]; exact ⟨rfl, rfl, h⟩
        · rw [if_neg h4, if_neg h4]
          refine ⟨rfl, rfl, ?_⟩
          dsimp only
          by_cases h5 : s.1 = 0
          · rw [if_pos h5, if_pos h5]; exact h
          · rw [if_neg h5, if_neg h5]; exact closeV_v h
      · rw [if_neg h3, if_neg h3]
        unfold rLetter
        by_cases h4 : 0 ≤ c - 97 ∧ c - 97 < n ∧ s.2.2.2.2.1 < Lg n
        · rw [if_pos h4, if_pos h4]; exact ⟨rfl, rfl, h⟩
        · rw [if_neg h4, if_neg h4]; exact ⟨rfl, rfl, h⟩
theorem okR_byte {n p : Int} {s : RS} {v : Vc} {c pl : Int} (n1 : 1 ≤ n) (h : okR n s) (hpl : 0 ≤ pl) (hnp : s.1 = 2 → 0 ≤ s.2.2.2.1) (hf : (rByte n p s v c pl).1 = -1) : okR n (rByte n p s v c pl).2.1 ∧ ((rByte n p s v c pl).2.1.1 = 2 → 0 ≤ (rByte n p s v c pl).2.1.2.2.2.1) := by
  unfold rByte at hf ⊢
  by_cases h1 : c = 32
  · rw [if_pos h1] at hf ⊢
    obtain ⟨a, b, c', d⟩ := h
    refine ⟨⟨?_, b, c', d⟩, ?_⟩
    · dsimp only
      split <;> omega
    · dsimp only
      split <;> omega
  · rw [if_neg h1] at hf ⊢
    by_cases h2 : 48 ≤ c ∧ c ≤ 57
    · rw [if_pos h2] at hf ⊢
      refine ⟨okR_digit h (by omega) (by omega) hf hpl hnp, ?_⟩
      unfold rDigit
      by_cases h3 : s.1 = 0 ∨ s.1 = 1
      · rw [if_pos h3]; intro _; exact hpl
      · rw [if_neg h3]
        by_cases h4 : s.1 ≠ 2
        · rw [if_pos h4]; exact hnp
        · rw [if_neg h4]; intro _; exact hnp (by omega)
    · rw [if_neg h2] at hf ⊢
      by_cases h3 : c = 43 ∨ c = 45
      · rw [if_pos h3] at hf ⊢
        refine ⟨okR_sign h (by split <;> omega), ?_⟩
        unfold rSign
        by_cases h4 : s.1 = 1 ∨ (s.1 = 0 ∧ (if c = 45 then (-1 : Int) else 1) > 0)
        · rw [if_pos h4]; exact hnp
        · rw [if_neg h4]; intro z; dsimp only at z; omega
      · rw [if_neg h3] at hf ⊢
        refine ⟨okR_letter n1 h, ?_⟩
        unfold rLetter
        by_cases h4 : 0 ≤ c - 97 ∧ c - 97 < n ∧ s.2.2.2.2.1 < Lg n
        · rw [if_pos h4]; intro z; dsimp only at z; omega
        · rw [if_neg h4]; exact hnp
/-- a fault is the place itself, or that of a number -/
theorem rByte_f {n p : Int} {s : RS} {v : Vc} {c pl : Int} (hpl : 0 ≤ pl) (hp2 : pl ≤ 80) (hnp : s.1 = 2 → 0 ≤ s.2.2.2.1 ∧ s.2.2.2.1 ≤ 80) : -1 ≤ (rByte n p s v c pl).1 ∧ (rByte n p s v c pl).1 ≤ 80 := by
  unfold rByte
  by_cases h1 : c = 32
  · rw [if_pos h1]; dsimp only; omega
  · rw [if_neg h1]
    by_cases h2 : 48 ≤ c ∧ c ≤ 57
    · rw [if_pos h2]
      unfold rDigit
      by_cases h3 : s.1 = 0 ∨ s.1 = 1
      · rw [if_pos h3]; dsimp only; omega
      · rw [if_neg h3]
        by_cases h4 : s.1 ≠ 2
        · rw [if_pos h4]; dsimp only; omega
        · rw [if_neg h4]
          have := hnp (by omega)
          dsimp only
          split <;> omega
    · rw [if_neg h2]
      by_cases h3 : c = 43 ∨ c = 45
      · rw [if_pos h3]
        unfold rSign
        by_cases h4 : s.1 = 1 ∨ (s.1 = 0 ∧ (if c = 45 then (-1 : Int) else 1) > 0)
        · rw [if_pos h4]; dsimp only; omega
        · rw [if_neg h4]; dsimp only; omega
      · rw [if_neg h3]
        unfold rLetter
        by_cases h4 : 0 ≤ c - 97 ∧ c - 97 < n ∧ s.2.2.2.2.1 < Lg n
        · rw [if_pos h4]; dsimp only; omega
        · rw [if_neg h4]; dsimp only; omega
theorem np_byte {n p : Int} {s : RS} {v : Vc} {c pl : Int} (hp2 : pl ≤ 80) (hnp : s.1 = 2 → s.2.2.2.1 ≤ 80) : (rByte n p s v c pl).2.1.1 = 2 → (rByte n p s v c pl).2.1.2.2.2.1 ≤ 80 := by
  unfold rByte
  by_cases h1 : c = 32
  · rw [if_pos h1]; dsimp only; split <;> omega
  · rw [if_neg h1]
    by_cases h2 : 48 ≤ c ∧ c ≤ 57
    · rw [if_pos h2]
      unfold rDigit
      by_cases h3 : s.1 = 0 ∨ s.1 = 1
      · rw [if_pos h3]; intro _; exact hp2
      · rw [if_neg h3]
        by_cases h4 : s.1 ≠ 2
        · rw [if_pos h4]; exact hnp
        · rw [if_neg h4]; intro _; exact hnp (by omega)
    · rw [if_neg h2]
      by_cases h3 : c = 43 ∨ c = 45
      · rw [if_pos h3]
        unfold rSign
        by_cases h4 : s.1 = 1 ∨ (s.1 = 0 ∧ (if c = 45 then (-1 : Int) else 1) > 0)
        · rw [if_pos h4]; exact hnp
        · rw [if_neg h4]; intro z; dsimp only at z; omega
      · rw [if_neg h3]
        unfold rLetter
        by_cases h4 : 0 ≤ c - 97 ∧ c - 97 < n ∧ s.2.2.2.2.1 < Lg n
        · rw [if_pos h4]; intro z; dsimp only at z; omega
        · rw [if_neg h4]; exact hnp
