/-! ===== the reader of a text: state, sign, number, its place, length, letters ===== -/
abbrev RS : Type := Int × Int × Int × Int × Int × Int
abbrev rsOf (M : AbM) (r : Nat) : RS := (M r 1, M r 2, M r 3, M r 4, M r 5, M r 6)
abbrev RR : Type := Int × RS × Vc
def okR (n : Int) (s : RS) : Prop := (0 ≤ s.1 ∧ s.1 ≤ 4) ∧ (s.2.1 = 1 ∨ s.2.1 = -1) ∧ (0 ≤ s.2.2.1 ∧ s.2.2.1 ≤ 999) ∧ (0 ≤ s.2.2.2.2.1 ∧ s.2.2.2.2.1 ≤ Lg n) ∧ 0 ≤ s.2.2.2.2.2 ∧ s.2.2.2.2.2 < pw n s.2.2.2.2.1
def closeV (n p : Int) (s : RS) (v : Vc) : Vc := fun x => if x = wsm n s.2.2.2.2.1 + s.2.2.2.2.2 then (v x + s.2.1 * s.2.2.1) % p else v x
def rDigit (s : RS) (v : Vc) (g pl : Int) : RR := if s.1 = 0 ∨ s.1 = 1 then (-1, (2, s.2.1, g, pl, s.2.2.2.2.1, s.2.2.2.2.2), v) else if s.1 ≠ 2 then (pl, s, v) else ((if s.2.2.1 * 10 + g > 999 then s.2.2.2.1 else -1), (s.1, s.2.1, s.2.2.1 * 10 + g, s.2.2.2.1, s.2.2.2.2.1, s.2.2.2.2.2), v)
def rSign (n p : Int) (s : RS) (v : Vc) (sg pl : Int) : RR := if s.1 = 1 ∨ (s.1 = 0 ∧ sg > 0) then (pl, s, v) else (-1, (1, sg, 1, s.2.2.2.1, 0, 0), if s.1 = 0 then v else closeV n p s v)
def rLetter (n : Int) (s : RS) (v : Vc) (l pl : Int) : RR := if 0 ≤ l ∧ l < n ∧ s.2.2.2.2.1 < Lg n then (-1, (4, s.2.1, s.2.2.1, s.2.2.2.1, s.2.2.2.2.1 + 1, s.2.2.2.2.2 * n + l), v) else (pl, s, v)
/-- a byte c at the place pl -/
def rByte (n p : Int) (s : RS) (v : Vc) (c pl : Int) : RR := if c = 32 then (-1, ((if s.1 = 2 then 3 else s.1), s.2.1, s.2.2.1, s.2.2.2.1, s.2.2.2.2.1, s.2.2.2.2.2), v) else if 48 ≤ c ∧ c ≤ 57 then rDigit s v (c - 48) pl else if c = 43 ∨ c = 45 then rSign n p s v (if c = 45 then -1 else 1) pl else rLetter n s v (c - 97) pl
theorem okR_digit {n : Int} {s : RS} {v : Vc} {g pl : Int} (h : okR n s) (g0 : 0 ≤ g) (g1 : g ≤ 9) (hf : (rDigit s v g pl).1 = -1) (hpl : 0 ≤ pl) (hnp : s.1 = 2 → 0 ≤ s.2.2.2.1) : okR n (rDigit s v g pl).2.1 := by
  obtain ⟨a, b, c, d⟩ := h
  unfold rDigit at hf ⊢
  by_cases q : s.1 = 0 ∨ s.1 = 1
  · rw [if_pos q]; exact ⟨⟨by dsimp only; omega, by dsimp only; omega⟩, b, ⟨g0, by show g ≤ 999; omega⟩, d⟩
  · rw [if_neg q] at hf ⊢
    by_cases q2 : s.1 ≠ 2
    · rw [if_pos q2]; exact ⟨a, b, c, d⟩
    · rw [if_neg q2] at hf ⊢
      dsimp only at hf
      by_cases q3 : s.2.2.1 * 10 + g > 999
      · rw [if_pos q3] at hf
        have := hnp (by omega)
        omega
      · exact ⟨a, b, ⟨by show 0 ≤ s.2.2.1 * 10 + g; omega, by show s.2.2.1 * 10 + g ≤ 999; omega⟩, d⟩
theorem okR_sign {n p : Int} {s : RS} {v : Vc} {sg pl : Int} (h : okR n s) (hs : sg = 1 ∨ sg = -1) : okR n (rSign n p s v sg pl).2.1 := by
  unfold rSign
  by_cases q : s.1 = 1 ∨ (s.1 = 0 ∧ sg > 0)
  · rw [if_pos q]; exact h
  · rw [if_neg q]
    have := Lg_B n
    exact ⟨⟨by dsimp only; omega, by dsimp only; omega⟩, hs, ⟨by dsimp only; omega, by dsimp only; omega⟩, ⟨by dsimp only; omega, by show (0 : Int) ≤ Lg n; omega⟩, by dsimp only; omega, by show (0 : Int) < pw n 0; rw [pw_0]; decide⟩
theorem okR_letter {n : Int} {s : RS} {v : Vc} {l pl : Int} (n1 : 1 ≤ n) (h : okR n s) : okR n (rLetter n s v l pl).2.1 := by
  unfold rLetter
  by_cases q : 0 ≤ l ∧ l < n ∧ s.2.2.2.2.1 < Lg n
  · rw [if_pos q]
    obtain ⟨a, b, c, d, e, f⟩ := h
    refine ⟨⟨by dsimp only; omega, by dsimp only; omega⟩, b, c, ⟨by show 0 ≤ s.2.2.2.2.1 + 1; omega, by show s.2.2.2.2.1 + 1 ≤ Lg n; omega⟩, ?_, ?_⟩
    · show 0 ≤ s.2.2.2.2.2 * n + l
      have := Int.mul_nonneg e (show 0 ≤ n by omega)
      omega
    · show s.2.2.2.2.2 * n + l < pw n (s.2.2.2.2.1 + 1)
      rw [pw_s d.1]
      have : (s.2.2.2.2.2 + 1) * n ≤ pw n s.2.2.2.2.1 * n := Int.mul_le_mul_of_nonneg_right (by omega) (by omega)
      rw [Int.add_mul, Int.one_mul] at this
      omega
  · rw [if_neg q]; exact h
/-- the first k bytes -/
def runR (n p : Int) (T : Int → Int) (np : Int) : Nat → RR
  | 0 => (-1, (0, 1, 1, np, 0, 0), fun _ => 0)
  | k + 1 => if (runR n p T np k).1 = -1 then rByte n p (runR n p T np k).2.1 (runR n p T np k).2.2 (T (k : Int)) (k : Int) else runR n p T np k
theorem runR_s {n p np i : Int} {T : Int → Int} (i0 : 0 ≤ i) (h : (runR n p T np i.toNat).1 = -1) : runR n p T np (i + 1).toNat = rByte n p (runR n p T np i.toNat).2.1 (runR n p T np i.toNat).2.2 (T i) i := by
  rw [show (i + 1).toNat = i.toNat + 1 by omega]
  show (if (runR n p T np i.toNat).1 = -1 then rByte n p (runR n p T np i.toNat).2.1 (runR n p T np i.toNat).2.2 (T ((i.toNat : Nat) : Int)) ((i.toNat : Nat) : Int) else _) = _
  rw [if_pos h, show ((i.toNat : Nat) : Int) = i by omega]
theorem runR_f {n p np i N : Int} {T : Int → Int} (i0 : 0 ≤ i) (h : i ≤ N) (hf : (runR n p T np i.toNat).1 ≠ -1) : runR n p T np N.toNat = runR n p T np i.toNat := by
  have key : ∀ k : Nat, runR n p T np (i.toNat + k) = runR n p T np i.toNat := by
    intro k
    induction k with
    | zero => rfl
    | succ k ih =>
      show (if (runR n p T np (i.toNat + k)).1 = -1 then _ else runR n p T np (i.toNat + k)) = _
      rw [ih, if_neg hf]
  have := key (N.toNat - i.toNat)
  rwa [show i.toNat + (N.toNat - i.toNat) = N.toNat by omega] at this
/-- what a whole text answers: 0, or a fault; and the sum -/
def endR (n p N : Int) (q : RR) : Int × Vc := if q.1 ≠ -1 then (-20 - q.1, q.2.2) else if q.2.1.1 = 0 ∨ q.2.1.1 = 1 then (-20 - N, q.2.2) else (0, closeV n p q.2.1 q.2.2)
