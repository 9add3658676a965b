/-! ===== the other side's reader ===== -/
def dg (c : Int) : Prop := 48 ≤ c ∧ c ≤ 57
section
variable {n p np i j N s g v a d w : Int} {T : Int → Int} {V : Vc}
theorem q_at (i0 : 0 ≤ i) (h : runR n p T np i.toNat = (-1, (s, g, v, a, d, w), V)) : runR n p T np (i + 1).toNat = rByte n p (s, g, v, a, d, w) V (T i) i := by
  have := runR_s (n := n) (p := p) (T := T) (np := np) i0 (by rw [h])
  rw [this, h]
theorem q_sp (i0 : 0 ≤ i) (h : runR n p T np i.toNat = (-1, (s, g, v, a, d, w), V)) (ht : T i = 32) : runR n p T np (i + 1).toNat = (-1, ((if s = 2 then 3 else s), g, v, a, d, w), V) := by
  rw [q_at i0 h]
  unfold rByte
  rw [if_pos ht]
theorem q_sps (i0 : 0 ≤ i) (hij : i ≤ j) (ht : ∀ k, i ≤ k → k < j → T k = 32) (h : runR n p T np i.toNat = (-1, (s, g, v, a, d, w), V)) (hs : s ≠ 2) : runR n p T np j.toNat = (-1, (s, g, v, a, d, w), V) := by
  have key : ∀ k : Nat, i + k ≤ j → runR n p T np (i + k).toNat = (-1, (s, g, v, a, d, w), V) := by
    intro k
    induction k with
    | zero => intro _; rw [show i + ((0 : Nat) : Int) = i by omega]; exact h
    | succ k ih =>
      intro hk
      have := q_sp (by omega) (ih (by omega)) (ht (i + k) (by omega) (by omega))
      rw [if_neg hs] at this
      rw [show i + ((k + 1 : Nat) : Int) = i + k + 1 by omega]
      exact this
  have := key (j - i).toNat (by omega)
  rwa [show i + (((j - i).toNat : Nat) : Int) = j by omega] at this
theorem q_sps2 (i0 : 0 ≤ i) (hij : i < j) (ht : ∀ k, i ≤ k → k < j → T k = 32) (h : runR n p T np i.toNat = (-1, (2, g, v, a, d, w), V)) : runR n p T np j.toNat = (-1, (3, g, v, a, d, w), V) := by
  have h1 := q_sp i0 h (ht i (by omega) hij)
  rw [if_pos rfl] at h1
  exact q_sps (by omega) (show i + 1 ≤ j by omega) (fun k a b => ht k (by omega) b) h1 (by decide)
theorem q_dig1 (i0 : 0 ≤ i) (h : runR n p T np i.toNat = (-1, (s, g, v, a, d, w), V)) (hs : s = 0 ∨ s = 1) (ht : dg (T i)) : runR n p T np (i + 1).toNat = (-1, (2, g, T i - 48, i, d, w), V) := by
  obtain ⟨t0, t1⟩ := ht
  rw [q_at i0 h]
  unfold rByte rDigit
  rw [if_neg (by omega), if_pos ⟨t0, t1⟩, if_pos hs]
theorem q_dig2 (i0 : 0 ≤ i) (h : runR n p T np i.toNat = (-1, (2, g, v, a, d, w), V)) (ht : dg (T i)) : runR n p T np (i + 1).toNat = ((if v * 10 + (T i - 48) > 999 then a else -1), (2, g, v * 10 + (T i - 48), a, d, w), V) := by
  obtain ⟨t0, t1⟩ := ht
  rw [q_at i0 h]
  unfold rByte rDigit
  rw [if_neg (by omega), if_pos ⟨t0, t1⟩, if_neg (by dsimp only; omega), if_neg (by dsimp only; omega)]
theorem q_let (i0 : 0 ≤ i) (h : runR n p T np i.toNat = (-1, (s, g, v, a, d, w), V)) (n2 : n ≤ 3) (t0 : 97 ≤ T i) (t1 : T i ≤ 97 + n - 1) (hd : d < Lg n) : runR n p T np (i + 1).toNat = (-1, (4, g, v, a, d + 1, n * w + (T i - 97)), V) := by
  rw [q_at i0 h]
  unfold rByte rLetter
  rw [if_neg (by omega), if_neg (by omega), if_neg (by omega), if_pos ⟨by omega, by omega, hd⟩, Int.mul_comm n w]
theorem q_letF (i0 : 0 ≤ i) (h : runR n p T np i.toNat = (-1, (s, g, v, a, d, w), V)) (n2 : n ≤ 3) (t0 : 97 ≤ T i) (t1 : T i ≤ 97 + n - 1) (hd : Lg n ≤ d) : (runR n p T np (i + 1).toNat).1 = i := by
  rw [q_at i0 h]
  unfold rByte rLetter
  rw [if_neg (by omega), if_neg (by omega), if_neg (by omega), if_neg (fun z => by have := z.2.2; dsimp only at this; omega)]
theorem q_bad (i0 : 0 ≤ i) (h : runR n p T np i.toNat = (-1, (s, g, v, a, d, w), V)) (hl : ¬ (97 ≤ T i ∧ T i ≤ 97 + n - 1)) (h32 : T i ≠ 32) (hdg : ¬ dg (T i)) (hs : s = 1 ∨ (s = 0 ∧ T i ≠ 45)) : (runR n p T np (i + 1).toNat).1 = i := by
  rw [q_at i0 h]
  unfold rByte
  rw [if_neg h32, if_neg (show ¬ (48 ≤ T i ∧ T i ≤ 57) from hdg)]
  by_cases q : T i = 43 ∨ T i = 45
  · rw [if_pos q]
    unfold rSign
    rw [if_pos]
    rcases hs with z | z
    · exact Or.inl z
    · refine Or.inr ⟨z.1, ?_⟩
      rw [if_neg z.2]; decide
  · rw [if_neg q]
    unfold rLetter
    rw [if_neg (by omega)]
theorem q_bad2 (i0 : 0 ≤ i) (h : runR n p T np i.toNat = (-1, (s, g, v, a, d, w), V)) (hl : ¬ (97 ≤ T i ∧ T i ≤ 97 + n - 1)) (h32 : T i ≠ 32) (hs : 2 ≤ s) (hdg : s = 2 → ¬ dg (T i)) (h43 : T i ≠ 43) (h45 : T i ≠ 45) : (runR n p T np (i + 1).toNat).1 = i := by
  rw [q_at i0 h]
  unfold rByte
  rw [if_neg h32]
  by_cases q : 48 ≤ T i ∧ T i ≤ 57
  · rw [if_pos q]
    unfold rDigit
    rw [if_neg (by dsimp only; omega), if_pos (fun z => hdg z q)]
  · rw [if_neg q, if_neg (by omega)]
    unfold rLetter
    rw [if_neg (by omega)]
theorem q_sign (i0 : 0 ≤ i) (h : runR n p T np i.toNat = (-1, (s, g, v, a, d, w), V)) (hs : 2 ≤ s) (ht : T i = 43 ∨ T i = 45) : runR n p T np (i + 1).toNat = (-1, (1, (if T i = 45 then -1 else 1), 1, a, 0, 0), closeV n p (s, g, v, a, d, w) V) := by
  rw [q_at i0 h]
  unfold rByte
  rw [if_neg (by omega), if_neg (by omega), if_pos ht]
  unfold rSign
  rw [if_neg (by dsimp only; omega)]
  dsimp only
  rw [if_neg (show ¬ s = 0 by omega)]
theorem q_minus (i0 : 0 ≤ i) (h : runR n p T np i.toNat = (-1, (0, g, v, a, d, w), V)) (ht : T i = 45) : runR n p T np (i + 1).toNat = (-1, (1, -1, 1, a, 0, 0), V) := by
  rw [q_at i0 h]
  unfold rByte
  rw [if_neg (by omega), if_neg (by omega), if_pos (Or.inr ht), if_pos ht]
  unfold rSign
  rw [if_neg (by dsimp only; omega), if_pos rfl]
theorem q_fault (i0 : 0 ≤ i) (hN : i ≤ N) (f : Int) (hf : f ≠ -1) (h : (runR n p T np i.toNat).1 = f) : (endR n p N (runR n p T np N.toNat)).1 = -20 - f := by
  rw [runR_f i0 hN (by rw [h]; exact hf)]
  unfold endR
  rw [h, if_pos hf]
theorem q_needs (h : runR n p T np N.toNat = (-1, (s, g, v, a, d, w), V)) (hs : s = 0 ∨ s = 1) : (endR n p N (runR n p T np N.toNat)).1 = -20 - N := by
  rw [h]
  unfold endR
  rw [if_neg (fun z => z rfl), if_pos hs]
theorem q_end (h : runR n p T np N.toNat = (-1, (s, g, v, a, d, w), V)) (hs : 2 ≤ s) : endR n p N (runR n p T np N.toNat) = (0, closeV n p (s, g, v, a, d, w) V) := by
  rw [h]
  unfold endR
  rw [if_neg (fun z => z rfl), if_neg (by dsimp only; omega)]
end
/-- the place that a reading starts with does not matter -/
theorem runR_np {n p a b : Int} {T : Int → Int} (k : Nat) : runR n p T a k = runR n p T b k ∨ ((runR n p T a k).1 = (runR n p T b k).1 ∧ (runR n p T a k).2.2 = (runR n p T b k).2.2 ∧ ∃ s g v d w, s ≠ 2 ∧ (runR n p T a k).2.1 = (s, g, v, a, d, w) ∧ (runR n p T b k).2.1 = (s, g, v, b, d, w)) := by
  induction k with
  | zero => exact Or.inr ⟨rfl, rfl, 0, 1, 1, 0, 0, by decide, rfl, rfl⟩
  | succ k ih =>
    have ea : runR n p T a (k + 1) = if (runR n p T a k).1 = -1 then rByte n p (runR n p T a k).2.1 (runR n p T a k).2.2 (T (k : Int)) (k : Int) else runR n p T a k := rfl
    have eb : runR n p T b (k + 1) = if (runR n p T b k).1 = -1 then rByte n p (runR n p T b k).2.1 (runR n p T b k).2.2 (T (k : Int)) (k : Int) else runR n p T b k := rfl
    rw [ea, eb]
    rcases ih with h | ⟨h1, h2, s, g, v, d, w, hs, h3, h4⟩
    · rw [h]; exact Or.inl rfl
    · by_cases z : (runR n p T a k).1 = -1
      · rw [if_pos z, if_pos (h1 ▸ z), h2, h3, h4]
        unfold rByte
        by_cases c1 : T (k : Int) = 32
        · rw [if_pos c1, if_pos c1]
          dsimp only
          rw [if_neg hs]
          exact Or.inr ⟨rfl, rfl, s, g, v, d, w, hs, rfl, rfl⟩
        · rw [if_neg c1, if_neg c1]
          by_cases c2 : 48 ≤ T (k : Int) ∧ T (k : Int) ≤ 57
          · rw [if_pos c2, if_pos c2]
            unfold rDigit
            dsimp only
            by_cases c3 : s = 0 ∨ s = 1
            · rw [if_pos c3, if_pos c3]; exact Or.inl rfl
            · rw [if_neg c3, if_neg c3, if_pos hs, if_pos hs]
              exact Or.inr ⟨rfl, rfl, s, g, v, d, w, hs, rfl, rfl⟩
          · rw [if_neg c2, if_neg c2]
            by_cases c3 : T (k : Int) = 43 ∨ T (k : Int) = 45
            · rw [if_pos c3, if_pos c3]
              unfold rSign
              dsimp only
              by_cases c4 : s = 1 ∨ (s = 0 ∧ (if T (k : Int) = 45 then (-1 : Int) else 1) > 0)
              · rw [if_pos c4, if_pos c4]
                exact Or.inr ⟨rfl, rfl, s, g, v, d, w, hs, rfl, rfl⟩
              · rw [if_neg c4, if_neg c4]
                refine Or.inr ⟨rfl, ?_, 1, _, 1, 0, 0, by decide, rfl, rfl⟩
                dsimp only
                by_cases c5 : s = 0
                · rw [if_pos c5, if_pos c5]
                · rw [if_neg c5, if_neg c5]; rfl
            · rw [if_neg c3, if_neg c3]
              unfold rLetter
              dsimp only
              by_cases c4 : 0 ≤ T (k : Int) - 97 ∧ T (k : Int) - 97 < n ∧ d < Lg n
              · rw [if_pos c4, if_pos c4]
                exact Or.inr ⟨rfl, rfl, 4, g, v, d + 1, _, by decide, rfl, rfl⟩
              · rw [if_neg c4, if_neg c4]
                exact Or.inr ⟨rfl, rfl, s, g, v, d, w, hs, rfl, rfl⟩
      · rw [if_neg z, if_neg (h1 ▸ z)]
        exact Or.inr ⟨h1, h2, s, g, v, d, w, hs, h3, h4⟩
theorem endR_np {n p a b N : Int} {T : Int → Int} (k : Nat) : endR n p N (runR n p T a k) = endR n p N (runR n p T b k) := by
  rcases runR_np (n := n) (p := p) (a := a) (b := b) (T := T) k with h | ⟨h1, h2, s, g, v, d, w, hs, h3, h4⟩
  · rw [h]
  · unfold endR
    rw [h1, h2, h3, h4]
    rfl
/-- what a reading looks at of the tape -/
theorem runR_T {n p a : Int} {T T2 : Int → Int} (k : Nat) (h : ∀ i, 0 ≤ i → i < (k : Int) → T i = T2 i) : runR n p T a k = runR n p T2 a k := by
  induction k with
  | zero => rfl
  | succ k ih =>
    have ea : runR n p T a (k + 1) = if (runR n p T a k).1 = -1 then rByte n p (runR n p T a k).2.1 (runR n p T a k).2.2 (T (k : Int)) (k : Int) else runR n p T a k := rfl
    have eb : runR n p T2 a (k + 1) = if (runR n p T2 a k).1 = -1 then rByte n p (runR n p T2 a k).2.1 (runR n p T2 a k).2.2 (T2 (k : Int)) (k : Int) else runR n p T2 a k := rfl
    rw [ea, eb, ih (fun i a b => h i a (by omega)), h k (by omega) (by omega)]
theorem up_id {M : AbM} {k : Nat} {i : Int} : up M k i (M k i) = M := by
  funext k2 i2
  by_cases q : k2 = k
  · subst q
    by_cases z : i2 = i
    · subst z; exact up_s
    · exact up_i z
  · exact up_k q
section
variable (n p : Int) (T : Int → Int) (np N : Int)
def QP (i g : Int) (Md : Int → Int) : Prop := 0 ≤ i ∧ i ≤ N ∧ (g = 1 ∨ g = -1) ∧ (∃ s a V, runR n p T np i.toNat = (-1, (s, g, 1, a, 0, 0), V) ∧ (s = 1 ∨ (s = 0 ∧ (i < N → T i ≠ 45 ∧ T i ≠ 32))) ∧ ∀ j, 0 ≤ j → j < 364 → Md j = V j ∧ 0 ≤ V j ∧ V j < p) ∧ ∀ j, 364 ≤ j → j < 400 → Md j = 0
def QE (i : Int) (Md : Int → Int) : Prop := 0 ≤ i ∧ i ≤ N ∧ (i < N → T i ≠ 32 ∧ ¬ (97 ≤ T i ∧ T i ≤ 97 + n - 1)) ∧ (∃ s g v a d w V, runR n p T np i.toNat = (-1, (s, g, v, a, d, w), V) ∧ 2 ≤ s ∧ (s = 2 → i < N → ¬ dg (T i)) ∧ ∀ j, 0 ≤ j → j < 364 → Md j = closeV n p (s, g, v, a, d, w) V j ∧ 0 ≤ Md j ∧ Md j < p) ∧ ∀ j, 364 ≤ j → j < 400 → Md j = 0
def QB (i : Int) : Prop := 0 ≤ i ∧ i ≤ N ∧ (endR n p N (runR n p T np N.toNat)).1 = -20 - i ∧ (i < N → T i ≠ 32)
/-- in the number of a term that begins at f -/
def QD (V : Vc) (g f a v h : Int) : Prop := (0 ≤ f ∧ f ≤ a ∧ a ≤ N ∧ (f < N → T f ≠ 32)) ∧ (0 ≤ v ∧ v ≤ 9999) ∧ ((∃ s b, (s = 1 ∨ (s = 0 ∧ (f < N → T f ≠ 45))) ∧ runR n p T np f.toNat = (-1, (s, g, 1, b, 0, 0), V) ∧ a = f ∧ ((h = 0 ∧ v = 1 ∧ ¬ (f < N ∧ dg (T f))) ∨ (h = 1 ∧ v = 0 ∧ f < N ∧ dg (T f)))) ∨ (h = 1 ∧ v ≤ 999 ∧ runR n p T np a.toNat = (-1, (2, g, v, f, 0, 0), V)) ∨ (h = 1 ∧ 999 < v ∧ (endR n p N (runR n p T np N.toNat)).1 = -20 - f))
/-- in the letters of a term -/
def QT (V : Vc) (g b h v d w : Int) : Prop := (0 ≤ b ∧ b ≤ N ∧ (b < N → T b ≠ 32)) ∧ (0 ≤ v ∧ v ≤ 999) ∧ (0 ≤ d ∧ d ≤ Lg n ∧ 0 ≤ w ∧ w < pw n d) ∧ ∃ s a, runR n p T np b.toNat = (-1, (s, g, v, a, d, w), V) ∧ ((h = 0 ∧ d = 0 ∧ (s = 1 ∨ (s = 0 ∧ (b < N → T b ≠ 45))) ∧ (b < N → ¬ dg (T b))) ∨ (2 ≤ s ∧ (h = 1 ∨ 1 ≤ d) ∧ (s = 2 → b < N → ¬ dg (T b))))
end
section
variable {n p np N g f a b v h d w : Int} {T : Int → Int} {V : Vc}
theorem QD_s (H : QD n p T np N V g f a v h) (ha : a < N) (hd : dg (T a)) : QD n p T np N V g f (a + 1) (if v > 999 then v else 10 * v + T a - 48) h := by
  obtain ⟨⟨f0, fa, aN, f32⟩, ⟨v0, v1⟩, H⟩ := H
  have hd2 := hd
  obtain ⟨d0, d1⟩ := hd
  rcases H with ⟨s, b, hs, hQ, rfl, ⟨-, -, hz⟩ | ⟨h1, rfl, -, -⟩⟩ | ⟨h1, v9, hQ⟩ | ⟨h1, v9, hE⟩
  · exact absurd ⟨ha, hd2⟩ hz
  · refine ⟨⟨f0, by omega, by omega, f32⟩, ?_, Or.inr (Or.inl ⟨h1, ?_, ?_⟩)⟩
    · rw [if_neg (by omega)]; omega
    · rw [if_neg (by omega)]; omega
    · rw [if_neg (by omega), q_dig1 f0 hQ (by omega) hd2, show 10 * 0 + T a - 48 = T a - 48 by omega]
  · have e := q_dig2 (by omega) hQ hd2
    rw [if_neg (by omega)]
    refine ⟨⟨f0, by omega, by omega, f32⟩, by omega, Or.inr ?_⟩
    by_cases z : v * 10 + (T a - 48) > 999
    · right
      rw [if_pos z] at e
      refine ⟨h1, by omega, q_fault (i := a + 1) (by omega) (by omega) f (by omega) ?_⟩
      rw [e]
    · left
      rw [if_neg z] at e
      refine ⟨h1, by omega, ?_⟩
      rw [e, show v * 10 + (T a - 48) = 10 * v + T a - 48 by omega]
  · rw [if_pos v9]
    exact ⟨⟨f0, by omega, by omega, f32⟩, ⟨v0, v1⟩, Or.inr (Or.inr ⟨h1, v9, hE⟩)⟩
theorem QD_x (n1 : 1 ≤ n) (H : QD n p T np N V g f a v h) (hx : a < N → ¬ dg (T a)) (v9 : v ≤ 999) (hb : a ≤ b) (bN : b ≤ N) (hsp : ∀ k, a ≤ k → k < b → T k = 32) (b32 : b < N → T b ≠ 32) : QT n p T np N V g b h v 0 0 := by
  obtain ⟨⟨f0, fa, aN, f32⟩, ⟨v0, v1⟩, H⟩ := H
  have hLB := Lg_B n
  have hp0 : (0 : Int) < pw n 0 := by rw [pw_0]; decide
  refine ⟨⟨by omega, bN, b32⟩, ⟨v0, v9⟩, ⟨by omega, by omega, by omega, hp0⟩, ?_⟩
  rcases H with ⟨s, b', hs, hQ, rfl, ⟨h0, rfl, hz⟩ | ⟨h1, rfl, hN, hdd⟩⟩ | ⟨h1, v9, hQ⟩ | ⟨h1, v9, hE⟩
  · have e : b = a := by
      rcases (show b = a ∨ a < b by omega) with q | q
      · exact q
      · exact absurd (hsp a (by omega) q) (f32 (by omega))
    subst e
    exact ⟨s, b', hQ, Or.inl ⟨h0, rfl, hs, fun z y => hz ⟨z, y⟩⟩⟩
  · exact absurd hdd (hx hN)
  · rcases (show b = a ∨ a < b by omega) with q | q
    · subst q
      exact ⟨2, f, hQ, Or.inr ⟨by omega, Or.inl h1, fun _ => hx⟩⟩
    · exact ⟨3, f, q_sps2 (by omega) q hsp hQ, Or.inr ⟨by omega, Or.inl h1, fun z => by omega⟩⟩
  · omega
theorem QT_s {b2 : Int} (n1 : 1 ≤ n) (n2 : n ≤ 3) (H : QT n p T np N V g b h v d w) (hN : b < N) (t0 : 97 ≤ T b) (t1 : T b ≤ 97 + n - 1) (hd : d ≠ Lg n) (hb : b + 1 ≤ b2) (bN : b2 ≤ N) (hsp : ∀ k, b + 1 ≤ k → k < b2 → T k = 32) (b32 : b2 < N → T b2 ≠ 32) : QT n p T np N V g b2 h v (d + 1) (n * w + T b - 97) := by
  obtain ⟨⟨b0, -, -⟩, hv, ⟨d0, d1, w0, w1⟩, s, a, hQ, -⟩ := H
  have e := q_let b0 hQ n2 t0 t1 (by omega)
  have e2 := q_sps (by omega) hb hsp e (by decide)
  have hw : n * w + T b - 97 < pw n (d + 1) := by
    rw [pw_s d0]
    have : (w + 1) * n ≤ pw n d * n := Int.mul_le_mul_of_nonneg_right (by omega) (by omega)
    rw [Int.add_mul, Int.one_mul, Int.mul_comm w n] at this
    omega
  have hw0 : 0 ≤ n * w := Int.mul_nonneg (by omega) w0
  refine ⟨⟨by omega, bN, b32⟩, hv, ⟨by omega, by omega, by omega, hw⟩, 4, a, ?_, Or.inr ⟨by omega, Or.inr (by omega), fun z => by omega⟩⟩
  rw [e2, show n * w + (T b - 97) = n * w + T b - 97 by omega]
theorem QT_long (n2 : n ≤ 3) (H : QT n p T np N V g b h v d w) (hN : b < N) (t0 : 97 ≤ T b) (t1 : T b ≤ 97 + n - 1) (hd : d = Lg n) : QB n p T np N b := by
  obtain ⟨⟨b0, bN, -⟩, hv, ⟨d0, d1, w0, w1⟩, s, a, hQ, -⟩ := H
  exact ⟨b0, bN, q_fault (i := b + 1) (by omega) (by omega) b (by omega) (q_letF b0 hQ n2 t0 t1 (by omega)), fun _ => by omega⟩
theorem QT_bad (H : QT n p T np N V g b h v d w) (hl : b < N → ¬ (97 ≤ T b ∧ T b ≤ 97 + n - 1)) (h0 : h = 0) (hd : d = 0) : QB n p T np N b := by
  obtain ⟨⟨b0, bN, b32⟩, hv, ⟨d0, d1, w0, w1⟩, s, a, hQ, hc⟩ := H
  rcases hc with ⟨-, -, hs, hdd⟩ | ⟨-, z, -⟩
  · refine ⟨b0, bN, ?_, b32⟩
    rcases (show b = N ∨ b < N by omega) with q | q
    · subst q
      exact q_needs hQ (by omega)
    · exact q_fault (i := b + 1) (by omega) (by omega) b (by omega) (q_bad b0 hQ (hl q) (b32 q) (hdd q) (hs.imp (fun z => z) (fun z => ⟨z.1, z.2 q⟩)))
  · omega
theorem QT_end {Md Md2 : Int → Int} (hp : 2 ≤ p) (n1 : 1 ≤ n) (n2 : n ≤ 3) (hg : g = 1 ∨ g = -1) (H : QT n p T np N V g b h v d w) (hl : b < N → ¬ (97 ≤ T b ∧ T b ≤ 97 + n - 1)) (h0 : h = 1 ∨ d ≠ 0) (hM : ∀ j, 0 ≤ j → j < 364 → Md j = V j ∧ 0 ≤ V j ∧ V j < p) (hM2 : ∀ j, 364 ≤ j → j < 400 → Md j = 0) (hMd : ∀ j, Md2 j = if j = wsm n d + w then (Md (wsm n d + w) + g * (v % p) + p) % p else Md j) : QE n p T np N b Md2 := by
  obtain ⟨⟨b0, bN, b32⟩, hv, ⟨d0, d1, w0, w1⟩, s, a, hQ, hc⟩ := H
  have hB := sz_B n1 n2 d0 d1
  rcases hc with ⟨hh, z, -, -⟩ | ⟨hs, -, hdd⟩
  · exfalso; omega
  · refine ⟨b0, bN, fun z => ⟨b32 z, hl z⟩, ⟨s, g, v, a, d, w, V, hQ, hs, hdd, fun j j0 j1 => ?_⟩, fun j j0 j1 => ?_⟩
    · rw [hMd j]
      unfold closeV
      dsimp only
      by_cases q : j = wsm n d + w
      · rw [if_pos q, if_pos q]
        refine ⟨?_, emod_in hp⟩
        rw [← q, (hM j j0 j1).1]
        refine cg_em hp ?_
        refine cg_tr (cg_add (cg_add (cg_rf p _) (cg_mulL g (cg_mod p v))) (cg_p p)) (cg_eq (by omega))
      · rw [if_neg q, if_neg q, (hM j j0 j1).1]
        exact ⟨rfl, (hM j j0 j1).2⟩
    · rw [hMd j, if_neg (by omega)]
      exact hM2 j j0 j1
end
