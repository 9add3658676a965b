/-! ===== counts, and memory in closed form ===== -/
theorem ab_mem {K : AbK} {S : List AbS} {pc : Nat} {lv st : List AbV} {M M2 : AbM} (e : M = M2) (h : AJ K S pc lv st M2) : AJ K S pc lv st M := e ▸ h
theorem ab_lvs {K : AbK} {S : List AbS} {pc : Nat} {lv lv2 st : List AbV} {M : AbM} (e : lv = lv2) (h : AJ K S pc lv2 st M) : AJ K S pc lv st M := e ▸ h
theorem upA_ext {M : AbM} {k : Nat} {f g : Int → Int} (h : ∀ j, f j = g j) : upA M k f = upA M k g := by
  have : f = g := funext h
  rw [this]
theorem upA_id {M : AbM} {k : Nat} {f : Int → Int} (h : ∀ j, f j = M k j) : M = upA M k f := by
  have : f = M k := funext h
  rw [this, upA_self]
theorem Al.upA {M : AbM} {a k : Nat} {n p : Int} {f : Int → Int} (h : Al M a n p) (hk : k < a ∨ a + 3 < k) : Al (upA M k f) a n p := h.of (upA_row (by omega)) (upA_row (by omega)) (upA_row (by omega)) (upA_row (by omega))
theorem Al.up {M : AbM} {a k : Nat} {n p i x : Int} (h : Al M a n p) (hk : k < a ∨ a + 3 < k) : Al (up M k i x) a n p := h.of (up_row (by omega)) (up_row (by omega)) (up_row (by omega)) (up_row (by omega))
/-- how many of the numbers f 0 .. f (k - 1) are not 0 -/
def cntN (f : Int → Int) : Nat → Int
  | 0 => 0
  | k + 1 => cntN f k + (if f (k : Int) = 0 then 0 else 1)
def cntF (f : Int → Int) (N : Int) : Int := cntN f N.toNat
theorem cntF_0 (f : Int → Int) : cntF f 0 = 0 := rfl
theorem cntF_s {f : Int → Int} {i : Int} (h : 0 ≤ i) : cntF f (i + 1) = cntF f i + (if f i = 0 then 0 else 1) := by
  unfold cntF
  have : (i + 1).toNat = i.toNat + 1 := by omega
  rw [this]
  show cntN f i.toNat + (if f ((i.toNat : Nat) : Int) = 0 then 0 else 1) = _
  rw [show ((i.toNat : Nat) : Int) = i by omega]
theorem cntN_B (f : Int → Int) : ∀ k : Nat, 0 ≤ cntN f k ∧ cntN f k ≤ k
  | 0 => ⟨Int.le_refl 0, Int.le_refl 0⟩
  | k + 1 => by
    have := cntN_B f k
    show 0 ≤ cntN f k + _ ∧ cntN f k + _ ≤ _
    split <;> omega
theorem cntF_B {f : Int → Int} {N : Int} (h : 0 ≤ N) : 0 ≤ cntF f N ∧ cntF f N ≤ N := by
  have := cntN_B f N.toNat
  unfold cntF
  omega
theorem cntN_0 (f : Int → Int) : ∀ k : Nat, cntN f k = 0 ↔ ∀ i : Int, 0 ≤ i → i < k → f i = 0
  | 0 => ⟨fun _ i h1 h2 => by omega, fun _ => rfl⟩
  | k + 1 => by
    have ih := cntN_0 f k
    have hB := cntN_B f k
    have e : cntN f (k + 1) = cntN f k + (if f (k : Int) = 0 then 0 else 1) := rfl
    constructor
    · intro h i h1 h2
      rw [e] at h
      have h3 : f (k : Int) = 0 := by
        by_cases q : f (k : Int) = 0
        · exact q
        · rw [if_neg q] at h; omega
      rw [if_pos h3] at h
      rcases (show i < k ∨ i = k by omega) with q | q
      · exact ih.mp (by omega) i h1 q
      · rw [q]; exact h3
    · intro h
      rw [e, if_pos (h k (by omega) (by omega)), ih.mpr (fun i h1 h2 => h i h1 (by omega))]
      rfl
theorem cntF_eq0 {f : Int → Int} {N : Int} (h : 0 ≤ N) : cntF f N = 0 ↔ ∀ i : Int, 0 ≤ i → i < N → f i = 0 := by
  unfold cntF
  rw [cntN_0]
  constructor
  · intro q i a b; exact q i a (by omega)
  · intro q i a b; exact q i a (by omega)
theorem cntF_congr {f g : Int → Int} {N : Int} (h : ∀ i, 0 ≤ i → i < N → (f i = 0 ↔ g i = 0)) : cntF f N = cntF g N := by
  have key : ∀ k : Nat, (∀ i : Int, 0 ≤ i → i < k → (f i = 0 ↔ g i = 0)) → cntN f k = cntN g k := by
    intro k
    induction k with
    | zero => intro _; rfl
    | succ k ih =>
      intro hk
      show cntN f k + _ = cntN g k + _
      rw [ih (fun i a b => hk i a (by omega))]
      have := hk k (by omega) (by omega)
      by_cases q : f (k : Int) = 0
      · rw [if_pos q, if_pos (this.mp q)]
      · rw [if_neg q, if_neg (fun z => q (this.mpr z))]
  unfold cntF
  exact key _ (fun i a b => h i a (by omega))
