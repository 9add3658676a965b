/-! ===== the other side: rows in full ===== -/
def sqsum (n : Int) : Nat → Int
  | 0 => 0
  | k + 1 => sqsum n k + n ^ k * n ^ k
def sqm (n d : Int) : Int := sqsum n d.toNat
theorem sqm_0 (n : Int) : sqm n 0 = 0 := rfl
theorem sqm_s {n d : Int} (h : 0 ≤ d) : sqm n (d + 1) = sqm n d + pw n d * pw n d := by
  unfold sqm pw
  have : (d + 1).toNat = d.toNat + 1 := by omega
  rw [this]; rfl
theorem sq_B {n d : Int} (h1 : 1 ≤ n) (h2 : n ≤ 3) (h3 : 0 ≤ d) (h4 : d ≤ Lg n) : 0 ≤ sqm n d ∧ sqm n d + pw n d * pw n d ≤ 70000 ∧ wsm n d + pw n d ≤ 364 ∧ pw n d * pw n d ≤ 60000 ∧ 0 ≤ pw n d * pw n d := by
  have hn : n = 1 ∨ n = 2 ∨ n = 3 := by omega
  rcases hn with rfl | rfl | rfl
  · have hd : d = 0 ∨ d = 1 ∨ d = 2 ∨ d = 3 ∨ d = 4 ∨ d = 5 ∨ d = 6 ∨ d = 7 ∨ d = 8 := by have : Lg 1 = 8 := rfl; omega
    rcases hd with rfl | rfl | rfl | rfl | rfl | rfl | rfl | rfl | rfl <;> decide +kernel
  · have hd : d = 0 ∨ d = 1 ∨ d = 2 ∨ d = 3 ∨ d = 4 ∨ d = 5 ∨ d = 6 ∨ d = 7 := by have : Lg 2 = 7 := rfl; omega
    rcases hd with rfl | rfl | rfl | rfl | rfl | rfl | rfl | rfl <;> decide +kernel
  · have hd : d = 0 ∨ d = 1 ∨ d = 2 ∨ d = 3 ∨ d = 4 ∨ d = 5 := by have : Lg 3 = 5 := rfl; omega
    rcases hd with rfl | rfl | rfl | rfl | rfl | rfl <;> decide +kernel
def MoA (M : AbM) (m : Nat) (n p : Int) : Prop := (1 ≤ n ∧ n ≤ 3 ∧ Pr p) ∧ M m 0 = n ∧ M m 1 = p ∧ M m 2 = Lg n ∧ ∀ d, 0 ≤ d → d ≤ Lg n → M (m + 1) d = pw n d ∧ M (m + 2) d = wsm n d ∧ M (m + 3) d = sqm n d
def shMo (S : List AbS) (m : Nat) : Prop := S[m]? = some (sO 9 [none, none, none, some (m + 1), some (m + 2), some (m + 3), none, some (m + 4), some (m + 5), some (m + 6), some (m + 7), none, none, none, none, some (m + 8), some (m + 9), some (m + 10), some (m + 11), some (m + 12), some (m + 13), some (m + 14), some (m + 15), some (m + 16), some (m + 17), some (m + 18)]) ∧ S[m + 1]? = some (sA 0 10) ∧ S[m + 2]? = some (sA 0 10) ∧ S[m + 3]? = some (sA 0 10) ∧ S[m + 4]? = some (sA 0 8) ∧ S[m + 5]? = some (sA 0 648) ∧ S[m + 6]? = some (sA 0 400) ∧ S[m + 7]? = some (sA 0 80) ∧ S[m + 8]? = some (sA 0 70000) ∧ S[m + 9]? = some (sA 1 400) ∧ S[m + 10]? = some (sA 0 70000) ∧ S[m + 11]? = some (sA 1 400) ∧ S[m + 12]? = some (sA 0 243) ∧ S[m + 13]? = some (sA 0 6561) ∧ S[m + 14]? = some (sA 1 81) ∧ S[m + 15]? = some (sA 0 400) ∧ S[m + 16]? = some (sA 0 4) ∧ S[m + 17]? = some (sA 0 4) ∧ S[m + 18]? = some (sA 0 360)
theorem same.moA {ps : List Nat} {M M2 : AbM} {m : Nat} {n p : Int} (h : same ps M M2) (hA : MoA M m n p) (hp : ∀ k ∈ ps, k < m ∨ m + 3 < k) : MoA M2 m n p := by
  unfold MoA at *
  rw [h m (fun z => by have := hp m z; omega), h (m + 1) (fun z => by have := hp _ z; omega), h (m + 2) (fun z => by have := hp _ z; omega), h (m + 3) (fun z => by have := hp _ z; omega)]
  exact hA
/-- the number at x of the row of w -/
def rwq (n d : Int) (A : Int → Int) (w x : Int) : Int := A (sqm n d + w * pw n d + x)
theorem rwq_B {n d w x : Int} (h1 : 1 ≤ n) (h2 : n ≤ 3) (h3 : 0 ≤ d) (h4 : d ≤ Lg n) (w0 : 0 ≤ w) (w1 : w < pw n d) (x0 : 0 ≤ x) (x1 : x < pw n d) : 0 ≤ sqm n d ∧ 0 ≤ w * pw n d ∧ w * pw n d + x < pw n d * pw n d ∧ sqm n d + w * pw n d + x < 70000 := by
  have hB := sq_B h1 h2 h3 h4
  have a : 0 ≤ w * pw n d := Int.mul_nonneg w0 (by omega)
  have b : (w + 1) * pw n d ≤ pw n d * pw n d := Int.mul_le_mul_of_nonneg_right (by omega) (by omega)
  rw [Int.add_mul, Int.one_mul] at b
  omega
theorem rwq_un {P w x w2 x2 : Int} (x0 : 0 ≤ x) (x1 : x < P) (y0 : 0 ≤ x2) (y1 : x2 < P) (h : w * P + x = w2 * P + x2) : w = w2 ∧ x = x2 := blk_un x0 x1 y0 y1 h
/-- rows with a 1 at their greatest word -/
def EchOK (n p d : Int) (A Z : Int → Int) : Prop := ∀ w, 0 ≤ w → w < pw n d → (ldq n d Z w = 0 ∨ ldq n d Z w = 1) ∧ (ldq n d Z w ≠ 0 → rwq n d A w w = 1 ∧ ∀ x, 0 ≤ x → x < pw n d → 0 ≤ rwq n d A w x ∧ rwq n d A w x < p ∧ (w < x → rwq n d A w x = 0))
def rvV (n d : Int) (A : Int → Int) (w : Int) : Vc := fun i => if 0 ≤ i ∧ i < pw n d then rwq n d A w i else 0
def qvV (P : Int) (q : Int → Int) : Vc := fun i => if 0 ≤ i ∧ i < P then q i else 0
def RowsIn (n d : Int) (A Z : Int → Int) (V : Vc → Prop) : Prop := ∀ w, 0 ≤ w → w < pw n d → ldq n d Z w ≠ 0 → V (rvV n d A w)
/-- q less v times the row of w -/
theorem elim_in {p P v : Int} {V : Vc → Prop} {q q2 R : Int → Int} (hV : SubV p P V) (hR : V (qvV P R)) (h : ∀ i, 0 ≤ i → i < P → cg p (q2 i) (q i - v * R i)) : V (qvV P q2) ↔ V (qvV P q) := by
  constructor
  · intro h2
    refine hV.2.2.2 _ _ (hV.2.1 _ _ h2 (hV.2.2.1 v _ hR)) (fun i i0 i1 => ?_)
    unfold qvV
    rw [if_pos ⟨i0, i1⟩, if_pos ⟨i0, i1⟩, if_pos ⟨i0, i1⟩]
    have := cg_add (h i i0 i1) (cg_rf p (v * R i))
    exact cg_tr this (cg_eq (by omega))
  · intro h2
    refine hV.2.2.2 _ _ (hV.sub h2 (hV.2.2.1 v _ hR)) (fun i i0 i1 => ?_)
    unfold qvV
    rw [if_pos ⟨i0, i1⟩, if_pos ⟨i0, i1⟩, if_pos ⟨i0, i1⟩]
    exact cg_sy (h i i0 i1)
theorem cg_pv (p a v r : Int) : cg p (a + (p - v) * r) (a - v * r) := by
  have h : cg p ((p - v) * r) ((0 - v) * r) := cg_mul (cg_sub (cg_p p) (cg_rf p v)) (cg_rf p r)
  refine cg_tr (cg_add (cg_rf p a) h) (cg_eq ?_)
  rw [Int.zero_sub, Int.neg_mul]
  omega
