/-! ===== spaces of rows by rests of p; systems that reduce words ===== -/
def cg (p a b : Int) : Prop := ∃ k, a - b = p * k
theorem cg_rf (p a : Int) : cg p a a := ⟨0, by rw [Int.mul_zero]; omega⟩
theorem cg_eq {p a b : Int} (h : a = b) : cg p a b := h ▸ cg_rf p a
theorem cg_sy {p a b : Int} (h : cg p a b) : cg p b a := by
  obtain ⟨k, hk⟩ := h
  exact ⟨-k, by rw [Int.mul_neg]; omega⟩
theorem cg_tr {p a b c : Int} (h : cg p a b) (h2 : cg p b c) : cg p a c := by
  obtain ⟨k, hk⟩ := h
  obtain ⟨j, hj⟩ := h2
  exact ⟨k + j, by rw [Int.mul_add]; omega⟩
theorem cg_add {p a b c d : Int} (h : cg p a b) (h2 : cg p c d) : cg p (a + c) (b + d) := by
  obtain ⟨k, hk⟩ := h
  obtain ⟨j, hj⟩ := h2
  exact ⟨k + j, by rw [Int.mul_add]; omega⟩
theorem cg_sub {p a b c d : Int} (h : cg p a b) (h2 : cg p c d) : cg p (a - c) (b - d) := by
  obtain ⟨k, hk⟩ := h
  obtain ⟨j, hj⟩ := h2
  exact ⟨k - j, by rw [Int.mul_sub]; omega⟩
theorem cg_mulL {p a b : Int} (c : Int) (h : cg p a b) : cg p (c * a) (c * b) := by
  obtain ⟨k, hk⟩ := h
  exact ⟨c * k, by rw [← Int.mul_sub, hk, Int.mul_left_comm]⟩
theorem cg_mul {p a b c d : Int} (h : cg p a b) (h2 : cg p c d) : cg p (a * c) (b * d) :=
  cg_tr (cg_mulL a h2) (by rw [Int.mul_comm a d, Int.mul_comm b d]; exact cg_mulL d h)
theorem cg_mod (p a : Int) : cg p (a % p) a := ⟨-(a / p), by have := Int.mul_ediv_add_emod a p; rw [Int.mul_neg]; omega⟩
theorem cg_0 {p a : Int} (h : cg p a 0) : a % p = 0 := by
  obtain ⟨k, hk⟩ := h
  have : a = p * k := by omega
  rw [this]
  exact Int.mul_emod_right p k
theorem cg_of0 {p a : Int} (h : a % p = 0) : cg p a 0 := by
  have h1 := cg_mod p a
  rw [h] at h1
  exact cg_sy h1
theorem cg_in {p a b : Int} (h : cg p a b) (a0 : 0 ≤ a) (a1 : a < p) (b0 : 0 ≤ b) (b1 : b < p) : a = b := by
  obtain ⟨k, hk⟩ := h
  have hp : 0 < p := by omega
  rcases (show k ≤ -1 ∨ k = 0 ∨ 1 ≤ k by omega) with q | q | q
  · have : p * k ≤ p * (-1) := Int.mul_le_mul_of_nonneg_left q (by omega)
    omega
  · subst q
    rw [Int.mul_zero] at hk
    omega
  · have : p * 1 ≤ p * k := Int.mul_le_mul_of_nonneg_left q (by omega)
    omega
theorem cg_p (p : Int) : cg p p 0 := ⟨1, by rw [Int.mul_one]; omega⟩
theorem sum_cg {p N : Int} {f g : Int → Int} (h : ∀ i, 0 ≤ i → i < N → cg p (f i) (g i)) : cg p (sumF f N) (sumF g N) := by
  have key : ∀ k : Nat, (∀ i : Int, 0 ≤ i → i < k → cg p (f i) (g i)) → cg p (sumN f k) (sumN g k) := by
    intro k
    induction k with
    | zero => intro _; exact cg_rf p 0
    | succ k ih => intro hk; exact cg_add (ih (fun i a b => hk i a (by omega))) (hk k (by omega) (by omega))
  unfold sumF
  exact key _ (fun i a b => h i a (by omega))
theorem sum_sub {N : Int} (f g : Int → Int) : sumF (fun i => f i - g i) N = sumF f N - sumF g N := by
  have key : ∀ k : Nat, sumN (fun i => f i - g i) k = sumN f k - sumN g k := by
    intro k
    induction k with
    | zero => rfl
    | succ k ih =>
      show sumN (fun i => f i - g i) k + (f k - g k) = (sumN f k + f k) - (sumN g k + g k)
      rw [ih]; omega
  exact key _
theorem sum_add {N : Int} (f g : Int → Int) : sumF (fun i => f i + g i) N = sumF f N + sumF g N := by
  have key : ∀ k : Nat, sumN (fun i => f i + g i) k = sumN f k + sumN g k := by
    intro k
    induction k with
    | zero => rfl
    | succ k ih =>
      show sumN (fun i => f i + g i) k + (f k + g k) = (sumN f k + f k) + (sumN g k + g k)
      rw [ih]; omega
  exact key _
theorem sum_mulR {N : Int} (f : Int → Int) (c : Int) : sumF (fun i => f i * c) N = sumF f N * c := by
  have key : ∀ k : Nat, sumN (fun i => f i * c) k = sumN f k * c := by
    intro k
    induction k with
    | zero => exact (Int.zero_mul c).symm
    | succ k ih =>
      show sumN (fun i => f i * c) k + f k * c = (sumN f k + f k) * c
      rw [ih, Int.add_mul]
  exact key _
theorem sum_mulL {N : Int} (f : Int → Int) (c : Int) : sumF (fun i => c * f i) N = c * sumF f N := by
  rw [sumF_congr (g := fun i => f i * c) (fun i _ _ => Int.mul_comm _ _), sum_mulR, Int.mul_comm]
theorem sum_zero {N : Int} {f : Int → Int} (h : ∀ i, 0 ≤ i → i < N → f i = 0) : sumF f N = 0 := by
  rw [sumF_congr (g := fun i => 0 * f i) (fun i a b => by rw [h i a b]; rfl), sum_mulL, Int.zero_mul]
/-- one term alone -/
theorem sum_one {N k : Int} {f : Int → Int} (h0 : 0 ≤ k) (h1 : k < N) (h : ∀ i, 0 ≤ i → i < N → i ≠ k → f i = 0) : sumF f N = f k := by
  have key : ∀ m : Nat, (∀ i : Int, 0 ≤ i → i < m → i ≠ k → f i = 0) → sumN f m = if k < m then f k else 0 := by
    intro m
    induction m with
    | zero => intro _; rw [if_neg (by omega)]; rfl
    | succ m ih =>
      intro hm
      show sumN f m + f m = _
      rw [ih (fun i a b c => hm i a (by omega) c)]
      rcases (show (m : Int) < k ∨ (m : Int) = k ∨ k < m by omega) with q | q | q
      · rw [if_neg (by omega), if_neg (by omega), hm m (by omega) (by omega) (by omega)]; rfl
      · rw [if_neg (by omega), if_pos (by omega), q]; omega
      · rw [if_pos q, if_pos (by omega), hm m (by omega) (by omega) (by omega)]; omega
  have := key N.toNat (fun i a b c => h i a (by omega) c)
  unfold sumF
  rw [this, if_pos (by omega)]
abbrev Vc : Type := Int → Int
def dl (w : Int) : Vc := fun i => if i = w then 1 else 0
theorem dl_s (w : Int) : dl w w = 1 := if_pos rfl
theorem dl_n {w i : Int} (h : i ≠ w) : dl w i = 0 := if_neg h
theorem sum_dl {N k : Int} (x : Vc) (h0 : 0 ≤ k) (h1 : k < N) : sumF (fun w => x w * dl w k) N = x k := by
  rw [sum_one h0 h1 (fun i _ _ c => by rw [dl_n (fun e => c e.symm), Int.mul_zero]), dl_s, Int.mul_one]
/-- a space of rows of P numbers, by rests of p -/
def SubV (p P : Int) (V : Vc → Prop) : Prop := V (fun _ => 0) ∧ (∀ x y, V x → V y → V (fun i => x i + y i)) ∧ (∀ c x, V x → V (fun i => c * x i)) ∧ (∀ x y, V x → (∀ i, 0 ≤ i → i < P → cg p (x i) (y i)) → V y)
theorem SubV.sub {p P : Int} {V : Vc → Prop} (h : SubV p P V) {x y : Vc} (hx : V x) (hy : V y) : V (fun i => x i - y i) := by
  have h1 := h.2.1 _ _ hx (h.2.2.1 (-1) _ hy)
  exact h.2.2.2 _ _ h1 (fun i _ _ => cg_eq (by omega))
theorem SubV.sum {p P : Int} {V : Vc → Prop} (h : SubV p P V) {r : Int → Vc} {x : Int → Int} {N : Int} (hr : ∀ w, 0 ≤ w → w < N → x w = 0 ∨ V (r w)) : V (fun i => sumF (fun w => x w * r w i) N) := by
  have key : ∀ k : Nat, (∀ w : Int, 0 ≤ w → w < k → x w = 0 ∨ V (r w)) → V (fun i => sumN (fun w => x w * r w i) k) := by
    intro k
    induction k with
    | zero => intro _; exact h.1
    | succ k ih =>
      intro hk
      have h1 := ih (fun w a b => hk w a (by omega))
      rcases hk k (by omega) (by omega) with h2 | h2
      · refine h.2.2.2 _ _ h1 (fun i _ _ => cg_eq ?_)
        show _ = sumN (fun w => x w * r w i) k + x k * r k i
        rw [h2, Int.zero_mul, Int.add_zero]
      · exact h.2.1 _ _ h1 (h.2.2.1 (x k) _ h2)
  exact key _ (fun w a b => hr w a (by omega))
/-- a system: which words below u lead; each word reduced to words that don't -/
def Sys (p u : Int) (L : Int → Int) (ρ : Int → Vc) : Prop := ∀ w, 0 ≤ w → w < u → (L w = 0 ∨ L w = 1) ∧ (L w = 0 → ∀ v, ρ w v = dl w v) ∧ (L w ≠ 0 → ∀ v, 0 ≤ ρ w v ∧ ρ w v < p ∧ (ρ w v ≠ 0 → 0 ≤ v ∧ v < w ∧ L v = 0))
def rowV (ρ : Int → Vc) (w : Int) : Vc := fun i => dl w i - ρ w i
def redV (ρ : Int → Vc) (u : Int) (x : Vc) : Vc := fun v => sumF (fun w => x w * ρ w v) u
theorem Sys.hi {p u : Int} {L : Int → Int} {ρ : Int → Vc} (h : Sys p u L ρ) {w v : Int} (w0 : 0 ≤ w) (w1 : w < u) (hv : w < v) : ρ w v = 0 := by
  obtain ⟨a, b, c⟩ := h w w0 w1
  rcases a with a | a
  · rw [b a, dl_n (by omega)]
  · by_cases q : ρ w v = 0
    · exact q
    · have := (c (by omega) v).2.2 q
      omega
/-- what a row is reduced by lies in each space with the system's rows -/
theorem red_in {p P u : Int} {V : Vc → Prop} {ρ : Int → Vc} (hV : SubV p P V) {x : Vc} (hr : ∀ w, 0 ≤ w → w < u → x w = 0 ∨ V (rowV ρ w)) : V (fun i => (if 0 ≤ i ∧ i < u then x i else 0) - redV ρ u x i) := by
  have h1 := hV.sum (r := rowV ρ) (x := x) (N := u) hr
  refine hV.2.2.2 _ _ h1 (fun i _ _ => cg_eq ?_)
  have e : sumF (fun w => x w * rowV ρ w i) u = sumF (fun w => x w * dl w i - x w * ρ w i) u := sumF_congr (fun w _ _ => by unfold rowV; rw [Int.mul_sub])
  rw [e, sum_sub]
  unfold redV
  congr 1
  by_cases q : 0 ≤ i ∧ i < u
  · rw [if_pos q, sum_dl x q.1 q.2]
  · rw [if_neg q]
    exact sum_zero (fun w a b => by rw [dl_n (by omega), Int.mul_zero])
theorem red_cg {p u v : Int} {ρ : Int → Vc} {x y : Vc} (h : ∀ w, 0 ≤ w → w < u → cg p (x w) (y w)) : cg p (redV ρ u x v) (redV ρ u y v) := sum_cg (fun w a b => cg_mul (h w a b) (cg_rf p _))
