/-! ===== how a length follows from the one before ===== -/
theorem sum_split {f : Int → Int} {a m : Int} (a0 : 0 ≤ a) (m0 : 0 ≤ m) : sumF f (a + m) = sumF f a + sumF (fun s => f (a + s)) m := by
  have key : ∀ k : Nat, sumF f (a + k) = sumF f a + sumF (fun s => f (a + s)) k := by
    intro k
    induction k with
    | zero => rw [show ((0 : Nat) : Int) = 0 from rfl, Int.add_zero, sumF_0, Int.add_zero]
    | succ k ih =>
      rw [show ((k + 1 : Nat) : Int) = (k : Int) + 1 from rfl, ← Int.add_assoc, sumF_s (by omega), sumF_s (by omega), ih]
      omega
  have := key m.toNat
  rwa [show ((m.toNat : Nat) : Int) = m by omega] at this
theorem sum_ext {f : Int → Int} {a b : Int} (a0 : 0 ≤ a) (h : a ≤ b) (hz : ∀ i, a ≤ i → i < b → f i = 0) : sumF f b = sumF f a := by
  have := sum_split (f := f) (m := b - a) a0 (by omega)
  rw [show a + (b - a) = b by omega] at this
  have h2 : sumF (fun s => f (a + s)) (b - a) = 0 := sum_zero (fun i i0 i1 => hz _ (by omega) (by omega))
  rw [this, h2, Int.add_zero]
def ahd (Q c : Int) (x : Vc) : Vc := fun i => if c * Q ≤ i ∧ i < c * Q + Q then x (i - c * Q) else 0
def bhd (n c : Int) (x : Vc) : Vc := fun i => if i % n = c then x (i / n) else 0
theorem red_ahd {ρ : Int → Vc} {Q c u m v : Int} {x : Vc} (c0 : 0 ≤ c) (m0 : 0 ≤ m) (m1 : m ≤ Q) (hu : c * Q + m ≤ u) (hx : ∀ s, m ≤ s → s < Q → c * Q + s < u → x s = 0) : redV ρ u (ahd Q c x) v = sumF (fun s => x s * ρ (c * Q + s) v) m := by
  unfold redV
  have q0 : 0 ≤ c * Q := Int.mul_nonneg c0 (by omega)
  rw [sum_ext (a := c * Q + m) (by omega) hu (fun i a b => ?_), sum_split q0 m0, sum_zero (fun i a b => ?_), Int.zero_add]
  · refine sumF_congr (fun s a b => ?_)
    unfold ahd
    rw [if_pos ⟨by omega, by omega⟩, show c * Q + s - c * Q = s by omega]
  · unfold ahd
    rw [if_neg (by omega), Int.zero_mul]
  · unfold ahd
    by_cases q : c * Q ≤ i ∧ i < c * Q + Q
    · rw [if_pos q, hx (i - c * Q) (by omega) (by omega) (by omega), Int.zero_mul]
    · rw [if_neg q, Int.zero_mul]
theorem mod_blk {n s j : Int} (h0 : 0 ≤ j) (h1 : j < n) : (s * n + j) % n = j ∧ (s * n + j) / n = s := by
  constructor
  · rw [Int.add_comm, Int.add_mul_emod_self_right, emod_id h0 h1]
  · rw [Int.add_comm, Int.add_mul_ediv_right _ _ (by omega), Int.ediv_eq_zero_of_lt h0 h1, Int.zero_add]
theorem sum_blk {n c : Int} {x : Vc} {h : Int → Int} (n1 : 1 ≤ n) (c0 : 0 ≤ c) (c1 : c < n) (m : Int) (m0 : 0 ≤ m) : sumF (fun w => bhd n c x w * h w) (m * n) = sumF (fun s => x s * h (s * n + c)) m := by
  have key : ∀ k : Nat, sumF (fun w => bhd n c x w * h w) ((k : Int) * n) = sumF (fun s => x s * h (s * n + c)) k := by
    intro k
    induction k with
    | zero => rw [show ((0 : Nat) : Int) = 0 from rfl, Int.zero_mul]; rfl
    | succ k ih =>
      have k0 : 0 ≤ (k : Int) * n := Int.mul_nonneg (by omega) (by omega)
      rw [show ((k + 1 : Nat) : Int) = (k : Int) + 1 from rfl, Int.add_mul, Int.one_mul, sum_split k0 (by omega), ih, sumF_s (by omega)]
      congr 1
      rw [sum_one c0 c1 (fun i a b z => ?_)]
      · unfold bhd
        rw [(mod_blk c0 c1).1, if_pos rfl, (mod_blk c0 c1).2]
      · unfold bhd
        rw [(mod_blk a b).1, if_neg z, Int.zero_mul]
  have := key m.toNat
  rwa [show ((m.toNat : Nat) : Int) = m by omega] at this
theorem red_bhd {ρ : Int → Vc} {n c u m v : Int} {x : Vc} (n1 : 1 ≤ n) (c0 : 0 ≤ c) (c1 : c < n) (m0 : 0 ≤ m) (u0 : 0 ≤ u) (hu : (m - 1) * n + c < u) (hx : ∀ s, m ≤ s → s * n + c < u → x s = 0) : redV ρ u (bhd n c x) v = sumF (fun s => x s * ρ (s * n + c) v) m := by
  rw [← sum_blk (h := fun w => ρ w v) n1 c0 c1 m m0]
  unfold redV
  have mn : 0 ≤ m * n := Int.mul_nonneg m0 (by omega)
  have hd : ∀ i : Int, i / n * n + i % n = i := fun i => by rw [Int.mul_comm]; exact Int.mul_ediv_add_emod i n
  have hr : ∀ i : Int, 0 ≤ i % n ∧ i % n < n := fun i => ⟨Int.emod_nonneg _ (by omega), Int.emod_lt_of_pos _ (by omega)⟩
  rw [Int.sub_mul, Int.one_mul] at hu
  rcases (show m * n ≤ u ∨ u < m * n by omega) with q | q
  · refine sum_ext mn q (fun i a b => ?_)
    unfold bhd
    by_cases z : i % n = c
    · have h1 := hd i
      have h2 : m ≤ i / n := Int.le_ediv_of_mul_le (by omega) a
      rw [if_pos z, hx (i / n) h2 (by omega), Int.zero_mul]
    · rw [if_neg z, Int.zero_mul]
  · refine (sum_ext u0 (by omega) (fun i a b => ?_)).symm
    unfold bhd
    rw [if_neg, Int.zero_mul]
    intro z
    have h1 := hd i
    have h2 : m - 1 ≤ i / n := Int.le_ediv_of_mul_le (by omega) (by rw [Int.sub_mul, Int.one_mul]; omega)
    have h3 : i / n < m := Int.ediv_lt_of_lt_mul (by omega) b
    have h4 : i / n = m - 1 := by omega
    rw [h4, Int.sub_mul, Int.one_mul] at h1
    omega
/-- V has all that follows from the length before, and the laws of this length -/
def InV (n Q : Int) (L' : Int → Int) (ρ' : Int → Vc) (Lw : Vc → Prop) (V : Vc → Prop) : Prop := (∀ c t, 0 ≤ c → c < n → 0 ≤ t → t < Q → L' t ≠ 0 → V (ahd Q c (rowV ρ' t)) ∧ V (bhd n c (rowV ρ' t))) ∧ ∀ x, Lw x → V x
/-- the rows of the words below u follow -/
def SpanOK (p n Q P u : Int) (L' : Int → Int) (ρ' : Int → Vc) (Lw : Vc → Prop) (ρ : Int → Vc) : Prop := ∀ V, SubV p P V → InV n Q L' ρ' Lw V → ∀ w, 0 ≤ w → w < u → V (rowV ρ w)
def nought (p u : Int) (ρ : Int → Vc) (x : Vc) : Prop := ∀ v, 0 ≤ v → v < u → cg p (redV ρ u x v) 0
/-- what follows at words below u is nought -/
def GenOK (p n Q u : Int) (L' : Int → Int) (ρ' : Int → Vc) (ρ : Int → Vc) : Prop := ∀ c t, 0 ≤ c → c < n → 0 ≤ t → t < Q → L' t ≠ 0 → (c * Q + t < u → nought p u ρ (ahd Q c (rowV ρ' t))) ∧ (t * n + c < u → nought p u ρ (bhd n c (rowV ρ' t)))
theorem red_top {p u : Int} {L : Int → Int} {ρ : Int → Vc} {x : Vc} (hS : Sys p u L ρ) {v : Int} (hv : u ≤ v) : redV ρ u x v = 0 := sum_zero (fun w a b => by rw [hS.hi a b (by omega), Int.mul_zero])
theorem red_s {u : Int} {ρ : Int → Vc} {x : Vc} {v : Int} (u0 : 0 ≤ u) : redV ρ (u + 1) x v = redV ρ u x v + x u * ρ u v := sumF_s u0
theorem gen_ext {p u : Int} {L : Int → Int} {ρ : Int → Vc} {x : Vc} (u0 : 0 ≤ u) (hS : Sys p u L ρ) (hx : x u = 0) (h : nought p u ρ x) : nought p (u + 1) ρ x := by
  intro v v0 v1
  rw [red_s u0, hx, Int.zero_mul, Int.add_zero]
  rcases (show v < u ∨ v = u by omega) with q | q
  · exact h v v0 q
  · rw [q, red_top hS (Int.le_refl u)]
    exact cg_rf p 0
theorem Sys.nl {p u : Int} {L : Int → Int} {ρ : Int → Vc} (hS : Sys p u L ρ) {w v : Int} (w0 : 0 ≤ w) (w1 : w < u) (hv : L v ≠ 0) : ρ w v = 0 := by
  obtain ⟨a, b, c⟩ := hS w w0 w1
  by_cases q : ρ w v = 0
  · exact q
  · exfalso
    rcases a with a | a
    · rw [b a] at q
      by_cases z : v = w
      · subst z; exact hv a
      · exact q (dl_n z)
    · exact hv ((c (by omega) v).2.2 q).2.2
theorem red_nl {p u : Int} {L : Int → Int} {ρ : Int → Vc} {x : Vc} (hS : Sys p u L ρ) {v : Int} (hv : L v ≠ 0) : redV ρ u x v = 0 := sum_zero (fun w a b => by rw [hS.nl a b hv, Int.mul_zero])
/-- a word that leads, by a row X with it as its greatest -/
theorem ext_row {p P u : Int} {L : Int → Int} {ρ : Int → Vc} {X : Vc} {V : Vc → Prop} (u0 : 0 ≤ u) (hS : Sys p u L ρ) (hV : SubV p P V) (hr : ∀ w, 0 ≤ w → w < u → V (rowV ρ w)) (hX : V X) (hX1 : X u = 1) (hX2 : ∀ i, u < i → i < P → X i = 0) (hρ : ∀ v, 0 ≤ v → v < u → cg p (ρ u v) (-redV ρ u X v)) (hρ2 : ∀ v, u ≤ v → ρ u v = 0) : V (rowV ρ u) := by
  have h1 := red_in (u := u) (x := X) hV (fun w a b => Or.inr (hr w a b))
  have h2 := hV.sub hX h1
  refine hV.2.2.2 _ _ h2 (fun i i0 i1 => ?_)
  unfold rowV
  rcases (show i < u ∨ i = u ∨ u < i by omega) with q | q | q
  · rw [if_pos ⟨i0, q⟩, dl_n (by omega)]
    have := cg_sub (cg_rf p 0) (hρ i i0 q)
    exact cg_tr (cg_eq (by omega)) (cg_sy this)
  · subst q
    rw [if_neg (by omega), red_top hS (Int.le_refl _), hX1, dl_s, hρ2 i (Int.le_refl _)]
    exact cg_eq (by omega)
  · rw [if_neg (by omega), red_top hS (by omega), hX2 i q i1, dl_n (by omega), hρ2 i (by omega)]
    exact cg_eq (by omega)
theorem ext_nought {p u : Int} {L : Int → Int} {ρ : Int → Vc} {X : Vc} (u0 : 0 ≤ u) (hS : Sys p u L ρ) (hX1 : X u = 1) (hρ : ∀ v, 0 ≤ v → v < u → cg p (ρ u v) (-redV ρ u X v)) (hρ2 : ∀ v, u ≤ v → ρ u v = 0) : nought p (u + 1) ρ X := by
  intro v v0 v1
  rw [red_s u0, hX1, Int.one_mul]
  rcases (show v < u ∨ v = u by omega) with q | q
  · have := cg_add (cg_rf p (redV ρ u X v)) (hρ v v0 q)
    exact cg_tr this (cg_eq (by omega))
  · rw [q, red_top hS (Int.le_refl u), hρ2 u (Int.le_refl u)]
    exact cg_rf p 0
/-- the rows that follow, at and above their greatest word -/
theorem row_hi {p u : Int} {L : Int → Int} {ρ : Int → Vc} (hS : Sys p u L ρ) {t s : Int} (t0 : 0 ≤ t) (t1 : t < u) (h : t < s) : rowV ρ t s = 0 := by
  unfold rowV
  rw [dl_n (by omega), hS.hi t0 t1 h]
  rfl
theorem row_top {p u : Int} {L : Int → Int} {ρ : Int → Vc} (hS : Sys p u L ρ) {t : Int} (t0 : 0 ≤ t) (t1 : t < u) (hL : L t ≠ 0) : rowV ρ t t = 1 := by
  unfold rowV
  have : ρ t t = 0 := by
    by_cases q : ρ t t = 0
    · exact q
    · have := ((hS t t0 t1).2.2 hL t).2.2 q
      omega
  rw [dl_s, this]
  rfl
theorem ahd_top {Q c t : Int} {x : Vc} (t0 : 0 ≤ t) (t1 : t < Q) : ahd Q c x (c * Q + t) = x t := by
  unfold ahd
  rw [if_pos ⟨by omega, by omega⟩, show c * Q + t - c * Q = t by omega]
theorem ahd_hi {Q c t i : Int} {x : Vc} (hx : ∀ s, t < s → x s = 0) (h : c * Q + t < i) : ahd Q c x i = 0 := by
  unfold ahd
  by_cases q : c * Q ≤ i ∧ i < c * Q + Q
  · rw [if_pos q, hx _ (by omega)]
  · rw [if_neg q]
theorem bhd_top {n c t : Int} {x : Vc} (c0 : 0 ≤ c) (c1 : c < n) : bhd n c x (t * n + c) = x t := by
  unfold bhd
  rw [(mod_blk c0 c1).1, if_pos rfl, (mod_blk c0 c1).2]
theorem bhd_hi {n c t i : Int} {x : Vc} (n1 : 1 ≤ n) (hx : ∀ s, t < s → x s = 0) (h : t * n + c < i) : bhd n c x i = 0 := by
  unfold bhd
  by_cases q : i % n = c
  · rw [if_pos q, hx]
    have h1 : i / n * n + i % n = i := by rw [Int.mul_comm]; exact Int.mul_ediv_add_emod i n
    rcases (show i / n ≤ t ∨ t < i / n by omega) with z | z
    · have : i / n * n ≤ t * n := Int.mul_le_mul_of_nonneg_right z (by omega)
      omega
    · exact z
  · rw [if_neg q]
/-- a number at a place is the only way to it -/
theorem blk_un {Q a b s t : Int} (s0 : 0 ≤ s) (s1 : s < Q) (t0 : 0 ≤ t) (t1 : t < Q) (h : a * Q + s = b * Q + t) : a = b ∧ s = t := by
  have h1 := mod_blk (s := a) s0 s1
  have h2 := mod_blk (s := b) t0 t1
  rw [h] at h1
  omega
