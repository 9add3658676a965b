/-! ===== the plainest form of a sum; places ===== -/
theorem place {n j : Int} (j0 : 0 ≤ j) (j1 : j < wsm n (Lg n + 1)) : ∃ d w, 0 ≤ d ∧ d ≤ Lg n ∧ 0 ≤ w ∧ w < pw n d ∧ j = wsm n d + w := by
  have hLB := Lg_B n
  have key : ∀ k : Nat, (k : Int) ≤ Lg n + 1 → j < wsm n k → ∃ d w, 0 ≤ d ∧ d ≤ Lg n ∧ 0 ≤ w ∧ w < pw n d ∧ j = wsm n d + w := by
    intro k
    induction k with
    | zero =>
      intro _ h
      rw [show ((0 : Nat) : Int) = 0 from rfl, wsm_0] at h
      omega
    | succ k ih =>
      intro hk h
      rw [show ((k + 1 : Nat) : Int) = (k : Int) + 1 by omega, wsm_s (by omega)] at h
      by_cases q : j < wsm n k
      · exact ih (by omega) q
      · exact ⟨k, j - wsm n k, by omega, by omega, by omega, by omega, by omega⟩
  have := key (Lg n + 1).toNat (by omega)
  rw [show (((Lg n + 1).toNat : Nat) : Int) = Lg n + 1 by omega] at this
  exact this j1
theorem wsm_le {n d e : Int} (n1 : 1 ≤ n) (d0 : 0 ≤ d) (h : d ≤ e) : wsm n d ≤ wsm n e := by
  have key : ∀ k : Nat, wsm n d ≤ wsm n (d + k) := by
    intro k
    induction k with
    | zero => rw [show d + ((0 : Nat) : Int) = d by omega]; exact Int.le_refl _
    | succ k ih =>
      have hB := pw_pos (d := d + k) n1
      rw [show d + ((k + 1 : Nat) : Int) = d + k + 1 by omega, wsm_s (d := d + k) (by omega)]
      omega
  have := key (e - d).toNat
  rwa [show d + (((e - d).toNat : Nat) : Int) = e by omega] at this
theorem wsm_tot {n : Int} (n1 : 1 ≤ n) (n2 : n ≤ 3) : wsm n (Lg n + 1) ≤ 364 := by
  have hLB := Lg_B n
  have hB := sz_B n1 n2 (show 0 ≤ Lg n by omega) (Int.le_refl _)
  rw [wsm_s (by omega)]
  omega
theorem RM_hi {n p d w x : Int} {A Z : Int → Int} (w0 : 0 ≤ w) (h : w < x) : RM n p d A Z w x = 0 := by
  by_cases q : ldq n d Z w = 0
  · rw [RM_0 q]; unfold dl; rw [if_neg (by omega)]
  · rw [RM_1 q, if_neg (by omega)]
theorem sumF_z {f : Int → Int} {N : Int} (h : ∀ i, 0 ≤ i → i < N → f i = 0) : sumF f N = 0 := by
  have key : ∀ k : Nat, (k : Int) ≤ N → sumF f k = 0 := by
    intro k
    induction k with
    | zero => intro _; exact sumF_0 _
    | succ k ih =>
      intro hk
      rw [show ((k + 1 : Nat) : Int) = (k : Int) + 1 by omega, sumF_s (by omega), ih (by omega), h k (by omega) (by omega)]
      rfl
  by_cases q : 0 ≤ N
  · have := key N.toNat (by omega)
    rwa [show ((N.toNat : Nat) : Int) = N by omega] at this
  · unfold sumF
    rw [show N.toNat = 0 by omega]
    rfl
def rsF (n p d : Int) (A Z s : Int → Int) (w x : Int) : Int := sumF (fun y => s y * RM n p d A Z y x) w
def csF (n p d : Int) (A Z s : Int → Int) (w x : Int) : Int := if x < w then rsF n p d A Z s w x % p else s x
theorem csF_0 {n p d x : Int} {A Z s : Int → Int} (x0 : 0 ≤ x) : csF n p d A Z s 0 x = s x := if_neg (by omega)
theorem rsF_own {n p d w : Int} {A Z s : Int → Int} : rsF n p d A Z s w w = 0 := sumF_z (fun i i0 i1 => by rw [RM_hi i0 i1, Int.mul_zero])
theorem csF_skip {n p d w x : Int} {A Z s : Int → Int} (w0 : 0 ≤ w) (hs : 0 ≤ s w ∧ s w < p) (h : ldq n d Z w = 0 ∨ s w = 0) : csF n p d A Z s w x = csF n p d A Z s (w + 1) x := by
  unfold csF
  have e : rsF n p d A Z s (w + 1) x = rsF n p d A Z s w x + s w * RM n p d A Z w x := sumF_s w0
  rcases (show x < w ∨ x = w ∨ w < x by omega) with q | q | q
  · rw [if_pos q, if_pos (by omega), e]
    have : s w * RM n p d A Z w x = 0 := by
      rcases h with z | z
      · rw [RM_0 z]; unfold dl; rw [if_neg (by omega), Int.mul_zero]
      · rw [z, Int.zero_mul]
    rw [this, Int.add_zero]
  · subst q
    rw [if_neg (by omega), if_pos (by omega), e, rsF_own, Int.zero_add]
    rcases h with z | z
    · rw [RM_0 z]; unfold dl; rw [if_pos rfl, Int.mul_one, Int.emod_eq_of_lt hs.1 hs.2]
    · rw [z, Int.zero_mul, Int.zero_emod]
  · rw [if_neg (by omega), if_neg (by omega)]
theorem csF_lead {n p d w x : Int} {A Z s : Int → Int} (hp : 2 ≤ p) (hE : EchOK n p d A Z) (w0 : 0 ≤ w) (w1 : w < pw n d) (x0 : 0 ≤ x) (x1 : x < pw n d) (hs : 0 ≤ s w ∧ s w < p) (hx : 0 ≤ s x ∧ s x < p) (h : ldq n d Z w ≠ 0) : (csF n p d A Z s w x + (p - s w) * rwq n d A w x) % p = csF n p d A Z s (w + 1) x := by
  have hw := (hE w w0 w1).2 h
  have hr := hw.2 x x0 x1
  unfold csF
  have e : rsF n p d A Z s (w + 1) x = rsF n p d A Z s w x + s w * RM n p d A Z w x := sumF_s w0
  rcases (show x < w ∨ x = w ∨ w < x by omega) with q | q | q
  · rw [if_pos q, if_pos (by omega), e, RM_1 h, if_pos ⟨x0, q⟩]
    refine cg_em hp ?_
    refine cg_tr (cg_pv p _ _ _) ?_
    refine cg_tr (cg_sub (cg_mod p _) (cg_rf p _)) ?_
    have c1 : cg p (s w * ((p - rwq n d A w x) % p)) (s w * (p - rwq n d A w x)) := cg_mulL _ (cg_mod p _)
    have c2 : cg p (s w * (p - rwq n d A w x)) (-(s w * rwq n d A w x)) := ⟨s w, by rw [Int.mul_sub, Int.mul_comm p (s w)]; omega⟩
    refine cg_tr (cg_eq ?_) (cg_add (cg_rf p (rsF n p d A Z s w x)) (cg_sy (cg_tr c1 c2)))
    omega
  · subst q
    rw [if_neg (by omega), if_pos (by omega), e, rsF_own, hw.1, RM_1 h, if_neg (by omega), Int.mul_one, Int.mul_zero, show s x + (p - s x) = p by omega, Int.emod_self]
    rfl
  · rw [if_neg (by omega), if_neg (by omega), hr.2.2 q, Int.mul_zero, Int.add_zero, Int.emod_eq_of_lt hx.1 hx.2]
theorem csF_none {n p d x : Int} {A Z s : Int → Int} (n1 : 1 ≤ n) (h : ∀ w, 0 ≤ w → w < pw n d → ldq n d Z w = 0) (hs : ∀ w, 0 ≤ w → w < pw n d → 0 ≤ s w ∧ s w < p) (x0 : 0 ≤ x) (x1 : x < pw n d) : rsF n p d A Z s (pw n d) x % p = s x := by
  have key : ∀ k : Nat, (k : Int) ≤ pw n d → csF n p d A Z s k x = s x := by
    intro k
    induction k with
    | zero => intro _; exact csF_0 x0
    | succ k ih =>
      intro hk
      rw [show ((k + 1 : Nat) : Int) = (k : Int) + 1 by omega, ← csF_skip (by omega) (hs k (by omega) (by omega)) (Or.inl (h k (by omega) (by omega)))]
      exact ih (by omega)
  have := key (pw n d).toNat (by omega)
  rw [show (((pw n d).toNat : Nat) : Int) = pw n d by omega] at this
  unfold csF at this
  rwa [if_pos x1] at this
