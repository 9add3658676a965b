/-! ===== sums; blocks of forms; how a word is reduced ===== -/
def sumN (f : Int → Int) : Nat → Int
  | 0 => 0
  | k + 1 => sumN f k + f (k : Int)
def sumF (f : Int → Int) (N : Int) : Int := sumN f N.toNat
theorem sumF_0 (f : Int → Int) : sumF f 0 = 0 := rfl
theorem sumF_s {f : Int → Int} {i : Int} (h : 0 ≤ i) : sumF f (i + 1) = sumF f i + f i := by
  unfold sumF
  have : (i + 1).toNat = i.toNat + 1 := by omega
  rw [this]
  show sumN f i.toNat + f ((i.toNat : Nat) : Int) = _
  rw [show ((i.toNat : Nat) : Int) = i by omega]
theorem sumF_congr {f g : Int → Int} {N : Int} (h : ∀ i, 0 ≤ i → i < N → f i = g i) : sumF f N = sumF g N := by
  have key : ∀ k : Nat, (∀ i : Int, 0 ≤ i → i < k → f i = g i) → sumN f k = sumN g k := by
    intro k
    induction k with
    | zero => intro _; rfl
    | succ k ih =>
      intro hk
      show sumN f k + _ = sumN g k + _
      rw [ih (fun i a b => hk i a (by omega)), hk k (by omega) (by omega)]
  unfold sumF
  exact key _ (fun i a b => h i a (by omega))
def tri (w : Int) : Int := w * (w + 1) / 2
theorem tri_in {w v w2 v2 : Int} (h0 : 0 ≤ v) (h1 : v ≤ w) (h2 : 0 ≤ v2) (h3 : v2 ≤ w2) (h : w ≠ w2) : w * (w + 1) / 2 + v ≠ w2 * (w2 + 1) / 2 + v2 := by
  rcases (show w < w2 ∨ w2 < w by omega) with q | q
  · have := tri_lt (by omega : 0 ≤ w) q
    omega
  · have := tri_lt (by omega : 0 ≤ w2) q
    omega
def ldq (n d : Int) (Z : Int → Int) (w : Int) : Int := Z (wsm n d + w)
def fmq (n d : Int) (F : Int → Int) (w v : Int) : Int := F (fsm n d + w * (w + 1) / 2 + v)
/-- the number of v in the form of w -/
def rho (n d : Int) (F Z : Int → Int) (w v : Int) : Int := if ldq n d Z w = 0 then (if v = w then 1 else 0) else if 0 ≤ v ∧ v < w then fmq n d F w v else 0
theorem rho_hi {n d : Int} {F Z : Int → Int} {w v : Int} (h : w < v) : rho n d F Z w v = 0 := by
  unfold rho
  split
  · exact if_neg (by omega)
  · exact if_neg (by omega)
/-- the words below u of a length are worked out: flags 0 or 1, forms of rests, of words that do not lead -/
def WF (n p d u : Int) (F Z : Int → Int) : Prop := ∀ w, 0 ≤ w → w < u → (ldq n d Z w = 0 ∨ ldq n d Z w = 1) ∧ (ldq n d Z w ≠ 0 → ∀ v, 0 ≤ v → v ≤ w → 0 ≤ fmq n d F w v ∧ fmq n d F w v < p ∧ (fmq n d F w v ≠ 0 → ldq n d Z v = 0 ∧ v < w))
/-- an equation's row with a word's form added, times a number -/
def addR (n p d : Int) (F Z : Int → Int) (w x : Int) (G : Int → Int) : Int → Int := fun v => if 0 ≤ v ∧ v ≤ w then (G v + x * rho n d F Z w v) % p else G v
theorem fm_B {n d w v : Int} (n1 : 1 ≤ n) (n2 : n ≤ 3) (h0 : 0 ≤ d) (h1 : d ≤ Lg n) (w1 : w < pw n d) (v0 : 0 ≤ v) (v1 : v ≤ w) : 0 ≤ fsm n d ∧ 0 ≤ w * (w + 1) / 2 ∧ fsm n d + w * (w + 1) / 2 + v < 33397 := by
  have hB := sz_B n1 n2 h0 h1
  have h2 := tri_lt (by omega : 0 ≤ w) w1
  have h3 := tri_nn (by omega : 0 ≤ w)
  omega
theorem emod_in {a p : Int} (h : 2 ≤ p) : 0 ≤ a % p ∧ a % p < p := ⟨Int.emod_nonneg _ (by omega), Int.emod_lt_of_pos _ (by omega)⟩
theorem emod_id {a p : Int} (h0 : 0 ≤ a) (h1 : a < p) : a % p = a := Int.emod_eq_of_lt h0 h1
/-- a row of numbers with s added, below a word -/
def accG (p w : Int) (s G : Int → Int) : Int → Int := fun x => if 0 ≤ x ∧ x ≤ w then (G x + s x) % p else G x
theorem addR_acc {n p d w w2 c : Int} {F Z s G : Int → Int} (h : w2 ≤ w) (v : Int) : addR n p d F Z w2 c (accG p w s G) v = accG p w (fun x => s x + c * rho n d F Z w2 x) G v := by
  unfold addR accG
  by_cases q1 : 0 ≤ v ∧ v ≤ w2
  · rw [if_pos q1, if_pos (by omega), if_pos (by omega), Int.emod_add_emod, Int.add_assoc]
  · rw [if_neg q1]
    by_cases q2 : 0 ≤ v ∧ v ≤ w
    · rw [if_pos q2, if_pos q2]
      show (G v + s v) % p = (G v + (s v + c * rho n d F Z w2 v)) % p
      rw [rho_hi (by omega), Int.mul_zero, Int.add_zero]
    · rw [if_neg q2, if_neg q2]
theorem accG_in {p w : Int} {s G : Int → Int} (hp : 2 ≤ p) {x : Int} (h0 : 0 ≤ x) (h1 : x ≤ w) : 0 ≤ accG p w s G x ∧ accG p w s G x < p := by
  unfold accG
  rw [if_pos ⟨h0, h1⟩]
  exact emod_in hp
theorem accG_0 {p w : Int} {s G : Int → Int} (hs : ∀ x, s x = 0) (hG : ∀ x, 0 ≤ x → x ≤ w → 0 ≤ G x ∧ G x < p) (x : Int) : accG p w s G x = G x := by
  unfold accG
  split
  · next h => rw [hs, Int.add_zero, emod_id (hG x h.1 h.2).1 (hG x h.1 h.2).2]
  · rfl
theorem accG_congr {p w : Int} {s t G : Int → Int} (h : ∀ x, 0 ≤ x → x ≤ w → s x = t x) (x : Int) : accG p w s G x = accG p w t G x := by
  unfold accG
  split
  · next q => rw [h x q.1 q.2]
  · rfl
/-- a word's parts -/
theorem tail_B {n d w : Int} (n1 : 1 ≤ n) (h0 : 1 ≤ d) (w0 : 0 ≤ w) (w1 : w < pw n d) : 0 ≤ w % pw n (d - 1) ∧ w % pw n (d - 1) < pw n (d - 1) ∧ 0 ≤ w / pw n (d - 1) ∧ w / pw n (d - 1) < n ∧ w / pw n (d - 1) * pw n (d - 1) + w % pw n (d - 1) = w := by
  have hP := pw_pos (d := d - 1) n1
  have e : pw n d = pw n (d - 1) * n := by rw [← pw_s (by omega), show d - 1 + 1 = d by omega]
  refine ⟨Int.emod_nonneg _ (by omega), Int.emod_lt_of_pos _ (by omega), Int.ediv_nonneg w0 (by omega), Int.ediv_lt_of_lt_mul (by omega) (by rw [Int.mul_comm]; omega), by rw [Int.mul_comm]; exact Int.mul_ediv_add_emod _ _⟩
theorem head_B {n d w : Int} (n1 : 1 ≤ n) (h0 : 1 ≤ d) (w0 : 0 ≤ w) (w1 : w < pw n d) : 0 ≤ w / n ∧ w / n < pw n (d - 1) ∧ 0 ≤ w % n ∧ w % n < n ∧ w / n * n + w % n = w := by
  have e : pw n d = pw n (d - 1) * n := by rw [← pw_s (by omega), show d - 1 + 1 = d by omega]
  refine ⟨Int.ediv_nonneg w0 (by omega), Int.ediv_lt_of_lt_mul (by omega) (by omega), Int.emod_nonneg _ (by omega), Int.emod_lt_of_pos _ (by omega), by rw [Int.mul_comm]; exact Int.mul_ediv_add_emod _ _⟩
/-- what follows from the length before: a letter ahead of the tail's form, a letter behind the head's -/
def tailS (n d : Int) (F Z : Int → Int) (w i x : Int) : Int := sumF (fun v => fmq n (d - 1) F (w % pw n (d - 1)) v * rho n d F Z (w / pw n (d - 1) * pw n (d - 1) + v) x) i
def headS (n d : Int) (F Z : Int → Int) (w c i x : Int) : Int := sumF (fun v => fmq n (d - 1) F (w / n) v * c * rho n d F Z (v * n + w % n) x) i
def replF (p k : Int) (f g : Int → Int) (v : Int) : Int := if v = k then 0 else if v < k then (f v + f k * g v) % p else f v
/-- what a row write of one word's form changes -/
theorem fmq_upd {n d w w2 v k : Int} {F : Int → Int} {f : Int → Int} (h : ∀ x, F x = f x ∨ True) (v0 : 0 ≤ v) (v1 : v ≤ w2) (k0 : 0 ≤ k) (k1 : k ≤ w) (hw : w2 ≠ w) : fsm n d + w2 * (w2 + 1) / 2 + v ≠ fsm n d + w * (w + 1) / 2 + k := by
  have := tri_in v0 v1 k0 k1 hw
  omega
theorem upA_up {M : AbM} {k k2 : Nat} {f : Int → Int} {i x : Int} (h : k ≠ k2) : upA (up M k2 i x) k f = up (upA M k f) k2 i x := by
  funext q j
  unfold up upA
  by_cases z : q = k
  · subst z
    simp [h]
  · simp [z]
/-- a row made ready: the number at k gone, those below times the negative of its inverse -/
def nrI (p k i : Int) (G : Int → Int) : Int → Int := fun j => if j = k then 0 else if 0 ≤ j ∧ j < i then (G j * (p - ivf p (G k))) % p else G j
theorem nrI_k {p k i : Int} {G : Int → Int} : nrI p k i G k = 0 := if_pos rfl
theorem nrI_lt {p k i j : Int} {G : Int → Int} (h : j ≠ k) (h0 : 0 ≤ j) (h1 : j < i) : nrI p k i G j = (G j * (p - ivf p (G k))) % p := by unfold nrI; rw [if_neg h, if_pos ⟨h0, h1⟩]
theorem nrI_ge {p k i j : Int} {G : Int → Int} (h : j ≠ k) (h1 : ¬ (0 ≤ j ∧ j < i)) : nrI p k i G j = G j := by unfold nrI; rw [if_neg h, if_neg h1]
def cpF (s len : Int) (f g : Int → Int) : Int → Int := fun j => if s ≤ j ∧ j < s + len then f (j - s) else g j
theorem cpF_in {s len j : Int} {f g : Int → Int} (h0 : s ≤ j) (h1 : j < s + len) : cpF s len f g j = f (j - s) := if_pos ⟨h0, h1⟩
theorem cpF_out {s len j : Int} {f g : Int → Int} (h : ¬ (s ≤ j ∧ j < s + len)) : cpF s len f g j = g j := if_neg h
/-- the forms behind a row that is nought: the word k leads now -/
def newFm (n p d k u : Int) (F Z G : Int → Int) (w v : Int) : Int := if w = k then nrI p k k G v else if k < w ∧ w < u ∧ ldq n d Z w ≠ 0 then replF p k (fmq n d F w) (nrI p k k G) v else fmq n d F w v
