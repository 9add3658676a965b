/-! ===== normal words by their numbers; the middle ===== -/
theorem cnt_mono {f : Int → Int} {a b : Int} (a0 : 0 ≤ a) (h : a ≤ b) : cntF f a ≤ cntF f b := by
  have key : ∀ k : Nat, cntF f a ≤ cntF f (a + k) := by
    intro k
    induction k with
    | zero => exact Int.le_of_eq (by rw [show ((0 : Nat) : Int) = 0 from rfl, Int.add_zero])
    | succ k ih =>
      rw [show ((k + 1 : Nat) : Int) = (k : Int) + 1 from rfl, ← Int.add_assoc, cntF_s (by omega)]
      split <;> omega
  have := key (b - a).toNat
  rwa [show a + (((b - a).toNat : Nat) : Int) = b by omega] at this
/-- the word below N with f not 0 that has j such words below it; -1 if there is none -/
def nthF (f : Int → Int) (N j : Int) : Int := (((List.range N.toNat).find? (fun (w : Nat) => decide (f (w : Int) ≠ 0 ∧ cntF f (w : Int) = j))).map (fun (w : Nat) => (w : Int))).getD (-1)
theorem nthF_at {f : Int → Int} {N w : Int} (w0 : 0 ≤ w) (w1 : w < N) (h : f w ≠ 0) : nthF f N (cntF f w) = w := by
  unfold nthF
  cases hf : (List.range N.toNat).find? (fun (x : Nat) => decide (f (x : Int) ≠ 0 ∧ cntF f (x : Int) = cntF f w)) with
  | none =>
    have := List.find?_eq_none.mp hf w.toNat (List.mem_range.mpr (by omega))
    rw [show ((w.toNat : Nat) : Int) = w by omega] at this
    simp [h] at this
  | some x =>
    have e1 := List.find?_some hf
    simp only [decide_eq_true_eq] at e1
    show (x : Int) = w
    rcases (show (x : Int) < w ∨ (x : Int) = w ∨ w < x by omega) with q | q | q
    · have h1 := cntF_s (f := f) (i := (x : Int)) (by omega)
      rw [if_neg e1.1] at h1
      have h2 := cnt_mono (f := f) (a := (x : Int) + 1) (b := w) (by omega) (by omega)
      omega
    · exact q
    · have h1 := cntF_s (f := f) (i := w) w0
      rw [if_neg h] at h1
      have h2 := cnt_mono (f := f) (a := w + 1) (b := (x : Int)) (by omega) (by omega)
      omega
theorem nthF_in {f : Int → Int} {N j : Int} (N0 : 0 ≤ N) (j0 : 0 ≤ j) (j1 : j < cntF f N) : 0 ≤ nthF f N j ∧ nthF f N j < N ∧ f (nthF f N j) ≠ 0 ∧ cntF f (nthF f N j) = j := by
  have key : ∀ k : Nat, j < cntF f k → ∃ w : Int, 0 ≤ w ∧ w < k ∧ f w ≠ 0 ∧ cntF f w = j := by
    intro k
    induction k with
    | zero => intro h; rw [show ((0 : Nat) : Int) = 0 from rfl, cntF_0] at h; omega
    | succ k ih =>
      intro h
      rw [show ((k + 1 : Nat) : Int) = (k : Int) + 1 from rfl, cntF_s (by omega)] at h
      by_cases q : j < cntF f k
      · obtain ⟨w, a, b, c⟩ := ih q
        exact ⟨w, a, by omega, c⟩
      · by_cases z : f (k : Int) = 0
        · rw [if_pos z] at h; omega
        · rw [if_neg z] at h
          exact ⟨k, by omega, by omega, z, by omega⟩
  have h1 := key N.toNat (by rw [show ((N.toNat : Nat) : Int) = N by omega]; exact j1)
  obtain ⟨w, a, b, c, d⟩ := h1
  have e := nthF_at (N := N) a (by omega) c
  rw [d] at e
  rw [e]
  exact ⟨a, by omega, c, d⟩
theorem nthF_out {f : Int → Int} {N j : Int} (N0 : 0 ≤ N) (h : j < 0 ∨ cntF f N ≤ j) : nthF f N j = -1 := by
  unfold nthF
  cases hf : (List.range N.toNat).find? (fun (x : Nat) => decide (f (x : Int) ≠ 0 ∧ cntF f (x : Int) = j)) with
  | none => rfl
  | some x =>
    have e1 := List.find?_some hf
    simp only [decide_eq_true_eq] at e1
    have e2 := List.mem_range.mp (List.mem_of_find?_eq_some hf)
    have h1 := cntF_s (f := f) (i := (x : Int)) (by omega)
    rw [if_neg e1.1] at h1
    have h2 := cnt_mono (f := f) (a := (x : Int) + 1) (b := N) (by omega) (by omega)
    have h3 := (cntF_B (f := f) (N := (x : Int)) (by omega)).1
    omega
theorem find_congr {α : Type} {p q : α → Bool} : ∀ {l : List α}, (∀ x ∈ l, p x = q x) → l.find? p = l.find? q
  | [], _ => rfl
  | a :: t, h => by
    rw [List.find?_cons, List.find?_cons, h a List.mem_cons_self, find_congr (fun x hx => h x (List.mem_cons_of_mem _ hx))]
theorem nthF_congr {f g : Int → Int} {N : Int} (h : ∀ i, 0 ≤ i → i < N → (f i = 0 ↔ g i = 0)) (j : Int) : nthF f N j = nthF g N j := by
  unfold nthF
  congr 2
  refine find_congr (fun w hw => ?_)
  have hw2 := List.mem_range.mp hw
  have e1 := h w (by omega) (by omega)
  have e2 : cntF f (w : Int) = cntF g (w : Int) := cntF_congr (fun i a b => h i a (by omega))
  rw [e2]
  by_cases q : f (w : Int) = 0
  · simp [q, e1.mp q]
  · have q2 : ¬ g (w : Int) = 0 := fun z => q (e1.mpr z)
    simp [q, q2]
abbrev ES : Type := (Int → Int) × (Int → Int) × Int
def stepE (p m : Int) (s : ES) (q : Int → Int) : ES := match elim p m s.1 s.2.1 m.toNat 0 q with
  | none => s
  | some (i, q2) => (keepE p m i s.1 q2, fun j => if j = i then 1 else s.2.1 j, s.2.2 + 1)
/-- the equation of a letter x and a word t of the length d + 1 -/
def eqV (n p d : Int) (F Z : Int → Int) (x t : Int) : Int → Int := fun j => if 0 ≤ j ∧ j < nmC n d Z then (rho n (d + 1) F Z (x * pw n d + nthF (nlF n d Z) (pw n d) j) t - rho n (d + 1) F Z (nthF (nlF n d Z) (pw n d) j * n + x) t) % p else 0
def rowsT (n p d : Int) (F Z : Int → Int) (x : Int) : Nat → ES → ES
  | 0, s => s
  | k + 1, s => if ldq n (d + 1) Z (k : Int) = 0 then stepE p (nmC n d Z) (rowsT n p d F Z x k s) (eqV n p d F Z x (k : Int)) else rowsT n p d F Z x k s
def rowsX (n p d : Int) (F Z : Int → Int) : Nat → ES → ES
  | 0, s => s
  | k + 1, s => rowsT n p d F Z (k : Int) (pw n (d + 1)).toNat (rowsX n p d F Z k s)
def midV (n p d : Int) (F Z : Int → Int) : Int := nmC n d Z - (rowsX n p d F Z n.toNat ((fun _ => 0), (fun _ => 0), 0)).2.2
theorem eqV_keep {n p d D x t : Int} {F F2 Z Z2 : Int → Int} (n1 : 1 ≤ n) (d0 : 0 ≤ d) (h : d + 1 < D) (hF : ∀ y, y < fsm n D → F2 y = F y) (hZ : ∀ y, y < wsm n D → Z2 y = Z y) (x0 : 0 ≤ x) (x1 : x < n) : eqV n p d F Z x t = eqV n p d F2 Z2 x t := by
  have rs := rows_same (e := d) n1 d0 (by omega) hF hZ
  have rs1 := rows_same (e := d + 1) n1 (by omega) h hF hZ
  have en : nmC n d Z = nmC n d Z2 := (lsF_keep n1 d0 (by omega) hF hZ).1
  funext j
  unfold eqV
  rw [← en]
  by_cases q : 0 ≤ j ∧ j < nmC n d Z
  · rw [if_pos q, if_pos q]
    have e : nthF (nlF n d Z) (pw n d) j = nthF (nlF n d Z2) (pw n d) j := nthF_congr (fun i a b => by unfold nlF; rw [(rs i a b).1]) j
    rw [← e]
    have hp := pw_pos (d := d) n1
    obtain ⟨a, b, -⟩ := nthF_in (f := nlF n d Z) (N := pw n d) (by omega) q.1 q.2
    have B := blk_B (d := d + 1) n1 (by omega) x (nthF (nlF n d Z) (pw n d) j) x0 x1 a (by rw [show d + 1 - 1 = d by omega]; exact b)
    rw [show d + 1 - 1 = d by omega] at B
    have c1 : 0 ≤ x * pw n d := Int.mul_nonneg x0 (by omega)
    have c2 : 0 ≤ nthF (nlF n d Z) (pw n d) j * n := Int.mul_nonneg a (by omega)
    rw [(rs1 _ (by omega) B.1).2.1, (rs1 _ (by omega) B.2).2.1]
  · rw [if_neg q, if_neg q]
theorem midV_keep {n p d D : Int} {F F2 Z Z2 : Int → Int} (n1 : 1 ≤ n) (d0 : 0 ≤ d) (h : d + 1 < D) (hF : ∀ y, y < fsm n D → F2 y = F y) (hZ : ∀ y, y < wsm n D → Z2 y = Z y) : midV n p d F Z = midV n p d F2 Z2 := by
  have rs1 := rows_same (e := d + 1) n1 (by omega) h hF hZ
  have en : nmC n d Z = nmC n d Z2 := (lsF_keep n1 d0 (by omega) hF hZ).1
  have hT : ∀ (x : Int), 0 ≤ x → x < n → ∀ (k : Nat) (s : ES), (k : Int) ≤ pw n (d + 1) → rowsT n p d F Z x k s = rowsT n p d F2 Z2 x k s := by
    intro x x0 x1 k
    induction k with
    | zero => intro s _; rfl
    | succ k ih =>
      intro s hk
      show (if ldq n (d + 1) Z (k : Int) = 0 then _ else _) = (if ldq n (d + 1) Z2 (k : Int) = 0 then _ else _)
      rw [← (rs1 k (by omega) (by omega)).1, ih s (by omega), ← en, eqV_keep n1 d0 h hF hZ x0 x1]
  have hX : ∀ (k : Nat) (s : ES), (k : Int) ≤ n → rowsX n p d F Z k s = rowsX n p d F2 Z2 k s := by
    intro k
    induction k with
    | zero => intro s _; rfl
    | succ k ih =>
      intro s hk
      have hp := pw_pos (d := d + 1) n1
      show rowsT n p d F Z (k : Int) (pw n (d + 1)).toNat (rowsX n p d F Z k s) = rowsT n p d F2 Z2 (k : Int) (pw n (d + 1)).toNat (rowsX n p d F2 Z2 k s)
      rw [ih s (by omega), hT k (by omega) (by omega) _ _ (by omega)]
  unfold midV
  rw [en, hX _ _ (by omega)]
/-! an algebra's cells, by the laws' cells -/
def LawsOK (n p : Int) (M : AbM) (g : Nat) : Prop := 0 ≤ M g 2 ∧ M g 2 ≤ 9 ∧ ∀ i, 0 ≤ i → i < M g 2 → 2 ≤ M (g + 1) i ∧ M (g + 1) i ≤ 4 ∧ ∀ y, 0 ≤ y → y < pw n (M (g + 1) i) → 0 ≤ M (g + 2) (i * 81 + y) ∧ M (g + 2) (i * 81 + y) < p
def AlgAt (n p e : Int) (M : AbM) (b g : Nat) : Prop := DoneD n p e (M g 2) (M (g + 1)) (M (g + 2)) (M (b + 1)) (M (b + 2)) ∧ M (b + 3) e = nmC n e (M (b + 2)) ∧ M (b + 4) e = lsC n e (M (b + 2))
def AlgOK (n p : Int) (M : AbM) (b g : Nat) : Prop := -1 ≤ M b 8 ∧ M b 8 ≤ Lg n ∧ (∀ e, 0 ≤ e → e ≤ M b 8 → AlgAt n p e M b g) ∧ ∀ e, 0 ≤ e → e < M b 8 → M (b + 5) e = -1 ∨ M (b + 5) e = midV n p e (M (b + 1)) (M (b + 2))
theorem law_len {n d : Int} (n1 : 1 ≤ n) (n2 : n ≤ 3) (h0 : 2 ≤ d) (h1 : d ≤ 4) : pw n d ≤ 81 := by
  have hn : n = 1 ∨ n = 2 ∨ n = 3 := by omega
  have hd : d = 2 ∨ d = 3 ∨ d = 4 := by omega
  rcases hn with rfl | rfl | rfl <;> rcases hd with rfl | rfl | rfl <;> decide +kernel
