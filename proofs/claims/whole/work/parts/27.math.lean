/-! ===== what is told of a length ===== -/
theorem up_up (M : AbM) (k : Nat) (i x y : Int) : up (up M k i x) k i y = up M k i y := by
  funext q j
  unfold up
  by_cases h : q = k ∧ j = i <;> simp [h]
theorem up_comm {M : AbM} {k k2 : Nat} {i j x y : Int} (h : k ≠ k2) : up (up M k i x) k2 j y = up (up M k2 j y) k i x := by
  funext q s
  unfold up
  by_cases h1 : q = k ∧ s = i
  · by_cases h2 : q = k2 ∧ s = j
    · exfalso; exact h (h1.1.symm.trans h2.1)
    · simp [h1, h2]
      intro z
      exact absurd z h
  · by_cases h2 : q = k2 ∧ s = j
    · simp [h1, h2]
      intro z
      exact absurd z.symm h
    · simp [h1, h2]
/-- 1 where a word does not lead; where it leads a least law -/
def nlF (n d : Int) (Z : Int → Int) (w : Int) : Int := if ldq n d Z w = 0 then 1 else 0
def lsF (n d : Int) (Z : Int → Int) (w : Int) : Int := if 0 < d ∧ ldq n d Z w ≠ 0 ∧ ldq n (d - 1) Z (w % pw n (d - 1)) = 0 ∧ ldq n (d - 1) Z (w / n) = 0 then 1 else 0
/-- how many words of a length are normal, how many lead least laws -/
def nmC (n d : Int) (Z : Int → Int) : Int := cntF (nlF n d Z) (pw n d)
def lsC (n d : Int) (Z : Int → Int) : Int := cntF (lsF n d Z) (pw n d)
/-- the laws of a length -/
def LwD (n d sz : Int) (len num : Int → Int) : Vc → Prop := fun x => ∃ i, 0 ≤ i ∧ i < sz ∧ len i = d ∧ x = lawR n d i num
/-- a length is worked out -/
def DoneD (n p d sz : Int) (len num F Z : Int → Int) : Prop := WF n p d (pw n d) F Z ∧ (d = 0 → ldq n d Z 0 = 0) ∧ (1 ≤ d → GoodD n p d (pw n d) (LwD n d sz len num) F Z ∧ ∀ x, LwD n d sz len num x → nought p (pw n d) (rho n d F Z) x)
/-- rows of one length and of the one before -/
theorem rows_same {n d e : Int} {F F2 Z Z2 : Int → Int} (n1 : 1 ≤ n) (e0 : 0 ≤ e) (h : e < d) (hF : ∀ x, x < fsm n d → F2 x = F x) (hZ : ∀ x, x < wsm n d → Z2 x = Z x) : ∀ t, 0 ≤ t → t < pw n e → ldq n e Z t = ldq n e Z2 t ∧ (∀ v, rho n e F Z t v = rho n e F2 Z2 t v) ∧ ∀ v, 0 ≤ v → v ≤ t → fmq n e F t v = fmq n e F2 t v := by
  have key : ∀ k : Nat, wsm n (e + 1) ≤ wsm n (e + 1 + k) ∧ fsm n (e + 1) ≤ fsm n (e + 1 + k) := by
    intro k
    induction k with
    | zero => exact ⟨Int.le_of_eq (by rw [show ((0 : Nat) : Int) = 0 from rfl, Int.add_zero]), Int.le_of_eq (by rw [show ((0 : Nat) : Int) = 0 from rfl, Int.add_zero])⟩
    | succ k ih =>
      have hp := pw_pos (d := e + 1 + k) n1
      have ht := tri_nn (show 0 ≤ pw n (e + 1 + k) by omega)
      have e1 := wsm_s (n := n) (d := e + 1 + k) (by omega)
      have e2 := fsm_s (n := n) (d := e + 1 + k) (by omega)
      rw [show ((k + 1 : Nat) : Int) = (k : Int) + 1 from rfl, ← Int.add_assoc]
      omega
  have k1 := key (d - (e + 1)).toNat
  rw [show e + 1 + (((d - (e + 1)).toNat : Nat) : Int) = d by omega] at k1
  have := prev_same (n := n) (d := e + 1) (F := F) (F2 := F2) (Z := Z) (Z2 := Z2) (by omega) (fun x hx => hF x (by omega)) (fun x hx => hZ x (by omega))
  rw [show e + 1 - 1 = e by omega] at this
  exact this
theorem DoneD.keep {n p d e sz : Int} {len num F F2 Z Z2 : Int → Int} (n1 : 1 ≤ n) (e0 : 0 ≤ e) (h : e < d) (hF : ∀ x, x < fsm n d → F2 x = F x) (hZ : ∀ x, x < wsm n d → Z2 x = Z x) (hD : DoneD n p e sz len num F Z) : DoneD n p e sz len num F2 Z2 := by
  obtain ⟨a, b, c⟩ := hD
  have rs := rows_same n1 e0 h hF hZ
  refine ⟨a.congr (fun w w0 w1 => (rs w w0 w1).1) (fun w w0 w1 v v0 v1 => (rs w w0 w1).2.2 v v0 v1), fun z => ?_, fun z => ?_⟩
  · have hp := pw_pos (d := e) n1
    rw [← (rs 0 (by omega) (by omega)).1]
    exact b z
  · obtain ⟨c1, c2⟩ := c z
    have rs' := rows_same (e := e - 1) n1 (by omega) (by omega) hF hZ
    refine ⟨?_, fun x hx => nought.congr (fun w w0 w1 => (rs w w0 w1).2.1) (c2 x hx)⟩
    exact Good.prev (fun t t0 t1 => ⟨(rs' t t0 t1).1, (rs' t t0 t1).2.1⟩) (Good.congr (fun w w0 w1 => ⟨(rs w w0 w1).1, (rs w w0 w1).2.1⟩) c1)
theorem lsF_keep {n d e : Int} {F F2 Z Z2 : Int → Int} (n1 : 1 ≤ n) (e0 : 0 ≤ e) (h : e < d) (hF : ∀ x, x < fsm n d → F2 x = F x) (hZ : ∀ x, x < wsm n d → Z2 x = Z x) : nmC n e Z = nmC n e Z2 ∧ lsC n e Z = lsC n e Z2 := by
  have rs := rows_same n1 e0 h hF hZ
  constructor
  · refine cntF_congr (fun w w0 w1 => ?_)
    unfold nlF
    rw [(rs w w0 w1).1]
  · refine cntF_congr (fun w w0 w1 => ?_)
    unfold lsF
    rw [← (rs w w0 w1).1]
    by_cases q : 0 < e
    · have rs' := rows_same (e := e - 1) n1 (by omega) (by omega) hF hZ
      obtain ⟨t0, t1, -⟩ := tail_B (d := e) n1 (by omega) w0 w1
      obtain ⟨u0, u1, -⟩ := head_B (d := e) n1 (by omega) w0 w1
      rw [← (rs' _ t0 t1).1, ← (rs' _ u0 u1).1]
    · rw [if_neg (fun z => q z.1), if_neg (fun z => q z.1)]
