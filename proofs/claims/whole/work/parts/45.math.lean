/-! ===== rows that grow ===== -/
theorem V_eq {p P : Int} {V : Vc → Prop} (hV : SubV p P V) {x y : Vc} (h : ∀ i, 0 ≤ i → i < P → x i = y i) : V x ↔ V y :=
  ⟨fun a => hV.2.2.2 _ _ a (fun i b c => cg_eq (h i b c)), fun a => hV.2.2.2 _ _ a (fun i b c => cg_eq (h i b c).symm)⟩
theorem V_cg {p P : Int} {V : Vc → Prop} (hV : SubV p P V) {x y : Vc} (h : ∀ i, 0 ≤ i → i < P → cg p (x i) (y i)) : V x ↔ V y :=
  ⟨fun a => hV.2.2.2 _ _ a h, fun a => hV.2.2.2 _ _ a (fun i b c => cg_sy (h i b c))⟩
def RedOK (n d : Int) (A Z : Int → Int) : Prop := ∀ w9 u9, 0 ≤ u9 → u9 < w9 → w9 < pw n d → ldq n d Z w9 ≠ 0 → ldq n d Z u9 ≠ 0 → rwq n d A w9 u9 = 0
def gnV (n d : Int) (A : Int → Int) (c t : Int) (V : Vc → Prop) : Prop := V (ahd (pw n (d - 1)) c (rvV n (d - 1) A t)) ∧ V (bhd n c (rvV n (d - 1) A t))
def GrV (n d : Int) (A Z : Int → Int) (u : Int) (V : Vc → Prop) : Prop := ∀ c t, 0 ≤ c → c < n → 0 ≤ t → t < u → ldq n (d - 1) Z t ≠ 0 → gnV n d A c t V
def outD (n d : Int) (al le : Nat) (M M2 : AbM) : Prop := (∀ x, (x < sqm n d ∨ sqm n d + pw n d * pw n d ≤ x) → M2 al x = M al x) ∧ ∀ x, (x < wsm n d ∨ wsm n d + pw n d ≤ x) → M2 le x = M le x
def GrI (n p d : Int) (m al le : Nat) (M M2 : AbM) (G : (Vc → Prop) → Prop) : Prop := same [al, le, m + 12] M M2 ∧ EchOK n p d (M2 al) (M2 le) ∧ outD n d al le M M2 ∧ ∀ V, SubV p (pw n d) V → (RowsIn n d (M2 al) (M2 le) V ↔ RowsIn n d (M al) (M le) V ∧ G V)
theorem GrI.zero {n p d : Int} {m al le : Nat} {M : AbM} (hE : EchOK n p d (M al) (M le)) : GrI n p d m al le M M (fun _ => True) := ⟨same_rf _ _, hE, ⟨fun _ _ => rfl, fun _ _ => rfl⟩, fun _ _ => ⟨fun a => ⟨a, trivial⟩, fun a => a.1⟩⟩
theorem GrI.iff {n p d : Int} {m al le : Nat} {M M2 : AbM} {G G2 : (Vc → Prop) → Prop} (h : GrI n p d m al le M M2 G) (e : ∀ V, SubV p (pw n d) V → (G V ↔ G2 V)) : GrI n p d m al le M M2 G2 := ⟨h.1, h.2.1, h.2.2.1, fun V hV => (h.2.2.2 V hV).trans (and_congr_right (fun _ => e V hV))⟩
theorem GrI.row {n p d : Int} {m al le : Nat} {M M2 : AbM} {G : (Vc → Prop) → Prop} {f : Int → Int} (h : GrI n p d m al le M M2 G) (ha : al ≠ m + 12) (hl : le ≠ m + 12) : GrI n p d m al le M (upA M2 (m + 12) f) G := by
  have e1 : upA M2 (m + 12) f al = M2 al := upA_row ha
  have e2 : upA M2 (m + 12) f le = M2 le := upA_row hl
  unfold GrI outD
  rw [e1, e2]
  exact ⟨same_tr h.1 (same_upA (by simp)), h.2⟩
theorem GrI.tr {n p d : Int} {m al le : Nat} {M M2 M3 : AbM} {G G2 : (Vc → Prop) → Prop} (h : GrI n p d m al le M M2 G) (h2 : GrI n p d m al le M2 M3 G2) : GrI n p d m al le M M3 (fun V => G V ∧ G2 V) :=
  ⟨same_tr h.1 h2.1, h2.2.1, ⟨fun x hx => (h2.2.2.1.1 x hx).trans (h.2.2.1.1 x hx), fun x hx => (h2.2.2.1.2 x hx).trans (h.2.2.1.2 x hx)⟩, fun V hV => (h2.2.2.2 V hV).trans ⟨fun a => ⟨((h.2.2.2 V hV).mp a.1).1, ((h.2.2.2 V hV).mp a.1).2, a.2⟩, fun a => ⟨(h.2.2.2 V hV).mpr ⟨a.1, a.2.1⟩, a.2.2⟩⟩⟩
/-- the row of t with the letter c ahead, up to x; the same behind -/
def rwA (n d t c : Int) (A old : Int → Int) (x : Int) : Int → Int := fun j => if c * pw n (d - 1) ≤ j ∧ j < c * pw n (d - 1) + x then A (sqm n (d - 1) + t * pw n (d - 1) + (j - c * pw n (d - 1))) else if 0 ≤ j ∧ j < 243 then 0 else old j
def rwB (n d t c : Int) (A old : Int → Int) (x : Int) : Int → Int := fun j => if 0 ≤ j ∧ j % n = c ∧ j / n < x then A (sqm n (d - 1) + t * pw n (d - 1) + j / n) else if 0 ≤ j ∧ j < 243 then 0 else old j
theorem rwA_0 {n d t c : Int} {A old : Int → Int} (j : Int) : rwA n d t c A old 0 j = if 0 ≤ j ∧ j < 243 then 0 else old j := by unfold rwA; rw [if_neg (by omega)]
theorem rwB_0 {n d t c : Int} {A old : Int → Int} (n1 : 1 ≤ n) (j : Int) : rwB n d t c A old 0 j = if 0 ≤ j ∧ j < 243 then 0 else old j := by
  unfold rwB
  rw [if_neg]
  intro z
  have := Int.ediv_nonneg z.1 (show 0 ≤ n by omega)
  omega
theorem rwA_s {n d t c x : Int} {A old : Int → Int} (x0 : 0 ≤ x) (j : Int) : (if j = c * pw n (d - 1) + x then A (sqm n (d - 1) + t * pw n (d - 1) + x) else rwA n d t c A old x j) = rwA n d t c A old (x + 1) j := by
  unfold rwA
  by_cases q : j = c * pw n (d - 1) + x
  · rw [if_pos q, if_pos (by omega), q, show c * pw n (d - 1) + x - c * pw n (d - 1) = x by omega]
  · rw [if_neg q]
    by_cases q2 : c * pw n (d - 1) ≤ j ∧ j < c * pw n (d - 1) + x
    · rw [if_pos q2, if_pos (by omega)]
    · rw [if_neg q2, if_neg (show ¬ (c * pw n (d - 1) ≤ j ∧ j < c * pw n (d - 1) + (x + 1)) by omega)]
theorem rwB_s {n d t c x : Int} {A old : Int → Int} (n1 : 1 ≤ n) (c0 : 0 ≤ c) (c1 : c < n) (x0 : 0 ≤ x) (j : Int) : (if j = n * x + c then A (sqm n (d - 1) + t * pw n (d - 1) + x) else rwB n d t c A old x j) = rwB n d t c A old (x + 1) j := by
  unfold rwB
  have h := mod_blk (n := n) (s := x) (j := c) c0 c1
  have h0 : 0 ≤ n * x := Int.mul_nonneg (by omega) x0
  rw [Int.mul_comm x n] at h
  by_cases q : j = n * x + c
  · rw [if_pos q, if_pos (by rw [q]; omega), q, h.2]
  · rw [if_neg q]
    by_cases q2 : 0 ≤ j ∧ j % n = c ∧ j / n < x
    · rw [if_pos q2, if_pos (by omega)]
    · rw [if_neg q2, if_neg (show ¬ (0 ≤ j ∧ j % n = c ∧ j / n < x + 1) from fun z => by
        have e : j / n = x := by omega
        have := Int.mul_ediv_add_emod j n
        rw [e, z.2.1] at this
        omega)]
theorem rwA_V {n p d t c : Int} {A old : Int → Int} {V : Vc → Prop} (hV : SubV p (pw n d) V) (hP : pw n d ≤ 243) : V (qvV (pw n d) (rwA n d t c A old (pw n (d - 1)))) ↔ V (ahd (pw n (d - 1)) c (rvV n (d - 1) A t)) := V_eq hV (fun i i0 i1 => by
  unfold qvV rwA ahd rvV rwq
  rw [if_pos ⟨i0, i1⟩]
  by_cases q : c * pw n (d - 1) ≤ i ∧ i < c * pw n (d - 1) + pw n (d - 1)
  · rw [if_pos q, if_pos q, if_pos (by omega)]
  · rw [if_neg q, if_neg q, if_pos (by omega)])
theorem rwB_V {n p d t c : Int} {A old : Int → Int} {V : Vc → Prop} (n1 : 1 ≤ n) (h0 : 1 ≤ d) (hV : SubV p (pw n d) V) (hP : pw n d ≤ 243) : V (qvV (pw n d) (rwB n d t c A old (pw n (d - 1)))) ↔ V (bhd n c (rvV n (d - 1) A t)) := V_eq hV (fun i i0 i1 => by
  unfold qvV rwB bhd rvV rwq
  rw [if_pos ⟨i0, i1⟩]
  obtain ⟨b0, b1, -⟩ := head_B n1 h0 i0 i1
  by_cases q : i % n = c
  · rw [if_pos ⟨i0, q, b1⟩, if_pos q, if_pos ⟨b0, b1⟩]
  · rw [if_neg (fun z => q z.2.1), if_neg q, if_pos (by omega)])
theorem rwA_in {n p d t c : Int} {A Z old : Int → Int} (hp : 2 ≤ p) (hP : pw n d ≤ 243) (hE : EchOK n p (d - 1) A Z) (t0 : 0 ≤ t) (t1 : t < pw n (d - 1)) (ht : ldq n (d - 1) Z t ≠ 0) : ∀ x, 0 ≤ x → x < pw n d → 0 ≤ rwA n d t c A old (pw n (d - 1)) x ∧ rwA n d t c A old (pw n (d - 1)) x < p := fun x x0 x1 => by
  unfold rwA
  by_cases q : c * pw n (d - 1) ≤ x ∧ x < c * pw n (d - 1) + pw n (d - 1)
  · rw [if_pos q]
    have := ((hE t t0 t1).2 ht).2 (x - c * pw n (d - 1)) (by omega) (by omega)
    exact ⟨this.1, this.2.1⟩
  · rw [if_neg q, if_pos (by omega)]
    omega
theorem rwB_in {n p d t c : Int} {A Z old : Int → Int} (hp : 2 ≤ p) (n1 : 1 ≤ n) (h0 : 1 ≤ d) (hP : pw n d ≤ 243) (hE : EchOK n p (d - 1) A Z) (t0 : 0 ≤ t) (t1 : t < pw n (d - 1)) (ht : ldq n (d - 1) Z t ≠ 0) : ∀ x, 0 ≤ x → x < pw n d → 0 ≤ rwB n d t c A old (pw n (d - 1)) x ∧ rwB n d t c A old (pw n (d - 1)) x < p := fun x x0 x1 => by
  unfold rwB
  obtain ⟨b0, b1, -⟩ := head_B n1 h0 x0 x1
  by_cases q : 0 ≤ x ∧ x % n = c ∧ x / n < pw n (d - 1)
  · rw [if_pos q]
    have := ((hE t t0 t1).2 ht).2 (x / n) b0 b1
    exact ⟨this.1, this.2.1⟩
  · rw [if_neg q, if_pos (by omega)]
    omega
theorem GrV_s {n d w : Int} {A Z : Int → Int} {V : Vc → Prop} : GrV n d A Z (w + 1) V → 0 ≤ w → GrV n d A Z w V ∧ (ldq n (d - 1) Z w ≠ 0 → ∀ c, 0 ≤ c → c < n → gnV n d A c w V) := fun h w0 => ⟨fun c t c0 c1 t0 t1 hl => h c t c0 c1 t0 (by omega) hl, fun hl c c0 c1 => h c w c0 c1 w0 (by omega) hl⟩
theorem GrV_step {n d w : Int} {A Z : Int → Int} {V : Vc → Prop} (h : GrV n d A Z w V) (h2 : ldq n (d - 1) Z w ≠ 0 → ∀ c, 0 ≤ c → c < n → gnV n d A c w V) : GrV n d A Z (w + 1) V := fun c t c0 c1 t0 t1 hl => by
  rcases (show t < w ∨ t = w by omega) with q | q
  · exact h c t c0 c1 t0 q hl
  · subst q; exact h2 hl c c0 c1
