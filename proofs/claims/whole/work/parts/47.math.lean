/-! ===== what the other side's rows say ===== -/
def RM (n p d : Int) (A Z : Int → Int) (w : Int) : Vc := fun v => if ldq n d Z w = 0 then dl w v else if 0 ≤ v ∧ v < w then (p - rwq n d A w v) % p else 0
def DoneM (n p e : Int) (A Z : Int → Int) (Lw : Vc → Prop) : Prop := EchOK n p e A Z ∧ RedOK n e A Z ∧ (e = 0 → ldq n e Z 0 = 0) ∧ (1 ≤ e → ∀ V, SubV p (pw n e) V → (RowsIn n e A Z V ↔ GrV n e A Z (pw n (e - 1)) V ∧ ∀ x, Lw x → V x))
theorem RM_0 {n p d w : Int} {A Z : Int → Int} (h : ldq n d Z w = 0) (v : Int) : RM n p d A Z w v = dl w v := by unfold RM; rw [if_pos h]
theorem RM_1 {n p d w : Int} {A Z : Int → Int} (h : ldq n d Z w ≠ 0) (v : Int) : RM n p d A Z w v = if 0 ≤ v ∧ v < w then (p - rwq n d A w v) % p else 0 := by unfold RM; rw [if_neg h]
theorem RM_sys {n p d : Int} {A Z : Int → Int} (hp : 2 ≤ p) (hE : EchOK n p d A Z) (hR : RedOK n d A Z) : Sys p (pw n d) (ldq n d Z) (RM n p d A Z) := fun w w0 w1 => by
  refine ⟨(hE w w0 w1).1, fun h v => RM_0 h v, fun h v => ?_⟩
  rw [RM_1 h]
  by_cases q : 0 ≤ v ∧ v < w
  · rw [if_pos q]
    have := emod_in (a := p - rwq n d A w v) hp
    refine ⟨this.1, this.2, fun z => ⟨q.1, q.2, ?_⟩⟩
    by_cases y : ldq n d Z v = 0
    · exact y
    · exfalso
      rw [hR w v q.1 q.2 w1 h y, Int.sub_zero, Int.emod_self] at z
      exact z rfl
  · rw [if_neg q]
    exact ⟨Int.le_refl 0, by omega, fun z => absurd rfl z⟩
theorem RM_row {n p d w : Int} {A Z : Int → Int} (hE : EchOK n p d A Z) (w0 : 0 ≤ w) (w1 : w < pw n d) (h : ldq n d Z w ≠ 0) (i : Int) (i0 : 0 ≤ i) (i1 : i < pw n d) : cg p (rowV (RM n p d A Z) w i) (rvV n d A w i) := by
  have hw := (hE w w0 w1).2 h
  unfold rowV rvV
  rw [RM_1 h, if_pos (show 0 ≤ i ∧ i < pw n d from ⟨i0, i1⟩)]
  rcases (show i < w ∨ i = w ∨ w < i by omega) with q | q | q
  · rw [dl_n (by omega), if_pos ⟨i0, q⟩]
    have h2 := cg_sub (cg_rf p 0) (cg_tr (cg_mod p (p - rwq n d A w i)) (cg_sub (cg_p p) (cg_rf p (rwq n d A w i))))
    exact cg_tr h2 (cg_eq (by omega))
  · rw [q, dl_s, if_neg (by omega), hw.1]
    exact cg_eq (by omega)
  · rw [dl_n (by omega), if_neg (by omega), (hw.2 i i0 i1).2.2 q]
    exact cg_eq (by omega)
theorem nought_sub {p u : Int} {ρ : Int → Vc} : SubV p u (nought p u ρ) := by
  refine ⟨fun v _ _ => ?_, fun x y hx hy v v0 v1 => ?_, fun c x hx v v0 v1 => ?_, fun x y hx h v v0 v1 => ?_⟩
  · exact cg_eq (sum_zero (fun w _ _ => Int.zero_mul _))
  · have e : redV ρ u (fun i => x i + y i) v = redV ρ u x v + redV ρ u y v := by
      unfold redV
      rw [← sum_add]
      exact sumF_congr (fun w _ _ => Int.add_mul _ _ _)
    rw [e]
    exact cg_tr (cg_add (hx v v0 v1) (hy v v0 v1)) (cg_eq (by omega))
  · have e : redV ρ u (fun i => c * x i) v = c * redV ρ u x v := by
      unfold redV
      rw [← sum_mulL]
      exact sumF_congr (fun w _ _ => Int.mul_assoc _ _ _)
    rw [e]
    exact cg_tr (cg_mulL c (hx v v0 v1)) (cg_eq (Int.mul_zero c))
  · exact cg_tr (red_cg (fun w a b => cg_sy (h w a b))) (hx v v0 v1)
theorem ahd_cg {p Q c : Int} {x y : Vc} (h : ∀ i, 0 ≤ i → i < Q → cg p (x i) (y i)) (i : Int) : cg p (ahd Q c x i) (ahd Q c y i) := by
  unfold ahd
  by_cases q : c * Q ≤ i ∧ i < c * Q + Q
  · rw [if_pos q, if_pos q]; exact h _ (by omega) (by omega)
  · rw [if_neg q, if_neg q]; exact cg_rf p 0
theorem bhd_cg {n p d c : Int} {x y : Vc} (n1 : 1 ≤ n) (h0 : 1 ≤ d) (h : ∀ i, 0 ≤ i → i < pw n (d - 1) → cg p (x i) (y i)) (i : Int) (i0 : 0 ≤ i) (i1 : i < pw n d) : cg p (bhd n c x i) (bhd n c y i) := by
  unfold bhd
  obtain ⟨b0, b1, -⟩ := head_B n1 h0 i0 i1
  by_cases q : i % n = c
  · rw [if_pos q, if_pos q]; exact h _ b0 b1
  · rw [if_neg q, if_neg q]; exact cg_rf p 0
theorem gn_rows {n p d c t : Int} {A Z : Int → Int} {V : Vc → Prop} (n1 : 1 ≤ n) (h0 : 1 ≤ d) (hV : SubV p (pw n d) V) (hE : EchOK n p (d - 1) A Z) (t0 : 0 ≤ t) (t1 : t < pw n (d - 1)) (h : ldq n (d - 1) Z t ≠ 0) : gnV n d A c t V ↔ V (ahd (pw n (d - 1)) c (rowV (RM n p (d - 1) A Z) t)) ∧ V (bhd n c (rowV (RM n p (d - 1) A Z) t)) :=
  and_congr (V_cg hV (fun i _ _ => cg_sy (ahd_cg (RM_row hE t0 t1 h) i))) (V_cg hV (fun i a b => cg_sy (bhd_cg n1 h0 (RM_row hE t0 t1 h) i a b)))
theorem doneM_g {n p e sz : Int} {len num A Z : Int → Int} (hp : 2 ≤ p) (n1 : 1 ≤ n) (h : DoneM n p e A Z (LwD n e sz len num)) (h' : 1 ≤ e → EchOK n p (e - 1) A Z) : DoneG n p sz len num (fun d => ldq n d Z) (fun d => RM n p d A Z) e := by
  obtain ⟨hE, hR, hz, hV⟩ := h
  have hS := RM_sys hp hE hR
  refine ⟨hS, hz, fun e1 => ?_⟩
  have key := (hV e1 _ (nought_sub (ρ := RM n p e A Z))).mp (fun w w0 w1 hl => (V_cg (nought_sub (ρ := RM n p e A Z)) (RM_row hE w0 w1 hl)).mp (fun v v0 v1 => by
    rw [red_row hS hS w0 w1 (fun _ _ _ z => z) v0 v1 hl]
    exact cg_eq (by omega)))
  refine ⟨⟨hS, fun V hV2 hI w w0 w1 => ?_, fun c t c0 c1 t0 t1 hl => ?_⟩, key.2⟩
  · by_cases q : ldq n e Z w = 0
    · refine (V_eq hV2 (fun i _ _ => ?_)).mp hV2.1
      show (0 : Int) = dl w i - RM n p e A Z w i
      rw [RM_0 q]; omega
    · refine (V_cg hV2 (RM_row hE w0 w1 q)).mpr ((hV e1 V hV2).mpr ⟨fun c t c0 c1 t0 t1 hl => ?_, hI.2⟩ w w0 w1 q)
      exact (gn_rows n1 e1 hV2 (h' e1) t0 t1 hl).mpr (hI.1 c t c0 c1 t0 t1 hl)
  · have := (gn_rows n1 e1 nought_sub (h' e1) t0 t1 hl).mp (key.1 c t c0 c1 t0 t1 hl)
    exact ⟨fun _ => this.1, fun _ => this.2⟩
theorem mod_same {n p sz : Int} {len num A Z : Int → Int} (hp : 2 ≤ p) (n1 : 1 ≤ n) {d : Int} (d0 : 0 ≤ d) (h : ∀ e, 0 ≤ e → e ≤ d → DoneM n p e A Z (LwD n e sz len num)) : ∀ w, 0 ≤ w → w < pw n d → ldq n d Z w = sld n p sz len num d w ∧ ∀ v, RM n p d A Z w v = srh n p sz len num d w v :=
  pick_eq (L := fun d => ldq n d Z) (R := fun d => RM n p d A Z) hp n1 d0 (fun e e0 e1 => doneM_g hp n1 (h e e0 e1) (fun z => (h (e - 1) (by omega) (by omega)).1))
/-! the same rows, the same things -/
def rEq (n e : Int) (A A2 Z Z2 : Int → Int) : Prop := ∀ w, 0 ≤ w → w < pw n e → ldq n e Z w = ldq n e Z2 w ∧ ∀ x, 0 ≤ x → x < pw n e → rwq n e A w x = rwq n e A2 w x
theorem rEq.rv {n e : Int} {A A2 Z Z2 : Int → Int} (h : rEq n e A A2 Z Z2) {w : Int} (w0 : 0 ≤ w) (w1 : w < pw n e) : rvV n e A w = rvV n e A2 w := by
  funext i
  unfold rvV
  by_cases q : 0 ≤ i ∧ i < pw n e
  · rw [if_pos q, if_pos q, (h w w0 w1).2 i q.1 q.2]
  · rw [if_neg q, if_neg q]
theorem rEq.ech {n p e : Int} {A A2 Z Z2 : Int → Int} (h : rEq n e A A2 Z Z2) (hE : EchOK n p e A Z) : EchOK n p e A2 Z2 := fun w w0 w1 => by
  have a := hE w w0 w1
  rw [(h w w0 w1).1, (h w w0 w1).2 w w0 w1] at a
  refine ⟨a.1, fun z => ⟨(a.2 z).1, fun x x0 x1 => ?_⟩⟩
  have b := (a.2 z).2 x x0 x1
  rw [(h w w0 w1).2 x x0 x1] at b
  exact b
theorem rEq.red {n e : Int} {A A2 Z Z2 : Int → Int} (h : rEq n e A A2 Z Z2) (hR : RedOK n e A Z) : RedOK n e A2 Z2 := fun w u u0 u1 w1 hw hu => by
  rw [← (h w (by omega) w1).2 u u0 (by omega)]
  exact hR w u u0 u1 w1 (by rw [(h w (by omega) w1).1]; exact hw) (by rw [(h u u0 (by omega)).1]; exact hu)
theorem rEq.rows {n e : Int} {A A2 Z Z2 : Int → Int} (h : rEq n e A A2 Z Z2) {V : Vc → Prop} : RowsIn n e A Z V ↔ RowsIn n e A2 Z2 V :=
  ⟨fun a w w0 w1 hl => by rw [← h.rv w0 w1]; exact a w w0 w1 (by rw [(h w w0 w1).1]; exact hl), fun a w w0 w1 hl => by rw [h.rv w0 w1]; exact a w w0 w1 (by rw [← (h w w0 w1).1]; exact hl)⟩
theorem rEq.gr {n d : Int} {A A2 Z Z2 : Int → Int} (h : rEq n (d - 1) A A2 Z Z2) {V : Vc → Prop} : GrV n d A Z (pw n (d - 1)) V ↔ GrV n d A2 Z2 (pw n (d - 1)) V :=
  ⟨fun a c t c0 c1 t0 t1 hl => by have := a c t c0 c1 t0 t1 (by rw [(h t t0 t1).1]; exact hl); unfold gnV at this ⊢; rw [← h.rv t0 t1]; exact this,
   fun a c t c0 c1 t0 t1 hl => by have := a c t c0 c1 t0 t1 (by rw [← (h t t0 t1).1]; exact hl); unfold gnV at this ⊢; rw [h.rv t0 t1]; exact this⟩
theorem rEq.done {n p e : Int} {A A2 Z Z2 : Int → Int} {Lw : Vc → Prop} (n1 : 1 ≤ n) (h : rEq n e A A2 Z Z2) (h' : 1 ≤ e → rEq n (e - 1) A A2 Z Z2) (hD : DoneM n p e A Z Lw) : DoneM n p e A2 Z2 Lw := by
  obtain ⟨a, b, c, d⟩ := hD
  refine ⟨h.ech a, h.red b, fun z => ?_, fun z V hV => ?_⟩
  · rw [← (h 0 (Int.le_refl 0) (by have := pw_pos (d := e) n1; omega)).1]; exact c z
  · rw [← h.rows, ← (h' z).gr]; exact d z V hV
theorem wsm_mono {n : Int} (n1 : 1 ≤ n) {e d : Int} (e0 : 0 ≤ e) (h : e < d) : wsm n e + pw n e ≤ wsm n d ∧ sqm n e + pw n e * pw n e ≤ sqm n d := by
  have key : ∀ k : Nat, wsm n e + pw n e ≤ wsm n (e + 1 + k) ∧ sqm n e + pw n e * pw n e ≤ sqm n (e + 1 + k) := by
    intro k
    induction k with
    | zero =>
      rw [show e + 1 + ((0 : Nat) : Int) = e + 1 by omega, wsm_s e0, sqm_s e0]
      exact ⟨Int.le_refl _, Int.le_refl _⟩
    | succ k ih =>
      rw [show e + 1 + ((k + 1 : Nat) : Int) = e + 1 + k + 1 by omega, wsm_s (by omega), sqm_s (by omega)]
      have := pw_pos (d := e + 1 + k) n1
      have h2 : 0 ≤ pw n (e + 1 + k) * pw n (e + 1 + k) := Int.mul_nonneg (by omega) (by omega)
      omega
  have := key (d - (e + 1)).toNat
  rw [show e + 1 + (((d - (e + 1)).toNat : Nat) : Int) = d by omega] at this
  exact this
theorem rEq_lo {n d e : Int} {A A2 Z Z2 : Int → Int} (n1 : 1 ≤ n) (e0 : 0 ≤ e) (h : e < d) (hA : ∀ x, x < sqm n d → A2 x = A x) (hZ : ∀ x, x < wsm n d → Z2 x = Z x) : rEq n e A A2 Z Z2 := fun w w0 w1 => by
  have hm := wsm_mono n1 e0 h
  refine ⟨(hZ _ (by omega)).symm, fun x x0 x1 => (hA _ ?_).symm⟩
  have b : (w + 1) * pw n e ≤ pw n e * pw n e := Int.mul_le_mul_of_nonneg_right (by omega) (by omega)
  rw [Int.add_mul, Int.one_mul] at b
  omega
theorem doneM_none {n p e : Int} {A Z : Int → Int} {Lw : Vc → Prop} (n1 : 1 ≤ n) (h : ∀ w, 0 ≤ w → w < pw n e → ldq n e Z w = 0) (h' : 1 ≤ e → ∀ w, 0 ≤ w → w < pw n (e - 1) → ldq n (e - 1) Z w = 0) (hL : ∀ x, ¬ Lw x) : DoneM n p e A Z Lw :=
  ⟨fun w w0 w1 => ⟨Or.inl (h w w0 w1), fun z => absurd (h w w0 w1) z⟩, fun w u u0 u1 w1 hw => absurd (h w (by omega) w1) hw, fun _ => h 0 (Int.le_refl 0) (by have := pw_pos (d := e) n1; omega), fun z V _ => ⟨fun _ => ⟨fun c t _ _ t0 t1 hl => absurd (h' z t t0 t1) hl, fun x hx => absurd hx (hL x)⟩, fun _ w w0 w1 hl => absurd (h w w0 w1) hl⟩⟩
/-- a law's numbers, up to x -/
def rwL (l : Int) (N old : Int → Int) (x : Int) : Int → Int := fun j => if 0 ≤ j ∧ j < x then N (81 * l + j) else if 0 ≤ j ∧ j < 243 then 0 else old j
theorem rwL_0 {l : Int} {N old : Int → Int} (j : Int) : rwL l N old 0 j = if 0 ≤ j ∧ j < 243 then 0 else old j := by unfold rwL; rw [if_neg (by omega)]
theorem rwL_s {l x : Int} {N old : Int → Int} (x0 : 0 ≤ x) (j : Int) : (if j = x then N (81 * l + x) else rwL l N old x j) = rwL l N old (x + 1) j := by
  unfold rwL
  by_cases q : j = x
  · rw [if_pos q, if_pos (by omega), q]
  · rw [if_neg q]
    by_cases q2 : 0 ≤ j ∧ j < x
    · rw [if_pos q2, if_pos (by omega)]
    · rw [if_neg q2, if_neg (show ¬ (0 ≤ j ∧ j < x + 1) by omega)]
theorem rwL_V {n p d l : Int} {N old : Int → Int} {V : Vc → Prop} (hV : SubV p (pw n d) V) : V (qvV (pw n d) (rwL l N old (pw n d))) ↔ V (lawR n d l N) := V_eq hV (fun i i0 i1 => by
  unfold qvV rwL lawR
  rw [if_pos ⟨i0, i1⟩, if_pos ⟨i0, i1⟩, if_pos ⟨i0, i1⟩, Int.mul_comm])
def LawsM (n p : Int) (M : AbM) (m : Nat) : Prop := 0 ≤ M m 6 ∧ M m 6 ≤ 8 ∧ ∀ i, 0 ≤ i → i < M m 6 → 2 ≤ M (m + 4) i ∧ M (m + 4) i ≤ 4 ∧ ∀ y, 0 ≤ y → y < pw n (M (m + 4) i) → 0 ≤ M (m + 5) (i * 81 + y) ∧ M (m + 5) (i * 81 + y) < p
/-- the rows at al, le are worked out -/
def MdOK (n p : Int) (A Z : Int → Int) (sz : Int) (len num : Int → Int) : Prop := ∀ e, 0 ≤ e → e ≤ Lg n → DoneM n p e A Z (LwD n e sz len num)
noncomputable def oNum (n p sz : Int) (len num : Int → Int) : Int → Int := fun k => srh n p sz len num 2 (k % 81) (nthF (nlA (sld n p sz len num 2)) (pw n 2) (k / 81))
noncomputable def MRd (n p : Int) (M : AbM) (m : Nat) : Prop := M m 13 ≠ 0 → MdOK n p (M (m + 8)) (M (m + 9)) (M m 6) (M (m + 4)) (M (m + 5)) ∧ (M m 14 = 0 → ∀ j, 0 ≤ j → j < 400 → M (m + 11) j = 0) ∧ (M m 14 ≠ 0 → MdOK n p (M (m + 10)) (M (m + 11)) (sNm n p (M m 6) (M (m + 4)) (M (m + 5)) 2) (fun _ => 2) (oNum n p (M m 6) (M (m + 4)) (M (m + 5))))
