/-! ===== elimination on the other side ===== -/
theorem cg_em {p a b : Int} (hp : 2 ≤ p) (h : cg p a b) : a % p = b % p := cg_in (cg_tr (cg_mod p a) (cg_tr h (cg_sy (cg_mod p b)))) (emod_in hp).1 (emod_in hp).2 (emod_in hp).1 (emod_in hp).2
/-- the whole row is kept -/
def kpM (p c x : Int) (E q : Int → Int) : Int → Int := fun y => if 81 * x ≤ y ∧ y < 81 * x + c then q (y - 81 * x) * ivf p (q x) % p else E y
def sbM (p c x : Int) (E q : Int → Int) : Int → Int := fun j => if x ≤ j ∧ j < c then (q j + (p - q x) * E (81 * x + j)) % p else q j
theorem sbM_sub {p c x : Int} {E q : Int → Int} (hp : 2 ≤ p) (j : Int) : sbM p c x E q j = subE p c x E q j := by
  unfold sbM subE
  by_cases z : x ≤ j ∧ j < c
  · rw [if_pos z, if_pos z, cg_em hp (cg_pv p _ _ _), show 81 * x + j = x * 81 + j by omega]
  · rw [if_neg z, if_neg z]
theorem tell_none {p c : Int} {s : ES} {q : Int → Int} (h : elim p c s.1 s.2.1 c.toNat 0 q = none) : stepE p c s q = s := by
  unfold stepE
  rw [h]
theorem tell_keep {p c x : Int} {s : ES} {q0 q : Int → Int} (c1 : c ≤ 81) (x0 : 0 ≤ x) (x1 : x < c) (h : elim p c s.1 s.2.1 c.toNat 0 q0 = some (x, q)) : eqES c (kpM p c x s.1 q, (fun j => if j = x then 1 else s.2.1 j), s.2.2 + 1) (stepE p c s q0) := by
  unfold stepE
  rw [h]
  refine ⟨fun _ _ _ => rfl, rfl, fun i j i0 ij j1 hz => ?_⟩
  show kpM p c x s.1 q (i * 81 + j) = keepE p c x s.1 q (i * 81 + j)
  unfold kpM keepE
  by_cases z : i = x
  · subst z
    rw [if_pos (by omega), if_pos (by omega), show i * 81 + j - 81 * i = j by omega, show i * 81 + j - i * 81 = j by omega]
  · rw [if_neg (by omega), if_neg (by omega)]
theorem rngE_kp {p c x : Int} {E T q : Int → Int} (hp : 2 ≤ p) (h : rngE p c E T) (x0 : 0 ≤ x) (c1 : c ≤ 81) : rngE p c (kpM p c x E q) (fun j => if j = x then 1 else T j) := by
  intro i j i0 ij j1 ht
  unfold kpM
  by_cases z : i = x
  · subst z
    rw [if_pos (by omega)]
    exact emod_in hp
  · have ht2 : (if i = x then 1 else T i) ≠ 0 := ht
    rw [if_neg z] at ht2
    rw [if_neg (by omega)]
    exact h i j i0 ij j1 ht2
theorem LeastR_cg {n : Int} {LS LS2 T T2 : Int → Int → Int} {i what r : Int} (h : ∀ d, 0 ≤ d → d ≤ Lg n → ∀ w, 0 ≤ w → w < pw n d → LS d w = LS2 d w ∧ (LS d w ≠ 0 → T d w = T2 d w)) (h2 : LeastR n LS T i what r) : LeastR n LS2 T2 i what r := by
  have es : ∀ k : Nat, (k : Int) ≤ Lg n + 1 → sumF (fun e => cntF (LS e) (pw n e)) k = sumF (fun e => cntF (LS2 e) (pw n e)) k := by
    intro k
    induction k with
    | zero => intro _; rfl
    | succ k ih =>
      intro hk
      rw [show ((k + 1 : Nat) : Int) = (k : Int) + 1 by omega, sumF_s (by omega), sumF_s (by omega), ih (by omega)]
      have : cntF (LS k) (pw n k) = cntF (LS2 k) (pw n k) := cntF_congr (fun w a b => by rw [(h k (by omega) (by omega) w a b).1])
      rw [this]
  have es2 : ∀ d, 0 ≤ d → d ≤ Lg n + 1 → sumF (fun e => cntF (LS e) (pw n e)) d = sumF (fun e => cntF (LS2 e) (pw n e)) d := fun d a b => by
    have := es d.toNat (by omega)
    rwa [show ((d.toNat : Nat) : Int) = d by omega] at this
  have hLB := Lg_B n
  rcases h2 with ⟨d, w, d0, d1, w0, w1, hl, hi, hr⟩ | ⟨ha, hr⟩
  · left
    have hh := h d d0 d1 w w0 w1
    refine ⟨d, w, d0, d1, w0, w1, by rw [← hh.1]; exact hl, ?_, by rw [← hh.2 hl]; exact hr⟩
    rw [← es2 d d0 (by omega), ← hi]
    have : cntF (LS2 d) w = cntF (LS d) w := cntF_congr (fun v a b => by rw [(h d d0 d1 v a (by omega)).1])
    rw [this]
  · right
    rw [es2 _ (by omega) (by omega)] at ha
    exact ⟨ha, hr⟩
theorem FitR_cg {n : Int} {F F2 : Int → Int} {r : Int} (h : ∀ e, 1 ≤ e → e ≤ Lg n → F e = F2 e) (h2 : FitR n F r) : FitR n F2 r := by
  rcases h2 with ⟨a, b, c, d⟩ | ⟨a, b⟩
  · exact Or.inl ⟨a, b, by rw [← h r a b]; exact c, fun e e0 e1 => by rw [← h e e0 (by omega)]; exact d e e0 e1⟩
  · exact Or.inr ⟨a, fun e e0 e1 => by rw [← h e e0 e1]; exact b e e0 e1⟩
theorem serF_cg {N N2 O O2 : Int → Int} {d : Int} (d0 : 0 ≤ d) (h : ∀ e, 0 ≤ e → e ≤ d → N e = N2 e ∧ O e = O2 e) : serF N O d = serF N2 O2 d := by
  unfold serF
  refine sumF_congr (fun i a b => ?_)
  rw [(h (d - i) (by omega) (by omega)).1, (h i a (by omega)).2]
/-- the numbers of an equation as they are laid -/
def rwE (n p d x t : Int) (L : Int → Int) (R : Int → Vc) (old : Int → Int) (u : Int) : Int → Int := fun j => if 0 ≤ j ∧ j < cntF (nlA L) u then eqA n p d L R x t j else if 0 ≤ j ∧ j < 243 then 0 else old j
theorem rwE_0 {n p d x t : Int} {L : Int → Int} {R : Int → Vc} {old : Int → Int} (j : Int) : rwE n p d x t L R old 0 j = if 0 ≤ j ∧ j < 243 then 0 else old j := by
  unfold rwE
  rw [cntF_0, if_neg (by omega)]
theorem rwE_s0 {n p d x t u : Int} {L : Int → Int} {R : Int → Vc} {old : Int → Int} (u0 : 0 ≤ u) (h : L u ≠ 0) (j : Int) : rwE n p d x t L R old u j = rwE n p d x t L R old (u + 1) j := by
  unfold rwE
  rw [cntF_s u0, if_pos (show nlA L u = 0 from if_neg h), Int.add_zero]
theorem rwE_s1 {n p d x t u : Int} {L : Int → Int} {R : Int → Vc} {old : Int → Int} (u0 : 0 ≤ u) (u1 : u < pw n d) (h : L u = 0) (j : Int) : (if j = cntF (nlA L) u then (R (x * pw n d + u) t + p - R (n * u + x) t) % p else rwE n p d x t L R old u j) = rwE n p d x t L R old (u + 1) j := by
  have zn : nlA L u = 1 := if_pos h
  have e := nthF_at (f := nlA L) (N := pw n d) u0 u1 (by rw [zn]; decide)
  have cB := cntF_B (f := nlA L) u0
  have cm := cnt_mono (f := nlA L) (a := u + 1) (b := pw n d) (by omega) (by omega)
  have cs := cntF_s (f := nlA L) u0
  rw [zn, if_neg (by decide)] at cs
  unfold rwE
  by_cases q : j = cntF (nlA L) u
  · rw [if_pos q, if_pos (by omega)]
    unfold eqA
    rw [if_pos (by omega), q, e, Int.mul_comm u n, show R (x * pw n d + u) t + p - R (n * u + x) t = R (x * pw n d + u) t - R (n * u + x) t + p by omega, Int.add_emod_right]
  · rw [if_neg q]
    by_cases q2 : 0 ≤ j ∧ j < cntF (nlA L) u
    · rw [if_pos q2, if_pos (by omega)]
    · rw [if_neg q2, if_neg (show ¬ (0 ≤ j ∧ j < cntF (nlA L) (u + 1)) by omega)]
