/-! ===== what the laws say of each length, without regard to how it is found ===== -/
def DoneG (n p sz : Int) (len num : Int → Int) (L : Int → Int → Int) (R : Int → Int → Vc) (e : Int) : Prop := Sys p (pw n e) (L e) (R e) ∧ (e = 0 → L e 0 = 0) ∧ (1 ≤ e → Good p n (pw n (e - 1)) (pw n e) (pw n e) (L (e - 1)) (R (e - 1)) (LwD n e sz len num) (L e) (R e) ∧ ∀ x, LwD n e sz len num x → nought p (pw n e) (R e) x)
theorem DoneD.g {n p e sz : Int} {len num F Z : Int → Int} (hp : 2 ≤ p) (h : DoneD n p e sz len num F Z) : DoneG n p sz len num (fun d => ldq n d Z) (fun d => rho n d F Z) e := ⟨h.1.sys hp, h.2.1, h.2.2⟩
theorem done_same {n p sz : Int} {len num : Int → Int} {L L2 : Int → Int → Int} {R R2 : Int → Int → Vc} (hp : 2 ≤ p) (n1 : 1 ≤ n) {d : Int} (d0 : 0 ≤ d) (h : ∀ e, 0 ≤ e → e ≤ d → DoneG n p sz len num L R e) (h2 : ∀ e, 0 ≤ e → e ≤ d → DoneG n p sz len num L2 R2 e) : ∀ w, 0 ≤ w → w < pw n d → L d w = L2 d w ∧ ∀ v, R d w v = R2 d w v := by
  have key : ∀ k : Nat, (k : Int) ≤ d → ∀ w, 0 ≤ w → w < pw n k → L k w = L2 k w ∧ ∀ v, R k w v = R2 k w v := by
    intro k
    induction k with
    | zero =>
      intro _ w w0 w1
      have p0 := pw_0 n
      have hw : w = 0 := by
        rw [show ((0 : Nat) : Int) = 0 from rfl, p0] at w1
        omega
      subst hw
      have a := h 0 (by omega) d0
      have b := h2 0 (by omega) d0
      have a1 := a.2.1 rfl
      have b1 := b.2.1 rfl
      show L 0 0 = L2 0 0 ∧ ∀ v, R 0 0 v = R2 0 0 v
      refine ⟨by rw [a1, b1], fun v => ?_⟩
      rw [(a.1 0 (by omega) (by omega)).2.1 a1, (b.1 0 (by omega) (by omega)).2.1 b1]
    | succ k ih =>
      intro hk
      have a := (h (k + 1) (by omega) (by omega)).2.2 (by omega)
      have b := (h2 (k + 1) (by omega) (by omega)).2.2 (by omega)
      rw [show ((k : Int) + 1 - 1) = k by omega] at a b
      have b' := Good.prev (fun t t0 t1 => ⟨((ih (by omega) t t0 t1).1).symm, fun v => ((ih (by omega) t t0 t1).2 v).symm⟩) b.1
      have hP := blk_B (n := n) (d := (k : Int) + 1) n1 (by omega)
      rw [show ((k : Int) + 1 - 1) = k by omega] at hP
      exact good_same hp hP a.1 b' a.2 b.2
  have := key d.toNat (by omega)
  rwa [show ((d.toNat : Nat) : Int) = d by omega] at this
noncomputable def pick (n p sz : Int) (len num : Int → Int) (d : Int) : (Int → Int → Int) × (Int → Int → Vc) := Classical.epsilon (fun q => ∀ e, 0 ≤ e → e ≤ d → DoneG n p sz len num q.1 q.2 e)
/-- whether a word leads; its form -/
noncomputable def sld (n p sz : Int) (len num : Int → Int) (d w : Int) : Int := (pick n p sz len num d).1 d w
noncomputable def srh (n p sz : Int) (len num : Int → Int) (d w v : Int) : Int := (pick n p sz len num d).2 d w v
theorem pick_eq {n p sz : Int} {len num : Int → Int} {L : Int → Int → Int} {R : Int → Int → Vc} (hp : 2 ≤ p) (n1 : 1 ≤ n) {d : Int} (d0 : 0 ≤ d) (h : ∀ e, 0 ≤ e → e ≤ d → DoneG n p sz len num L R e) : ∀ w, 0 ≤ w → w < pw n d → L d w = sld n p sz len num d w ∧ ∀ v, R d w v = srh n p sz len num d w v := by
  have h2 : ∀ e, 0 ≤ e → e ≤ d → DoneG n p sz len num (pick n p sz len num d).1 (pick n p sz len num d).2 e := Classical.epsilon_spec (p := fun q : (Int → Int → Int) × (Int → Int → Vc) => ∀ e, 0 ≤ e → e ≤ d → DoneG n p sz len num q.1 q.2 e) ⟨(L, R), h⟩
  have h3 := done_same (L2 := (pick n p sz len num d).1) (R2 := (pick n p sz len num d).2) hp n1 d0 h h2
  exact h3
/-- normal: 1; a least law's word: 1 -/
def nlA (L : Int → Int) (w : Int) : Int := if L w = 0 then 1 else 0
def lsA (n d : Int) (L' L : Int → Int) (w : Int) : Int := if 0 < d ∧ L w ≠ 0 ∧ L' (w % pw n (d - 1)) = 0 ∧ L' (w / n) = 0 then 1 else 0
def eqA (n p d : Int) (L : Int → Int) (R : Int → Vc) (x t : Int) : Int → Int := fun j => if 0 ≤ j ∧ j < cntF (nlA L) (pw n d) then (R (x * pw n d + nthF (nlA L) (pw n d) j) t - R (nthF (nlA L) (pw n d) j * n + x) t) % p else 0
def rowsTA (n p d : Int) (L L1 : Int → Int) (R : Int → Vc) (x : Int) : Nat → ES → ES
  | 0, s => s
  | k + 1, s => if L1 (k : Int) = 0 then stepE p (cntF (nlA L) (pw n d)) (rowsTA n p d L L1 R x k s) (eqA n p d L R x (k : Int)) else rowsTA n p d L L1 R x k s
def rowsXA (n p d : Int) (L L1 : Int → Int) (R : Int → Vc) : Nat → ES → ES
  | 0, s => s
  | k + 1, s => rowsTA n p d L L1 R (k : Int) (pw n (d + 1)).toNat (rowsXA n p d L L1 R k s)
def midA (n p d : Int) (L L1 : Int → Int) (R : Int → Vc) : Int := cntF (nlA L) (pw n d) - (rowsXA n p d L L1 R n.toNat ((fun _ => 0), (fun _ => 0), 0)).2.2
theorem eqA_congr {n p d x t : Int} {L L2 : Int → Int} {R R2 : Int → Vc} (n1 : 1 ≤ n) (d0 : 0 ≤ d) (hL : ∀ w, 0 ≤ w → w < pw n d → L w = L2 w) (hR : ∀ w, 0 ≤ w → w < pw n (d + 1) → ∀ v, R w v = R2 w v) (x0 : 0 ≤ x) (x1 : x < n) : eqA n p d L R x t = eqA n p d L2 R2 x t := by
  have hz : ∀ i, 0 ≤ i → i < pw n d → (nlA L i = 0 ↔ nlA L2 i = 0) := fun i a b => by unfold nlA; rw [hL i a b]
  have en : cntF (nlA L) (pw n d) = cntF (nlA L2) (pw n d) := cntF_congr hz
  funext j
  unfold eqA
  rw [← en]
  by_cases q : 0 ≤ j ∧ j < cntF (nlA L) (pw n d)
  · rw [if_pos q, if_pos q, ← nthF_congr hz]
    have hp := pw_pos (d := d) n1
    obtain ⟨a, b, -⟩ := nthF_in (f := nlA L) (N := pw n d) (by omega) q.1 q.2
    have B := blk_B (d := d + 1) n1 (by omega) x (nthF (nlA L) (pw n d) j) x0 x1 a (by rw [show d + 1 - 1 = d by omega]; exact b)
    rw [show d + 1 - 1 = d by omega] at B
    have c1 : 0 ≤ x * pw n d := Int.mul_nonneg x0 (by omega)
    have c2 : 0 ≤ nthF (nlA L) (pw n d) j * n := Int.mul_nonneg a (by omega)
    rw [hR _ (by omega) B.1, hR _ (by omega) B.2]
  · rw [if_neg q, if_neg q]
theorem midA_congr {n p d : Int} {L L2 L1 M1 : Int → Int} {R R2 : Int → Vc} (n1 : 1 ≤ n) (d0 : 0 ≤ d) (hL : ∀ w, 0 ≤ w → w < pw n d → L w = L2 w) (hL1 : ∀ w, 0 ≤ w → w < pw n (d + 1) → L1 w = M1 w) (hR : ∀ w, 0 ≤ w → w < pw n (d + 1) → ∀ v, R w v = R2 w v) : midA n p d L L1 R = midA n p d L2 M1 R2 := by
  have en : cntF (nlA L) (pw n d) = cntF (nlA L2) (pw n d) := cntF_congr (fun i a b => by unfold nlA; rw [hL i a b])
  have hT : ∀ (x : Int), 0 ≤ x → x < n → ∀ (k : Nat) (s : ES), (k : Int) ≤ pw n (d + 1) → rowsTA n p d L L1 R x k s = rowsTA n p d L2 M1 R2 x k s := by
    intro x x0 x1 k
    induction k with
    | zero => intro s _; rfl
    | succ k ih =>
      intro s hk
      show (if L1 (k : Int) = 0 then _ else _) = (if M1 (k : Int) = 0 then _ else _)
      rw [← hL1 k (by omega) (by omega), ih s (by omega), ← en, eqA_congr n1 d0 hL hR x0 x1]
  have hX : ∀ (k : Nat) (s : ES), (k : Int) ≤ n → rowsXA n p d L L1 R k s = rowsXA n p d L2 M1 R2 k s := by
    intro k
    induction k with
    | zero => intro s _; rfl
    | succ k ih =>
      intro s hk
      have hp := pw_pos (d := d + 1) n1
      show rowsTA n p d L L1 R (k : Int) (pw n (d + 1)).toNat (rowsXA n p d L L1 R k s) = rowsTA n p d L2 M1 R2 (k : Int) (pw n (d + 1)).toNat (rowsXA n p d L2 M1 R2 k s)
      rw [ih s (by omega), hT k (by omega) (by omega) _ _ (by omega)]
  unfold midA
  rw [en, hX _ _ (by omega)]
theorem rowsT_A {n p d : Int} {F Z : Int → Int} {x : Int} : ∀ (k : Nat) (s : ES), rowsT n p d F Z x k s = rowsTA n p d (ldq n d Z) (ldq n (d + 1) Z) (rho n (d + 1) F Z) x k s
  | 0, s => rfl
  | k + 1, s => by
    show (if ldq n (d + 1) Z (k : Int) = 0 then _ else _) = (if ldq n (d + 1) Z (k : Int) = 0 then _ else _)
    rw [rowsT_A k s]
    rfl
theorem rowsX_A {n p d : Int} {F Z : Int → Int} : ∀ (k : Nat) (s : ES), rowsX n p d F Z k s = rowsXA n p d (ldq n d Z) (ldq n (d + 1) Z) (rho n (d + 1) F Z) k s
  | 0, s => rfl
  | k + 1, s => by
    show rowsT n p d F Z (k : Int) (pw n (d + 1)).toNat (rowsX n p d F Z k s) = rowsTA n p d _ _ _ (k : Int) (pw n (d + 1)).toNat (rowsXA n p d _ _ _ k s)
    rw [rowsX_A k s, rowsT_A]
theorem midV_A {n p d : Int} {F Z : Int → Int} : midV n p d F Z = midA n p d (ldq n d Z) (ldq n (d + 1) Z) (rho n (d + 1) F Z) := by
  unfold midV midA
  rw [rowsX_A]
  rfl
/-! the answers -/
noncomputable def sNm (n p sz : Int) (len num : Int → Int) (d : Int) : Int := cntF (nlA (sld n p sz len num d)) (pw n d)
noncomputable def sLs (n p sz : Int) (len num : Int → Int) (d : Int) : Int := cntF (lsA n d (sld n p sz len num (d - 1)) (sld n p sz len num d)) (pw n d)
noncomputable def sMid (n p sz : Int) (len num : Int → Int) (d : Int) : Int := midA n p d (sld n p sz len num d) (sld n p sz len num (d + 1)) (srh n p sz len num (d + 1))
/-- the class's rows say what the laws say -/
theorem alg_same {n p : Int} {M : AbM} {b g : Nat} (hp : 2 ≤ p) (n1 : 1 ≤ n) (hA : AlgOK n p M b g) {d : Int} (d0 : 0 ≤ d) (d1 : d ≤ M b 8) : ∀ w, 0 ≤ w → w < pw n d → ldq n d (M (b + 2)) w = sld n p (M g 2) (M (g + 1)) (M (g + 2)) d w ∧ ∀ v, rho n d (M (b + 1)) (M (b + 2)) w v = srh n p (M g 2) (M (g + 1)) (M (g + 2)) d w v :=
  pick_eq (L := fun d => ldq n d (M (b + 2))) (R := fun d => rho n d (M (b + 1)) (M (b + 2))) hp n1 d0 (fun e e0 e1 => (hA.2.2.1 e e0 (by omega)).1.g hp)
theorem alg_nm {n p : Int} {M : AbM} {b g : Nat} (hp : 2 ≤ p) (n1 : 1 ≤ n) (hA : AlgOK n p M b g) {d : Int} (d0 : 0 ≤ d) (d1 : d ≤ M b 8) : nmC n d (M (b + 2)) = sNm n p (M g 2) (M (g + 1)) (M (g + 2)) d := by
  have h := alg_same hp n1 hA d0 d1
  exact cntF_congr (fun w a b => by unfold nlF nlA; rw [(h w a b).1])
theorem alg_ls {n p : Int} {M : AbM} {b g : Nat} (hp : 2 ≤ p) (n1 : 1 ≤ n) (hA : AlgOK n p M b g) {d : Int} (d0 : 0 ≤ d) (d1 : d ≤ M b 8) {w : Int} (w0 : 0 ≤ w) (w1 : w < pw n d) : lsF n d (M (b + 2)) w = lsA n d (sld n p (M g 2) (M (g + 1)) (M (g + 2)) (d - 1)) (sld n p (M g 2) (M (g + 1)) (M (g + 2)) d) w := by
  have h := alg_same hp n1 hA d0 d1
  unfold lsF lsA
  rw [(h w w0 w1).1]
  by_cases q : 0 < d
  · have h' := alg_same (d := d - 1) hp n1 hA (by omega) (by omega)
    obtain ⟨t0, t1, -⟩ := tail_B (d := d) n1 (by omega) w0 w1
    obtain ⟨u0, u1, -⟩ := head_B (d := d) n1 (by omega) w0 w1
    rw [(h' _ t0 t1).1, (h' _ u0 u1).1]
  · rw [if_neg (fun z => q z.1), if_neg (fun z => q z.1)]
theorem alg_mid {n p : Int} {M : AbM} {b g : Nat} (hp : 2 ≤ p) (n1 : 1 ≤ n) (hA : AlgOK n p M b g) {d : Int} (d0 : 0 ≤ d) (d1 : d + 1 ≤ M b 8) : midV n p d (M (b + 1)) (M (b + 2)) = sMid n p (M g 2) (M (g + 1)) (M (g + 2)) d := by
  have h := alg_same hp n1 hA d0 (by omega)
  have h1 := alg_same (d := d + 1) hp n1 hA (by omega) d1
  rw [midV_A]
  exact midA_congr n1 d0 (fun w a b => (h w a b).1) (fun w a b => (h1 w a b).1) (fun w a b => (h1 w a b).2)
