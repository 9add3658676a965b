/-! ===== rows that are nought, words that lead ===== -/
theorem SpanOK.congr {p n Q P u : Int} {L' : Int → Int} {ρ' : Int → Vc} {Lw : Vc → Prop} {ρ ρ2 : Int → Vc} (h : ∀ w, 0 ≤ w → w < u → ∀ v, ρ w v = ρ2 w v) (hS : SpanOK p n Q P u L' ρ' Lw ρ) : SpanOK p n Q P u L' ρ' Lw ρ2 := fun V hV hI w w0 w1 => by
  rw [← rowV_eq (h w w0 w1)]
  exact hS V hV hI w w0 w1
theorem nought.congr {p u : Int} {ρ ρ2 : Int → Vc} {x : Vc} (h : ∀ w, 0 ≤ w → w < u → ∀ v, ρ w v = ρ2 w v) (hn : nought p u ρ x) : nought p u ρ2 x := fun v v0 v1 => by
  rw [← red_same h]
  exact hn v v0 v1
/-- what takeNought does, in rows -/
def TN (n p d u : Int) (F Z G F2 Z2 : Int → Int) : Prop := ((∀ v, 0 ≤ v → v < u → G v = 0) ∧ F2 = F ∧ Z2 = Z) ∨ ∃ k, 0 ≤ k ∧ k < u ∧ G k ≠ 0 ∧ (∀ v, k < v → v < u → G v = 0) ∧ Z2 = stZ n d k 1 Z ∧ (∀ w v, 0 ≤ v → v ≤ w → w < pw n d → fmq n d F2 w v = newFm n p d k u F Z G w v) ∧ ∀ x, x < fsm n d → F2 x = F x
theorem TN.lo {n p d u : Int} {F Z G F2 Z2 : Int → Int} (h : TN n p d u F Z G F2 Z2) : (∀ x, x < fsm n d → F2 x = F x) ∧ ∀ x, x < wsm n d → Z2 x = Z x := by
  rcases h with ⟨-, rfl, rfl⟩ | ⟨k, k0, -, -, -, rfl, -, h⟩
  · exact ⟨fun _ _ => rfl, fun _ _ => rfl⟩
  · exact ⟨h, fun x hx => stZ_lo k0 hx⟩
theorem nought_good {n p d u : Int} {F Z G F2 Z2 : Int → Int} {Q : Int} {L' : Int → Int} {ρ' : Int → Vc} {Lw : Vc → Prop} {X : Vc} (hp : Pr p) (u1 : u ≤ pw n d) (h : WF n p d u F Z) (hSp : SpanOK p n Q (pw n d) u L' ρ' Lw (rho n d F Z)) (hX : ∀ V, SubV p (pw n d) V → InV n Q L' ρ' Lw V → V X) (hX2 : ∀ i, u ≤ i → i < pw n d → X i = 0) (hGr : ∀ v, 0 ≤ v → v < u → 0 ≤ G v ∧ G v < p) (hGX : ∀ v, 0 ≤ v → v < u → cg p (redV (rho n d F Z) u X v) (G v)) (hT : TN n p d u F Z G F2 Z2) :
    WF n p d u F2 Z2 ∧ SpanOK p n Q (pw n d) u L' ρ' Lw (rho n d F2 Z2) ∧ nought p u (rho n d F2 Z2) X ∧ ∀ x, nought p u (rho n d F Z) x → nought p u (rho n d F2 Z2) x := by
  obtain ⟨p1, p2, -⟩ := id hp
  have hS := h.sys p1
  rcases hT with ⟨hz, rfl, rfl⟩ | ⟨k, k0, k1, hk, hz, rfl, hF, -⟩
  · exact ⟨h, hSp, fun v v0 v1 => by have := hGX v v0 v1; rw [hz v v0 v1] at this; exact this, fun x hx => hx⟩
  · have hG : ∀ v, 0 ≤ v → v < u → 0 ≤ G v ∧ G v < p ∧ (G v ≠ 0 → ldq n d Z v = 0) := fun v v0 v1 => by
      have h1 := hGr v v0 v1
      refine ⟨h1.1, h1.2, fun z => ?_⟩
      by_cases y : ldq n d Z v = 0
      · exact y
      · have h2 := hGX v v0 v1
        rw [red_nl hS y] at h2
        exact absurd (cg_in (cg_sy h2) h1.1 h1.2 (by omega) (by omega)) z
    obtain ⟨e, hW⟩ := nought_mem hp u1 h k0 k1 hG hF
    have hGk := hG k k0 k1
    have hlk := hGk.2.2 hk
    have er : ∀ w, 0 ≤ w → w < u → ∀ v, subR p k (ldq n d Z) (rho n d F Z) (nrI p k k G) w v = rho n d F2 (stZ n d k 1 Z) w v := fun w a b v => ((e w a b).2 v).symm
    refine ⟨hW, (step_span hp u1 hS hSp hX hX2 hGX k0 k1 hlk (by omega) hGk.2.1 hz).congr er, ?_, fun x hx => ?_⟩
    · exact nought.congr er (nr_red hp hS k0 k1 hlk (by omega) hGk.2.1 hz hGX)
    · exact nought.congr er (nr_red0 hS k0 k1 hlk hx)
/-- a word leads by the row X, its form is G -/
theorem fs_lead {n p d w : Int} {F Z G : Int → Int} {Q : Int} {L' : Int → Int} {ρ' : Int → Vc} {Lw : Vc → Prop} {X : Vc} (hp : 2 ≤ p) (w0 : 0 ≤ w) (h : WF n p d w F Z) (hSp : SpanOK p n Q (pw n d) w L' ρ' Lw (rho n d F Z)) (hX : ∀ V, SubV p (pw n d) V → InV n Q L' ρ' Lw V → V X) (hX1 : X w = 1) (hX2 : ∀ i, w < i → i < pw n d → X i = 0) (hGr : ∀ v, 0 ≤ v → v ≤ w → 0 ≤ G v ∧ G v < p) (hGw : G w = 0) (hGX : ∀ v, 0 ≤ v → v < w → cg p (G v) (-redV (rho n d F Z) w X v)) :
    (∀ x, x < fsm n d → cpF (fsm n d + w * (w + 1) / 2) (w + 1) G F x = F x) ∧ WF n p d (w + 1) (cpF (fsm n d + w * (w + 1) / 2) (w + 1) G F) (stZ n d w 1 Z) ∧ SpanOK p n Q (pw n d) (w + 1) L' ρ' Lw (rho n d (cpF (fsm n d + w * (w + 1) / 2) (w + 1) G F) (stZ n d w 1 Z)) ∧ nought p (w + 1) (rho n d (cpF (fsm n d + w * (w + 1) / 2) (w + 1) G F) (stZ n d w 1 Z)) X ∧ (∀ x : Vc, x w = 0 → nought p w (rho n d F Z) x → nought p (w + 1) (rho n d (cpF (fsm n d + w * (w + 1) / 2) (w + 1) G F) (stZ n d w 1 Z)) x) ∧ (∀ w2, 0 ≤ w2 → w2 < w → ∀ v, rho n d F Z w2 v = rho n d (cpF (fsm n d + w * (w + 1) / 2) (w + 1) G F) (stZ n d w 1 Z) w2 v) ∧ ∀ v, rho n d (cpF (fsm n d + w * (w + 1) / 2) (w + 1) G F) (stZ n d w 1 Z) w v = if 0 ≤ v ∧ v < w then G v else 0 := by
  have htn := tri_nn w0
  generalize hF2 : cpF (fsm n d + w * (w + 1) / 2) (w + 1) G F = F2
  have fo : ∀ w2, 0 ≤ w2 → w2 < w → ∀ v, 0 ≤ v → v ≤ w2 → fmq n d F w2 v = fmq n d F2 w2 v := fun w2 a b v v0 v1 => by
    unfold fmq
    rw [← hF2, cpF_out]
    intro z
    have t := tri_lt a b
    omega
  have fw : ∀ v, 0 ≤ v → v ≤ w → fmq n d F2 w v = G v := fun v v0 v1 => by
    unfold fmq
    rw [← hF2, cpF_in (by omega) (by omega)]
    congr 1
    omega
  have hl : ∀ w2, 0 ≤ w2 → w2 < w → ldq n d Z w2 = ldq n d (stZ n d w 1 Z) w2 := fun w2 _ b => (stZ_n (by omega)).symm
  have hr : ∀ w2, 0 ≤ w2 → w2 < w → ∀ v, rho n d F Z w2 v = rho n d F2 (stZ n d w 1 Z) w2 v := fun w2 a b => rho_eq (hl w2 a b) (fun _ v v0 v1 => fo w2 a b v v0 (by omega))
  have hrw : ∀ v, rho n d F2 (stZ n d w 1 Z) w v = if 0 ≤ v ∧ v < w then G v else 0 := fun v => by
    unfold rho
    rw [stZ_s, if_neg (by decide)]
    by_cases q : 0 ≤ v ∧ v < w
    · rw [if_pos q, if_pos q, fw v q.1 (by omega)]
    · rw [if_neg q, if_neg q]
  have hS := (h.sys hp).congr (L2 := ldq n d (stZ n d w 1 Z)) (ρ2 := rho n d F2 (stZ n d w 1 Z)) (fun w2 a b => ⟨hl w2 a b, hr w2 a b⟩)
  obtain ⟨g1, g2, g3⟩ := step_lead hp w0 hS (hSp.congr hr) stZ_s hX hX1 hX2 (fun v => by
      rw [hrw]
      by_cases q : 0 ≤ v ∧ v < w
      · rw [if_pos q]; exact hGr v q.1 (by omega)
      · rw [if_neg q]; omega) (fun v v0 v1 => by
      rw [hrw, if_pos ⟨v0, v1⟩, ← red_same hr]
      exact hGX v v0 v1) (fun v q => by rw [hrw, if_neg q])
  refine ⟨fun x hx => by rw [← hF2]; exact cpF_out (by omega), fun w2 a b => ?_, g2, g3, fun x hx hn => gen_ext w0 hS hx (nought.congr hr hn), hr, hrw⟩
  obtain ⟨y1, y2, y3⟩ := g1 w2 a b
  refine ⟨y1, fun z v v0 v1 => ?_⟩
  rcases (show w2 < w ∨ w2 = w by omega) with q | q
  · have h1 := (h w2 a q).2 (by rw [hl w2 a q]; exact z) v v0 v1
    rw [fo w2 a q v v0 v1, hl v v0 (by omega)] at h1
    exact h1
  · subst q
    rw [fw v v0 v1]
    have h1 := hGr v v0 v1
    refine ⟨h1.1, h1.2, fun y => ?_⟩
    rcases (show v < w2 ∨ v = w2 by omega) with x | x
    · have h2 := (y3 z v).2.2 (by rw [hrw, if_pos ⟨v0, x⟩]; exact y)
      exact ⟨h2.2.2, x⟩
    · rw [x] at y
      exact absurd hGw y
/-- the sums of the class are what the rows are reduced to -/
theorem tail_red {n p d w v : Int} {F Z : Int → Int} (hp : 2 ≤ p) (n1 : 1 ≤ n) (h0 : 1 ≤ d) (w0 : 0 ≤ w) (w1 : w < pw n d) (hpr : WF n p (d - 1) (pw n (d - 1)) F Z) (hl : ldq n (d - 1) Z (w % pw n (d - 1)) ≠ 0) : redV (rho n d F Z) w (ahd (pw n (d - 1)) (w / pw n (d - 1)) (rowV (rho n (d - 1) F Z) (w % pw n (d - 1)))) v = -tailS n d F Z w (w % pw n (d - 1)) v := by
  obtain ⟨t0, t1, l0, l1, tl⟩ := tail_B n1 h0 w0 w1
  rw [red_ahd (m := w % pw n (d - 1)) l0 t0 (by omega) (by omega) (fun s a b c => by omega)]
  unfold tailS
  rw [← Int.neg_one_mul, ← sum_mulL]
  refine sumF_congr (fun s a b => ?_)
  have e : rowV (rho n (d - 1) F Z) (w % pw n (d - 1)) s = -fmq n (d - 1) F (w % pw n (d - 1)) s := by
    unfold rowV rho
    rw [dl_n (by omega), if_neg hl, if_pos ⟨a, b⟩]
    omega
  rw [e, Int.neg_mul, Int.neg_one_mul]
theorem head_red {n p d w v : Int} {F Z : Int → Int} (hp : 2 ≤ p) (n1 : 1 ≤ n) (h0 : 1 ≤ d) (w0 : 0 ≤ w) (w1 : w < pw n d) (hl : ldq n (d - 1) Z (w / n) ≠ 0) {ρ : Int → Vc} (hr : ∀ w2, 0 ≤ w2 → w2 < w → ∀ v, rho n d F Z w2 v = ρ w2 v) (c : Int) : c * redV ρ w (bhd n (w % n) (rowV (rho n (d - 1) F Z) (w / n))) v = -headS n d F Z w c (w / n) v := by
  obtain ⟨t0, t1, l0, l1, tl⟩ := head_B n1 h0 w0 w1
  have hm : (w / n - 1) * n = w / n * n - n := by rw [Int.sub_mul, Int.one_mul]
  rw [red_bhd (m := w / n) n1 l0 l1 t0 w0 (by omega) (fun s a b => by
    exfalso
    have : w / n * n ≤ s * n := Int.mul_le_mul_of_nonneg_right a (by omega)
    omega)]
  unfold headS
  rw [← Int.neg_one_mul, ← sum_mulL, ← sum_mulL]
  refine sumF_congr (fun s a b => ?_)
  have e : rowV (rho n (d - 1) F Z) (w / n) s = -fmq n (d - 1) F (w / n) s := by
    unfold rowV rho
    rw [dl_n (by omega), if_neg hl, if_pos ⟨a, b⟩]
    omega
  have hin : s * n + w % n < w := by
    have h8 : (s + 1) * n ≤ w / n * n := Int.mul_le_mul_of_nonneg_right (by omega) (by omega)
    rw [Int.add_mul, Int.one_mul] at h8
    omega
  have hin0 : 0 ≤ s * n := Int.mul_nonneg a (by omega)
  rw [e, ← hr _ (by omega) hin, Int.neg_mul, Int.neg_one_mul, Int.mul_neg, ← Int.mul_assoc, Int.mul_comm c]
