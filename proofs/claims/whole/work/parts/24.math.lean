/-! ===== followShorter's outcomes ===== -/
theorem tailS_top {n d w i : Int} {F Z : Int → Int} (h : ∀ s, 0 ≤ s → s < i → w / pw n (d - 1) * pw n (d - 1) + s < w) : tailS n d F Z w i w = 0 := sum_zero (fun s a b => by rw [rho_hi (h s a b), Int.mul_zero])
theorem headS_top {n d w c i : Int} {F Z : Int → Int} (h : ∀ s, 0 ≤ s → s < i → s * n + w % n < w) : headS n d F Z w c i w = 0 := sum_zero (fun s a b => by rw [rho_hi (h s a b), Int.mul_zero])
theorem head_in {n d w s : Int} (n1 : 1 ≤ n) (a : 0 ≤ s) (b : s < w / n) : 0 ≤ s * n + w % n ∧ s * n + w % n < w := by
  have e : w / n * n + w % n = w := by rw [Int.mul_comm]; exact Int.mul_ediv_add_emod _ _
  have h8 : (s + 1) * n ≤ w / n * n := Int.mul_le_mul_of_nonneg_right (by omega) (by omega)
  rw [Int.add_mul, Int.one_mul] at h8
  have h9 : 0 ≤ s * n := Int.mul_nonneg a (by omega)
  have h10 : 0 ≤ w % n := Int.emod_nonneg _ (by omega)
  omega
theorem tailS_eq {n d w i v : Int} {F F2 Z Z2 : Int → Int} (hf : ∀ s, 0 ≤ s → s < i → fmq n (d - 1) F (w % pw n (d - 1)) s = fmq n (d - 1) F2 (w % pw n (d - 1)) s) (hr : ∀ s, 0 ≤ s → s < i → rho n d F Z (w / pw n (d - 1) * pw n (d - 1) + s) v = rho n d F2 Z2 (w / pw n (d - 1) * pw n (d - 1) + s) v) : tailS n d F Z w i v = tailS n d F2 Z2 w i v := sumF_congr (fun s a b => by rw [hf s a b, hr s a b])
theorem headS_eq {n d w c i v : Int} {F F2 Z Z2 : Int → Int} (hf : ∀ s, 0 ≤ s → s < i → fmq n (d - 1) F (w / n) s = fmq n (d - 1) F2 (w / n) s) (hr : ∀ s, 0 ≤ s → s < i → rho n d F Z (s * n + w % n) v = rho n d F2 Z2 (s * n + w % n) v) : headS n d F Z w c i v = headS n d F2 Z2 w c i v := sumF_congr (fun s a b => by rw [hf s a b, hr s a b])
/-- what stands behind a first form: the word w leads, by the row X -/
def LeadOK (n p d w : Int) (Lw : Vc → Prop) (F Z F2 Z2 : Int → Int) (X : Vc) : Prop := (∀ x, x < fsm n d → F2 x = F x) ∧ (∀ x, x < wsm n d → Z2 x = Z x) ∧ WF n p d (w + 1) F2 Z2 ∧ SpanOK p n (pw n (d - 1)) (pw n d) (w + 1) (ldq n (d - 1) Z) (rho n (d - 1) F Z) Lw (rho n d F2 Z2) ∧ nought p (w + 1) (rho n d F2 Z2) X ∧ (∀ x : Vc, x w = 0 → nought p w (rho n d F Z) x → nought p (w + 1) (rho n d F2 Z2) x) ∧ ∀ w2, 0 ≤ w2 → w2 < w → ∀ v, rho n d F Z w2 v = rho n d F2 Z2 w2 v
theorem fs_tail {n p d w : Int} {Lw : Vc → Prop} {F Z G : Int → Int} (hp : Pr p) (n1 : 1 ≤ n) (h0 : 1 ≤ d) (w0 : 0 ≤ w) (w1 : w < pw n d) (h : WF n p d w F Z) (hpr : WF n p (d - 1) (pw n (d - 1)) F Z) (hG : GoodD n p d w Lw F Z) (hl : ldq n (d - 1) Z (w % pw n (d - 1)) ≠ 0) (hGe : ∀ v, 0 ≤ v → v ≤ w → G v = tailS n d F Z w (w % pw n (d - 1)) v % p) : LeadOK n p d w Lw F Z (cpF (fsm n d + w * (w + 1) / 2) (w + 1) G F) (stZ n d w 1 Z) (ahd (pw n (d - 1)) (w / pw n (d - 1)) (rowV (rho n (d - 1) F Z) (w % pw n (d - 1)))) := by
  obtain ⟨p1, p2, -⟩ := id hp
  obtain ⟨t0, t1, l0, l1, tl⟩ := tail_B n1 h0 w0 w1
  have hS' := hpr.sys p1
  obtain ⟨a1, a2, a3, a4, a5, a6, a7⟩ := fs_lead (G := G) (X := ahd (pw n (d - 1)) (w / pw n (d - 1)) (rowV (rho n (d - 1) F Z) (w % pw n (d - 1)))) p1 w0 h hG.2.1 (fun V hV hI => (hI.1 _ _ l0 l1 t0 t1 hl).1) (by have := ahd_top (c := w / pw n (d - 1)) (x := rowV (rho n (d - 1) F Z) (w % pw n (d - 1))) t0 t1; rw [tl] at this; rw [this]; exact row_top hS' t0 t1 hl) (fun i hi _ => ahd_hi (t := w % pw n (d - 1)) (fun s hs => row_hi hS' t0 t1 hs) (by omega)) (fun v v0 v1 => by rw [hGe v v0 v1]; exact emod_in p1) (by rw [hGe w w0 (Int.le_refl _), tailS_top (fun s a b => by omega)]; rfl) (fun v v0 v1 => by
    rw [tail_red p1 n1 h0 w0 w1 hpr hl, hGe v v0 (by omega), Int.neg_neg]
    exact cg_mod p _)
  exact ⟨a1, fun x hx => stZ_lo w0 hx, a2, a3, a4, a5, a6⟩
theorem fs_head {n p d w : Int} {Lw : Vc → Prop} {F Z G : Int → Int} (hp : Pr p) (n1 : 1 ≤ n) (h0 : 1 ≤ d) (w0 : 0 ≤ w) (w1 : w < pw n d) (h : WF n p d w F Z) (hpr : WF n p (d - 1) (pw n (d - 1)) F Z) (hG : GoodD n p d w Lw F Z) (hl : ldq n (d - 1) Z (w / n) ≠ 0) (hGe : ∀ v, 0 ≤ v → v ≤ w → G v = headS n d F Z w 1 (w / n) v % p) : LeadOK n p d w Lw F Z (cpF (fsm n d + w * (w + 1) / 2) (w + 1) G F) (stZ n d w 1 Z) (bhd n (w % n) (rowV (rho n (d - 1) F Z) (w / n))) := by
  obtain ⟨p1, p2, -⟩ := id hp
  obtain ⟨t0, t1, l0, l1, tl⟩ := head_B n1 h0 w0 w1
  have hS' := hpr.sys p1
  obtain ⟨a1, a2, a3, a4, a5, a6, a7⟩ := fs_lead (G := G) (X := bhd n (w % n) (rowV (rho n (d - 1) F Z) (w / n))) p1 w0 h hG.2.1 (fun V hV hI => (hI.1 _ _ l0 l1 t0 t1 hl).2) (by have := bhd_top (t := w / n) (x := rowV (rho n (d - 1) F Z) (w / n)) l0 l1; rw [tl] at this; rw [this]; exact row_top hS' t0 t1 hl) (fun i hi _ => bhd_hi (t := w / n) n1 (fun s hs => row_hi hS' t0 t1 hs) (by omega)) (fun v v0 v1 => by rw [hGe v v0 v1]; exact emod_in p1) (by rw [hGe w w0 (Int.le_refl _), headS_top (fun s a b => (head_in (d := d) n1 a b).2)]; rfl) (fun v v0 v1 => by
    have e := head_red (p := p) (v := v) p1 n1 h0 w0 w1 hl (ρ := rho n d F Z) (fun _ _ _ _ => rfl) 1
    rw [Int.one_mul] at e
    rw [e, hGe v v0 (by omega), Int.neg_neg]
    exact cg_mod p _)
  exact ⟨a1, fun x hx => stZ_lo w0 hx, a2, a3, a4, a5, a6⟩
/-- all that follows at words below w stays nought -/
theorem LeadOK.gens {n p d w : Int} {Lw : Vc → Prop} {F Z F2 Z2 : Int → Int} {X : Vc} (hp : 2 ≤ p) (n1 : 1 ≤ n) (hpr : WF n p (d - 1) (pw n (d - 1)) F Z) (hG : GoodD n p d w Lw F Z) (h : LeadOK n p d w Lw F Z F2 Z2 X) : ∀ c t, 0 ≤ c → c < n → 0 ≤ t → t < pw n (d - 1) → ldq n (d - 1) Z t ≠ 0 → (c * pw n (d - 1) + t < w → nought p (w + 1) (rho n d F2 Z2) (ahd (pw n (d - 1)) c (rowV (rho n (d - 1) F Z) t))) ∧ (t * n + c < w → nought p (w + 1) (rho n d F2 Z2) (bhd n c (rowV (rho n (d - 1) F Z) t))) := by
  intro c t c0 c1 t0 t1 hl
  obtain ⟨-, -, -, -, -, b6, -⟩ := h
  have hS' := hpr.sys hp
  obtain ⟨g1, g2⟩ := hG.2.2 c t c0 c1 t0 t1 hl
  exact ⟨fun z => b6 _ (ahd_hi (t := t) (fun s hs => row_hi hS' t0 t1 hs) z) (g1 z), fun z => b6 _ (bhd_hi (t := t) n1 (fun s hs => row_hi hS' t0 t1 hs) z) (g2 z)⟩
theorem fs_tail1 {n p d w : Int} {Lw : Vc → Prop} {F Z F2 Z2 : Int → Int} (hp : 2 ≤ p) (n1 : 1 ≤ n) (h0 : 1 ≤ d) (w0 : 0 ≤ w) (w1 : w < pw n d) (hpr : WF n p (d - 1) (pw n (d - 1)) F Z) (hG : GoodD n p d w Lw F Z) (hh : ldq n (d - 1) Z (w / n) = 0) (h : LeadOK n p d w Lw F Z F2 Z2 (ahd (pw n (d - 1)) (w / pw n (d - 1)) (rowV (rho n (d - 1) F Z) (w % pw n (d - 1))))) : FSp n p d w Lw F Z F2 Z2 := by
  have hg := h.gens hp n1 hpr hG
  obtain ⟨b1, b2, b3, b4, b5, -, -⟩ := h
  refine ⟨b1, b2, b3, fun hd => GoodD.prev hd b1 b2 ⟨b3.sys hp, b4, fun c t c0 c1 t0 t1 hl => ?_⟩, fun z => by omega⟩
  obtain ⟨g1, g2⟩ := hg c t c0 c1 t0 t1 hl
  refine ⟨fun z => ?_, fun z => ?_⟩
  · rcases (show c * pw n (d - 1) + t < w ∨ c * pw n (d - 1) + t = w by omega) with q | q
    · exact g1 q
    · have e := mod_blk (s := c) t0 t1
      rw [q] at e
      rw [← e.1, ← e.2]
      exact b5
  · rcases (show t * n + c < w ∨ t * n + c = w by omega) with q | q
    · exact g2 q
    · have e := mod_blk (s := t) c0 c1
      rw [q] at e
      rw [e.2] at hh
      exact absurd hh hl
theorem fs_head1 {n p d w : Int} {Lw : Vc → Prop} {F Z F2 Z2 : Int → Int} (hp : 2 ≤ p) (n1 : 1 ≤ n) (h0 : 1 ≤ d) (w0 : 0 ≤ w) (w1 : w < pw n d) (hpr : WF n p (d - 1) (pw n (d - 1)) F Z) (hG : GoodD n p d w Lw F Z) (hh : ldq n (d - 1) Z (w % pw n (d - 1)) = 0) (h : LeadOK n p d w Lw F Z F2 Z2 (bhd n (w % n) (rowV (rho n (d - 1) F Z) (w / n)))) : FSp n p d w Lw F Z F2 Z2 := by
  have hg := h.gens hp n1 hpr hG
  obtain ⟨b1, b2, b3, b4, b5, -, -⟩ := h
  refine ⟨b1, b2, b3, fun hd => GoodD.prev hd b1 b2 ⟨b3.sys hp, b4, fun c t c0 c1 t0 t1 hl => ?_⟩, fun z => by omega⟩
  obtain ⟨g1, g2⟩ := hg c t c0 c1 t0 t1 hl
  refine ⟨fun z => ?_, fun z => ?_⟩
  · rcases (show c * pw n (d - 1) + t < w ∨ c * pw n (d - 1) + t = w by omega) with q | q
    · exact g1 q
    · have e := mod_blk (s := c) t0 t1
      rw [q] at e
      rw [e.1] at hh
      exact absurd hh hl
  · rcases (show t * n + c < w ∨ t * n + c = w by omega) with q | q
    · exact g2 q
    · have e := mod_blk (s := t) c0 c1
      rw [q] at e
      rw [← e.1, ← e.2]
      exact b5
/-- both sides give a form: their difference is nought -/
theorem fs_both {n p d w : Int} {Lw : Vc → Prop} {F Z G G2 F3 Z3 : Int → Int} (hp : Pr p) (n1 : 1 ≤ n) (h0 : 1 ≤ d) (w0 : 0 ≤ w) (w1 : w < pw n d) (hW : WF n p d w F Z) (hpr : WF n p (d - 1) (pw n (d - 1)) F Z) (hG : GoodD n p d w Lw F Z) (hl : ldq n (d - 1) Z (w / n) ≠ 0) (hGr : ∀ v, 0 ≤ v → v ≤ w → 0 ≤ G v ∧ G v < p) (hGw : G w = 0) (h : LeadOK n p d w Lw F Z (cpF (fsm n d + w * (w + 1) / 2) (w + 1) G F) (stZ n d w 1 Z) (ahd (pw n (d - 1)) (w / pw n (d - 1)) (rowV (rho n (d - 1) F Z) (w % pw n (d - 1)))))
    (hG2 : ∀ v, 0 ≤ v → v ≤ w → G2 v = (G v + headS n d (cpF (fsm n d + w * (w + 1) / 2) (w + 1) G F) (stZ n d w 1 Z) w (p - 1) (w / n) v) % p) (hT : TN n p d (w + 1) (cpF (fsm n d + w * (w + 1) / 2) (w + 1) G F) (stZ n d w 1 Z) G2 F3 Z3) : FSp n p d w Lw F Z F3 Z3 := by
  obtain ⟨p1, p2, -⟩ := id hp
  obtain ⟨t0, t1, l0, l1, tl⟩ := head_B n1 h0 w0 w1
  have hS' := hpr.sys p1
  have hg := h.gens p1 n1 hpr hG
  obtain ⟨b1, b2, b3, b4, b5, -, b7⟩ := h
  have htn := tri_nn w0
  have hrw : ∀ v, 0 ≤ v → v < w → rho n d (cpF (fsm n d + w * (w + 1) / 2) (w + 1) G F) (stZ n d w 1 Z) w v = G v := fun v v0 v1 => by
    unfold rho
    rw [stZ_s, if_neg (by decide), if_pos ⟨v0, v1⟩]
    unfold fmq
    rw [cpF_in (by omega) (by omega)]
    congr 1
    omega
  generalize hF2 : cpF (fsm n d + w * (w + 1) / 2) (w + 1) G F = F2 at *
  generalize hZ2 : stZ n d w 1 Z = Z2 at *
  have hS2 := b3.sys p1
  have ps := prev_same h0 b1 b2
  have hB1 : bhd n (w % n) (rowV (rho n (d - 1) F Z) (w / n)) w = 1 := by
    have := bhd_top (t := w / n) (x := rowV (rho n (d - 1) F Z) (w / n)) l0 l1
    rw [tl] at this
    rw [this]
    exact row_top hS' t0 t1 hl
  have hred : ∀ v, 0 ≤ v → v < w + 1 → cg p (redV (rho n d F2 Z2) (w + 1) (bhd n (w % n) (rowV (rho n (d - 1) F Z) (w / n))) v) (G2 v) := by
    intro v v0 v1
    have hS0 := (hW.sys p1).congr (L2 := ldq n d Z) (ρ2 := rho n d F2 Z2) (fun w2 a b => ⟨rfl, b7 w2 a b⟩)
    rw [red_s w0, hB1, Int.one_mul, hG2 v v0 (by omega)]
    rcases (show v < w ∨ v = w by omega) with q | q
    · rw [hrw v v0 q]
      have e := head_red (v := v) p1 n1 h0 w0 w1 (F := F2) (Z := Z2) (by rw [← (ps _ t0 t1).1]; exact hl) (ρ := rho n d F2 Z2) (fun _ _ _ _ => rfl) (p - 1)
      rw [← rowV_eq (ps _ t0 t1).2.1] at e
      have e2 : headS n d F2 Z2 w (p - 1) (w / n) v = -((p - 1) * redV (rho n d F2 Z2) w (bhd n (w % n) (rowV (rho n (d - 1) F Z) (w / n))) v) := by omega
      rw [e2]
      refine cg_sy (cg_tr (cg_mod p _) ?_)
      have e3 : cg p ((p - 1) * redV (rho n d F2 Z2) w (bhd n (w % n) (rowV (rho n (d - 1) F Z) (w / n))) v) ((0 - 1) * redV (rho n d F2 Z2) w (bhd n (w % n) (rowV (rho n (d - 1) F Z) (w / n))) v) := cg_mul (cg_sub (cg_p p) (cg_rf p 1)) (cg_rf p _)
      refine cg_tr (cg_add (cg_rf p (G v)) (cg_sub (cg_rf p 0) e3) |> fun z => cg_tr (cg_eq (by omega)) z) (cg_eq ?_)
      rw [show ((0 : Int) - 1) = -1 from rfl, Int.neg_one_mul]
      omega
    · subst q
      have hlz : ldq n d Z2 v ≠ 0 := by rw [← hZ2, stZ_s]; decide
      have e5 : rho n d F2 Z2 v v = 0 := by
        unfold rho
        rw [if_neg hlz, if_neg (by omega)]
      rw [red_top hS0 (Int.le_refl _), e5, hGw, headS_top (fun s a b => (head_in (d := d) n1 a b).2)]
      exact cg_sy (cg_mod p _)
  have hGr2 : ∀ v, 0 ≤ v → v < w + 1 → 0 ≤ G2 v ∧ G2 v < p := fun v v0 v1 => by rw [hG2 v v0 (by omega)]; exact emod_in p1
  obtain ⟨c1, c2, c3, c4⟩ := nought_good hp (by omega) b3 b4 (fun V hV hI => (hI.1 _ _ l0 l1 t0 t1 hl).2) (fun i hi _ => bhd_hi (t := w / n) n1 (fun s hs => row_hi hS' t0 t1 hs) (by omega)) hGr2 hred hT
  have lo := hT.lo
  have lo1 : ∀ x, x < fsm n d → F3 x = F x := fun x hx => (lo.1 x hx).trans (b1 x hx)
  have lo2 : ∀ x, x < wsm n d → Z3 x = Z x := fun x hx => (lo.2 x hx).trans (b2 x hx)
  refine ⟨lo1, lo2, c1, fun hd => GoodD.prev hd lo1 lo2 ⟨c1.sys p1, c2, fun c t c0 c1 t0' t1' hl' => ?_⟩, fun z => by omega⟩
  obtain ⟨g1, g2⟩ := hg c t c0 c1 t0' t1' hl'
  refine ⟨fun z => ?_, fun z => ?_⟩
  · rcases (show c * pw n (d - 1) + t < w ∨ c * pw n (d - 1) + t = w by omega) with q | q
    · exact c4 _ (g1 q)
    · have e := mod_blk (s := c) t0' t1'
      rw [q] at e
      rw [← e.1, ← e.2]
      exact c4 _ b5
  · rcases (show t * n + c < w ∨ t * n + c = w by omega) with q | q
    · exact c4 _ (g2 q)
    · have e := mod_blk (s := t) c0 c1
      rw [q] at e
      rw [← e.1, ← e.2]
      exact c3
