/-! ===== for the class's calls ===== -/
theorem close_rng {n p : Int} {s : RS} {v : Vc} (hp : 2 ≤ p) (h : ∀ j, 0 ≤ v j ∧ v j < p) : ∀ j, 0 ≤ closeV n p s v j ∧ closeV n p s v j < p := fun j => by
  unfold closeV
  split
  · exact emod_in hp
  · exact h j
theorem run_rng {n p np : Int} {T : Int → Int} (hp : 2 ≤ p) (k : Nat) : ∀ j, 0 ≤ (runR n p T np k).2.2 j ∧ (runR n p T np k).2.2 j < p := by
  induction k with
  | zero => intro j; exact ⟨Int.le_refl 0, by show (0 : Int) < p; omega⟩
  | succ k ih =>
    have ea : runR n p T np (k + 1) = if (runR n p T np k).1 = -1 then rByte n p (runR n p T np k).2.1 (runR n p T np k).2.2 (T (k : Int)) (k : Int) else runR n p T np k := rfl
    rw [ea]
    by_cases z : (runR n p T np k).1 = -1
    · rw [if_pos z]
      unfold rByte
      by_cases c1 : T (k : Int) = 32
      · rw [if_pos c1]; exact ih
      · rw [if_neg c1]
        by_cases c2 : 48 ≤ T (k : Int) ∧ T (k : Int) ≤ 57
        · rw [if_pos c2]
          unfold rDigit
          by_cases c3 : (runR n p T np k).2.1.1 = 0 ∨ (runR n p T np k).2.1.1 = 1
          · rw [if_pos c3]; exact ih
          · rw [if_neg c3]
            by_cases c4 : (runR n p T np k).2.1.1 ≠ 2
            · rw [if_pos c4]; exact ih
            · rw [if_neg c4]; exact ih
        · rw [if_neg c2]
          by_cases c3 : T (k : Int) = 43 ∨ T (k : Int) = 45
          · rw [if_pos c3]
            unfold rSign
            by_cases c4 : (runR n p T np k).2.1.1 = 1 ∨ ((runR n p T np k).2.1.1 = 0 ∧ (if T (k : Int) = 45 then (-1 : Int) else 1) > 0)
            · rw [if_pos c4]; exact ih
            · rw [if_neg c4]
              dsimp only
              by_cases c5 : (runR n p T np k).2.1.1 = 0
              · rw [if_pos c5]; exact ih
              · rw [if_neg c5]; exact close_rng hp ih
          · rw [if_neg c3]
            unfold rLetter
            by_cases c4 : 0 ≤ T (k : Int) - 97 ∧ T (k : Int) - 97 < n ∧ (runR n p T np k).2.1.2.2.2.2.1 < Lg n
            · rw [if_pos c4]; exact ih
            · rw [if_neg c4]; exact ih
    · rw [if_neg z]; exact ih
theorem rd_rng {a : St} (hp : 2 ≤ a.p) : ∀ j, 0 ≤ (rdE a).2 j ∧ (rdE a).2 j < a.p := by
  have h := run_rng (n := a.n) (p := a.p) (np := 0) (T := a.tp) hp a.tn.toNat
  unfold rdE endR
  by_cases z : (runR a.n a.p a.tp 0 a.tn.toNat).1 ≠ -1
  · rw [if_pos z]; exact h
  · rw [if_neg z]
    by_cases y : (runR a.n a.p a.tp 0 a.tn.toNat).2.1.1 = 0 ∨ (runR a.n a.p a.tp 0 a.tn.toNat).2.1.1 = 1
    · rw [if_pos y]; exact h
    · rw [if_neg y]; exact close_rng hp h
/-- forms, as soon as they are worked out -/
theorem alg_srh {n p : Int} {M : AbM} {b g : Nat} (hp : 2 ≤ p) (n1 : 1 ≤ n) (hA : AlgOK n p M b g) {d : Int} (d0 : 0 ≤ d) (d1 : d ≤ M b 8) : ∀ w, 0 ≤ w → w < pw n d → ∀ v, (0 ≤ srh n p (M g 2) (M (g + 1)) (M (g + 2)) d w v ∧ srh n p (M g 2) (M (g + 1)) (M (g + 2)) d w v < p) ∧ (w < v → srh n p (M g 2) (M (g + 1)) (M (g + 2)) d w v = 0) := fun w w0 w1 v => by
  have hs := ((hA.2.2.1 d d0 d1).1.1.sys hp) w w0 w1
  rw [← (alg_same hp n1 hA d0 d1 w w0 w1).2 v]
  refine ⟨?_, fun z => rho_hi z⟩
  rcases hs.1 with q | q
  · rw [hs.2.1 q]; unfold dl; split <;> omega
  · exact ⟨(hs.2.2 (by omega) v).1, (hs.2.2 (by omega) v).2.1⟩
/-- a sheet by its number -/
def ShAt (s : Int) (x x0 x1 x2 x3 : Nat) : Prop := (s = 0 ∧ x = x0) ∨ (s = 1 ∧ x = x1) ∨ (s = 2 ∧ x = x2) ∨ (s = 3 ∧ x = x3)
theorem sh_at {S : List AbS} {w al t rr u v g h b c k sh x0 x1 x2 x3 Bd : Nat} (hW : WL S w al t rr u v g h b c k sh x0 x1 x2 x3 Bd) {s : Int} (s0 : 0 ≤ s) (s3 : s ≤ 3) : ∃ x, ShAt s x x0 x1 x2 x3 ∧ ([x0, x1, x2, x3] : List Nat)[s.toNat]? = some x ∧ shSh S x := by
  obtain ⟨⟨-, -, -, -, -, -, -, -, -, -, -, -, h0, h1, h2, h3⟩, -⟩ := hW
  rcases (show s = 0 ∨ s = 1 ∨ s = 2 ∨ s = 3 by omega) with rfl | rfl | rfl | rfl
  · exact ⟨x0, Or.inl ⟨rfl, rfl⟩, rfl, h0⟩
  · exact ⟨x1, Or.inr (Or.inl ⟨rfl, rfl⟩), rfl, h1⟩
  · exact ⟨x2, Or.inr (Or.inr (Or.inl ⟨rfl, rfl⟩)), rfl, h2⟩
  · exact ⟨x3, Or.inr (Or.inr (Or.inr ⟨rfl, rfl⟩)), rfl, h3⟩
theorem CH.at {a : St} {M : AbM} {x x0 x1 x2 x3 : Nat} {s : Int} (H : CH a M x0 x1 x2 x3) (hx : ShAt s x x0 x1 x2 x3) : sheetA a s (M x 1) (M x 2) (M (x + 1)) := by
  obtain ⟨h0, h1, h2, h3⟩ := H
  rcases hx with ⟨rfl, rfl⟩ | ⟨rfl, rfl⟩ | ⟨rfl, rfl⟩ | ⟨rfl, rfl⟩
  · exact h0
  · exact h1
  · exact h2
  · exact h3
theorem CH.upd {a a2 : St} {M M2 : AbM} {x x0 x1 x2 x3 : Nat} {s : Int} (H : CH a M x0 x1 x2 x3) (hx : ShAt s x x0 x1 x2 x3) (hP : x0 + 1 < x1 ∧ x1 + 1 < x2 ∧ x2 + 1 < x3) (e : ∀ q, q ≠ x → q ≠ x + 1 → M2 q = M q) (hn : sheetA a2 s (M2 x 1) (M2 x 2) (M2 (x + 1))) (ho : ∀ k, 0 ≤ k → k ≤ 3 → k ≠ s → ∀ l z r, sheetA a k l z r → sheetA a2 k l z r) : CH a2 M2 x0 x1 x2 x3 := by
  obtain ⟨h0, h1, h2, h3⟩ := H
  unfold CH
  rcases hx with ⟨rfl, rfl⟩ | ⟨rfl, rfl⟩ | ⟨rfl, rfl⟩ | ⟨rfl, rfl⟩
  · rw [e x1 (by omega) (by omega), e (x1 + 1) (by omega) (by omega), e x2 (by omega) (by omega), e (x2 + 1) (by omega) (by omega), e x3 (by omega) (by omega), e (x3 + 1) (by omega) (by omega)]
    exact ⟨hn, ho _ (by decide) (by decide) (by decide) _ _ _ h1, ho _ (by decide) (by decide) (by decide) _ _ _ h2, ho _ (by decide) (by decide) (by decide) _ _ _ h3⟩
  · rw [e x0 (by omega) (by omega), e (x0 + 1) (by omega) (by omega), e x2 (by omega) (by omega), e (x2 + 1) (by omega) (by omega), e x3 (by omega) (by omega), e (x3 + 1) (by omega) (by omega)]
    exact ⟨ho _ (by decide) (by decide) (by decide) _ _ _ h0, hn, ho _ (by decide) (by decide) (by decide) _ _ _ h2, ho _ (by decide) (by decide) (by decide) _ _ _ h3⟩
  · rw [e x0 (by omega) (by omega), e (x0 + 1) (by omega) (by omega), e x1 (by omega) (by omega), e (x1 + 1) (by omega) (by omega), e x3 (by omega) (by omega), e (x3 + 1) (by omega) (by omega)]
    exact ⟨ho _ (by decide) (by decide) (by decide) _ _ _ h0, ho _ (by decide) (by decide) (by decide) _ _ _ h1, hn, ho _ (by decide) (by decide) (by decide) _ _ _ h3⟩
  · rw [e x0 (by omega) (by omega), e (x0 + 1) (by omega) (by omega), e x1 (by omega) (by omega), e (x1 + 1) (by omega) (by omega), e x2 (by omega) (by omega), e (x2 + 1) (by omega) (by omega)]
    exact ⟨ho _ (by decide) (by decide) (by decide) _ _ _ h0, ho _ (by decide) (by decide) (by decide) _ _ _ h1, ho _ (by decide) (by decide) (by decide) _ _ _ h2, hn⟩
theorem CRel.sheet {a : St} {M M2 : AbM} {S : List AbS} {w al t rr u v g h b c k sh x0 x1 x2 x3 Bd x : Nat} {s : Int} {ln sn it : Int → Int} (H : CRel a M w al t u g h b c x0 x1 x2 x3) (hW : WL S w al t rr u v g h b c k sh x0 x1 x2 x3 Bd) (hx : ShAt s x x0 x1 x2 x3) (e : ∀ q, q ≠ x → q ≠ x + 1 → M2 q = M q) (hn : sheetA (a.setH ln sn it) s (M2 x 1) (M2 x 2) (M2 (x + 1))) (ho : ∀ k, 0 ≤ k → k ≤ 3 → k ≠ s → ∀ l z r, sheetA a k l z r → sheetA (a.setH ln sn it) k l z r) : CRel (a.setH ln sn it) M2 w al t u g h b c x0 x1 x2 x3 ∧ lo Bd M M2 := by
  obtain ⟨-, hp⟩ := hW
  have hxx : x0 ≤ x ∧ x ≤ x3 := by
    rcases hx with ⟨-, rfl⟩ | ⟨-, rfl⟩ | ⟨-, rfl⟩ | ⟨-, rfl⟩ <;> omega
  obtain ⟨h1, h2, h3, h4, h5, h6, h7⟩ := H
  refine ⟨?_, fun q hq => e q (by omega) (by omega)⟩
  unfold CRel
  rw [e g (by omega) (by omega), e (g + 1) (by omega) (by omega), e (g + 2) (by omega) (by omega), e (u + 1) (by omega) (by omega), e t (by omega) (by omega), e (t + 1) (by omega) (by omega)]
  exact ⟨h1.rows (fun q x y => e q (by omega) (by omega)), h2, h3.rows (fun q x y => e q (by omega) (by omega)) (fun q x y => e q (by omega) (by omega)), CO.rows (a := a) h4 (by rw [e w (by omega) (by omega)]) (fun q x y => e q (by omega) (by omega)) (fun q x y => e q (by omega) (by omega)), h5, h6, h7.upd hx (by omega) e hn ho⟩
/-- a sum's forms, up to the word x -/
noncomputable def rdP (a : St) (d x y : Int) : Int := sumF (fun z => a.sum (wsm a.n d + z) * srh a.n a.p a.sz a.len a.num d z y) x % a.p
theorem rdP_0 {a : St} {d y : Int} : rdP a d 0 y = 0 := by unfold rdP; rw [sumF_0]; exact Int.zero_emod _
theorem rdP_s {a : St} {d x y : Int} (hp : 2 ≤ a.p) (x0 : 0 ≤ x) : (rdP a d x y + a.sum (wsm a.n d + x) * srh a.n a.p a.sz a.len a.num d x y) % a.p = rdP a d (x + 1) y := by
  unfold rdP
  rw [sumF_s x0]
  exact cg_em hp (cg_add (cg_mod _ _) (cg_rf _ _))
theorem rdP_z {a : St} {d x y : Int} (x0 : 0 ≤ x) (h : a.sum (wsm a.n d + x) = 0 ∨ srh a.n a.p a.sz a.len a.num d x y = 0) : rdP a d (x + 1) y = rdP a d x y := by
  unfold rdP
  rw [sumF_s x0]
  have : a.sum (wsm a.n d + x) * srh a.n a.p a.sz a.len a.num d x y = 0 := by
    rcases h with z | z
    · rw [z, Int.zero_mul]
    · rw [z, Int.mul_zero]
  rw [this, Int.add_zero]
/-- the words of length d + 1 that the first w words of length d have given -/
def ptP (a : St) (x y d w z : Int) : Int := if (if x = 0 then z / pw a.n d else z % a.n) = y ∧ (if x = 0 then z % pw a.n d else z / a.n) < w then a.sum (wsm a.n d + (if x = 0 then z % pw a.n d else z / a.n)) else 0
theorem ptP_0 {a : St} {x y d z : Int} (n1 : 1 ≤ a.n) (z0 : 0 ≤ z) : ptP a x y d 0 z = 0 := by
  unfold ptP
  rw [if_neg]
  intro h
  have hp := pw_pos (d := d) n1
  have h1 := Int.emod_nonneg z (show pw a.n d ≠ 0 by omega)
  have h2 := Int.ediv_nonneg z0 (show 0 ≤ a.n by omega)
  have := h.2
  split at this <;> omega
theorem ptP_all {a : St} {x y d z : Int} (n1 : 1 ≤ a.n) (d0 : 0 ≤ d) (z0 : 0 ≤ z) (z1 : z < pw a.n (d + 1)) : ptP a x y d (pw a.n d) z = putV a x y (d + 1) z := by
  obtain ⟨t0, t1, -⟩ := tail_B (d := d + 1) n1 (by omega) z0 z1
  obtain ⟨u0, u1, -⟩ := head_B (d := d + 1) n1 (by omega) z0 z1
  rw [show d + 1 - 1 = d by omega] at t0 t1 u1
  unfold ptP putV
  rw [show d + 1 - 1 = d by omega]
  have hlt : (if x = 0 then z % pw a.n d else z / a.n) < pw a.n d := by split <;> omega
  by_cases q : (if x = 0 then z / pw a.n d else z % a.n) = y
  · rw [if_pos (show (if x = 0 then z / pw a.n d else z % a.n) = y ∧ (if x = 0 then z % pw a.n d else z / a.n) < pw a.n d from ⟨q, hlt⟩), if_pos (show 1 ≤ d + 1 ∧ (if x = 0 then z / pw a.n d else z % a.n) = y from ⟨by omega, q⟩)]
  · rw [if_neg (show ¬ ((if x = 0 then z / pw a.n d else z % a.n) = y ∧ (if x = 0 then z % pw a.n d else z / a.n) < pw a.n d) from fun z => q z.1), if_neg (show ¬ (1 ≤ d + 1 ∧ (if x = 0 then z / pw a.n d else z % a.n) = y) from fun z => q z.2)]
def lgr (a : St) (x y d w : Int) : Int := if x = 0 then y * pw a.n d + w else w * a.n + y
theorem ptP_s {a : St} {x y d w z : Int} (n1 : 1 ≤ a.n) (hy : 0 ≤ y ∧ y < a.n) (w0 : 0 ≤ w) (w1 : w < pw a.n d) (z0 : 0 ≤ z) : ptP a x y d (w + 1) z = if z = lgr a x y d w then a.sum (wsm a.n d + w) else ptP a x y d w z := by
  have m1 := mod_blk (n := pw a.n d) (s := y) (j := w) w0 w1
  have m2 := mod_blk (n := a.n) (s := w) (j := y) hy.1 hy.2
  by_cases q : z = lgr a x y d w
  · rw [if_pos q, q]
    unfold ptP lgr
    by_cases c : x = 0
    · simp only [if_pos c]
      rw [m1.1, m1.2, if_pos ⟨rfl, by omega⟩]
    · simp only [if_neg c]
      rw [m2.1, m2.2, if_pos ⟨rfl, by omega⟩]
  · rw [if_neg q]
    unfold ptP
    unfold lgr at q
    have i1 := Int.mul_ediv_add_emod z (pw a.n d)
    have i2 := Int.mul_ediv_add_emod z a.n
    by_cases c : x = 0
    · simp only [if_pos c] at q ⊢
      by_cases s1 : z / pw a.n d = y ∧ z % pw a.n d < w
      · rw [if_pos s1, if_pos ⟨s1.1, by omega⟩]
      · rw [if_neg s1, if_neg]
        intro s2
        rcases (show z % pw a.n d < w ∨ z % pw a.n d = w by omega) with s3 | s3
        · exact s1 ⟨s2.1, s3⟩
        · apply q
          rw [s2.1, s3, Int.mul_comm] at i1
          exact i1.symm
    · simp only [if_neg c] at q ⊢
      by_cases s1 : z % a.n = y ∧ z / a.n < w
      · rw [if_pos s1, if_pos ⟨s1.1, by omega⟩]
      · rw [if_neg s1, if_neg]
        intro s2
        rcases (show z / a.n < w ∨ z / a.n = w by omega) with s3 | s3
        · exact s1 ⟨s2.1, s3⟩
        · apply q
          rw [s2.1, s3, Int.mul_comm] at i2
          exact i2.symm
theorem lgr_0 {a : St} {x y d w : Int} (n1 : 1 ≤ a.n) (hy : 0 ≤ y ∧ y < a.n) (w0 : 0 ≤ w) (w1 : w < pw a.n d) : ptP a x y d w (lgr a x y d w) = 0 := by
  have m1 := mod_blk (n := pw a.n d) (s := y) (j := w) w0 w1
  have m2 := mod_blk (n := a.n) (s := w) (j := y) hy.1 hy.2
  unfold ptP lgr
  by_cases c : x = 0
  · simp only [if_pos c]
    rw [m1.1, if_neg (fun z => by omega)]
  · simp only [if_neg c]
    rw [m2.2, if_neg (fun z => by omega)]
theorem CRel.lawsU {a : St} {M M2 : AbM} {S : List AbS} {w al t rr u v g h b c k sh x0 x1 x2 x3 Bd : Nat} {sz : Int} {len num : Int → Int} (H : CRel a M w al t u g h b c x0 x1 x2 x3) (hW : WL S w al t rr u v g h b c k sh x0 x1 x2 x3 Bd) (e : ∀ q, q ≠ w → q ≠ b → (q < g ∨ g + 2 < q) → M2 q = M q) (hadd : lawsA (a.n, a.p, sz, len, num, a.sum, a.tn, a.tp, a.ln, a.sn, a.it) (M2 g 2) (M2 (g + 1)) (M2 (g + 2))) (hal : AlgOK a.n a.p M2 b g) (ew : M2 w 11 = 1) : CRel (a.n, a.p, sz, len, num, a.sum, a.tn, a.tp, a.ln, a.sn, a.it) M2 w al t u g h b c x0 x1 x2 x3 ∧ lo Bd M M2 := by
  obtain ⟨-, hp⟩ := hW
  obtain ⟨k1, k2, k3, k4, k5, k6, k7⟩ := H
  refine ⟨?_, fun q hq => e q (by omega) (by omega) (by omega)⟩
  unfold CRel
  rw [e (u + 1) (by omega) (by omega) (by omega), e t (by omega) (by omega) (by omega), e (t + 1) (by omega) (by omega) (by omega)]
  exact ⟨k1.rows (fun q x y => e q (by omega) (by omega) (by omega)), hadd, hal, ⟨Or.inr ew, by rw [e c (by omega) (by omega) (by omega)]; exact k4.2.1, fun z => by rw [ew] at z; exact absurd z (by decide)⟩, k5, k6, CH.rows (a := a) k7 (fun q x y => e q (by omega) (by omega) (by omega)) (fun q x y => e q (by omega) (by omega) (by omega)) (fun q x y => e q (by omega) (by omega) (by omega)) (fun q x y => e q (by omega) (by omega) (by omega))⟩
theorem CRel.sumU {a : St} {M M2 : AbM} {S : List AbS} {w al t rr u v g h b c k sh x0 x1 x2 x3 Bd : Nat} {s : Int → Int} (H : CRel a M w al t u g h b c x0 x1 x2 x3) (hW : WL S w al t rr u v g h b c k sh x0 x1 x2 x3 Bd) (e : ∀ q, (q < u ∨ v + 1 < q) → M2 q = M q) (hs : sumA (a.setS s) (M2 (u + 1))) : CRel (a.setS s) M2 w al t u g h b c x0 x1 x2 x3 ∧ lo Bd M M2 := by
  obtain ⟨-, hp⟩ := hW
  obtain ⟨k1, k2, k3, k4, k5, k6, k7⟩ := H
  refine ⟨?_, fun q hq => e q (by omega)⟩
  unfold CRel
  rw [e g (by omega), e (g + 1) (by omega), e (g + 2) (by omega), e t (by omega), e (t + 1) (by omega)]
  exact ⟨k1.rows (fun q x y => e q (by omega)), k2, k3.rows (fun q x y => e q (by omega)) (fun q x y => e q (by omega)), CO.rows (a := a) k4 (by rw [e w (by omega)]) (fun q x y => e q (by omega)) (fun q x y => e q (by omega)), hs, k6, CH.rows (a := a) k7 (fun q x y => e q (by omega)) (fun q x y => e q (by omega)) (fun q x y => e q (by omega)) (fun q x y => e q (by omega))⟩
theorem CRel.tapeU {a : St} {M M2 : AbM} {S : List AbS} {w al t rr u v g h b c k sh x0 x1 x2 x3 Bd : Nat} {N : Int} {tp : Int → Int} (H : CRel a M w al t u g h b c x0 x1 x2 x3) (hW : WL S w al t rr u v g h b c k sh x0 x1 x2 x3 Bd) (e : ∀ q, (q < t ∨ rr < q) → q ≠ v + 1 → M2 q = M q) (ht : tapeA (a.setT N tp) (M2 t 1) (M2 (t + 1))) : CRel (a.setT N tp) M2 w al t u g h b c x0 x1 x2 x3 ∧ lo Bd M M2 := by
  obtain ⟨-, hp⟩ := hW
  obtain ⟨k1, k2, k3, k4, k5, k6, k7⟩ := H
  refine ⟨?_, fun q hq => e q (by omega) (by omega)⟩
  unfold CRel
  rw [e g (by omega) (by omega), e (g + 1) (by omega) (by omega), e (g + 2) (by omega) (by omega), e (u + 1) (by omega) (by omega)]
  exact ⟨k1.rows (fun q x y => e q (by omega) (by omega)), k2, k3.rows (fun q x y => e q (by omega) (by omega)) (fun q x y => e q (by omega) (by omega)), CO.rows (a := a) k4 (by rw [e w (by omega) (by omega)]) (fun q x y => e q (by omega) (by omega)) (fun q x y => e q (by omega) (by omega)), k5, ht, CH.rows (a := a) k7 (fun q x y => e q (by omega) (by omega)) (fun q x y => e q (by omega) (by omega)) (fun q x y => e q (by omega) (by omega)) (fun q x y => e q (by omega) (by omega))⟩
theorem CRel.begU {a : St} {M M2 : AbM} {S : List AbS} {w al t rr u v g h b c k sh x0 x1 x2 x3 Bd : Nat} {x y : Int} (H : CRel a M w al t u g h b c x0 x1 x2 x3) (hW : WL S w al t rr u v g h b c k sh x0 x1 x2 x3 Bd) (e : ∀ q, q ≠ w → q ≠ b → q ≠ g → q ≠ u + 1 → (q < al ∨ al + 3 < q) → M2 q = M q) (eA : Al M2 al x y) (eg : M2 g 2 = 0) (h8 : M2 b 8 = -1) (ew : M2 w 11 = 1) (eu : ∀ j, 0 ≤ j → j < 364 → M2 (u + 1) j = 0) : CRel (a.beg x y) M2 w al t u g h b c x0 x1 x2 x3 ∧ lo Bd M M2 := by
  obtain ⟨-, hp⟩ := hW
  obtain ⟨k1, k2, k3, k4, k5, k6, k7⟩ := H
  have hPy := eA.1.2.2.1
  have hLx := Lg_B x
  refine ⟨?_, fun q hq => e q (by omega) (by omega) (by omega) (by omega) (by omega)⟩
  unfold CRel
  rw [eg, e t (by omega) (by omega) (by omega) (by omega) (by omega), e (t + 1) (by omega) (by omega) (by omega) (by omega) (by omega)]
  refine ⟨eA, ⟨rfl, ⟨Int.le_refl 0, by show (0 : Int) ≤ 8; decide⟩, fun i i0 i1 => absurd (show i < 0 from i1) (by omega)⟩, ⟨by rw [h8]; decide, ?_, fun e' z1 z2 => absurd z2 (by rw [h8]; omega), fun e' z1 z2 => absurd z2 (by rw [h8]; omega)⟩, ⟨Or.inr ew, by rw [e c (by omega) (by omega) (by omega) (by omega) (by omega)]; exact k4.2.1, fun z => by rw [ew] at z; exact absurd z (by decide)⟩, ⟨fun j z1 z2 => ⟨eu j z1 z2, Int.le_refl 0, ?_⟩, fun j _ _ => rfl⟩, k6, CH.rows (a := a) k7 (fun q x y => e q (by omega) (by omega) (by omega) (by omega) (by omega)) (fun q x y => e q (by omega) (by omega) (by omega) (by omega) (by omega)) (fun q x y => e q (by omega) (by omega) (by omega) (by omega) (by omega)) (fun q x y => e q (by omega) (by omega) (by omega) (by omega) (by omega))⟩
  · rw [h8]; show (-1 : Int) ≤ Lg x; omega
  · show (0 : Int) < y
    omega
