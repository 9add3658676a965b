/-! ===== the class's cells, over the same state ===== -/
def lo (B : Nat) (M M2 : AbM) : Prop := ∀ k, B ≤ k → M2 k = M k
theorem lo.rf (B : Nat) (M : AbM) : lo B M M := fun _ _ => rfl
theorem lo.tr {B : Nat} {M M2 M3 : AbM} (h : lo B M M2) (h2 : lo B M2 M3) : lo B M M3 := fun k hk => (h2 k hk).trans (h k hk)
theorem same.lo {B : Nat} {ps : List Nat} {M M2 : AbM} (h : same ps M M2) (hp : ∀ k ∈ ps, k < B) : lo B M M2 := fun k hk => h k (fun z => by have := hp k z; omega)
def WL (S : List AbS) (w al t rr u v g h b c k sh x0 x1 x2 x3 Bd : Nat) : Prop := (S[w]? = some (sO 8 [some al, some t, some rr, some u, some v, some g, some h, some b, some c, some k, some sh, none]) ∧ shAl S al ∧ shTa S t ∧ shRe S rr al ∧ shSu S u al ∧ shSu S v al ∧ shLL S g ∧ shLL S h ∧ shAg S b al g ∧ shAg S c al h ∧ shEc S k al ∧ S[sh]? = some (sR [x0, x1, x2, x3]) ∧ shSh S x0 ∧ shSh S x1 ∧ shSh S x2 ∧ shSh S x3) ∧ w < al ∧ al + 3 < t ∧ t + 1 < rr ∧ rr < u ∧ u + 1 < v ∧ v + 1 < g ∧ g + 2 < h ∧ h + 2 < b ∧ b + 6 < c ∧ c + 6 < k ∧ k + 3 < sh ∧ sh < x0 ∧ x0 + 1 < x1 ∧ x1 + 1 < x2 ∧ x2 + 1 < x3 ∧ x3 + 1 < Bd
/-- the list of the other algebra's laws, when it is not stale -/
def OthL (a : St) (M : AbM) (h : Nat) : Prop := LawsOK a.n a.p M h ∧ M h 2 = sNm a.n a.p a.sz a.len a.num 2 ∧ ∀ i, 0 ≤ i → i < M h 2 → M (h + 1) i = 2 ∧ ∀ y, 0 ≤ y → y < pw a.n 2 → M (h + 2) (i * 81 + y) = oNum a.n a.p a.sz a.len a.num (i * 81 + y)
def CO (a : St) (M : AbM) (w h c : Nat) : Prop := (M w 11 = 0 ∨ M w 11 = 1) ∧ (-1 ≤ M c 8 ∧ M c 8 ≤ 100) ∧ (M w 11 = 0 → AlgOK a.n a.p M c h ∧ OthL a M h)
def CH (a : St) (M : AbM) (x0 x1 x2 x3 : Nat) : Prop := sheetA a 0 (M x0 1) (M x0 2) (M (x0 + 1)) ∧ sheetA a 1 (M x1 1) (M x1 2) (M (x1 + 1)) ∧ sheetA a 2 (M x2 1) (M x2 2) (M (x2 + 1)) ∧ sheetA a 3 (M x3 1) (M x3 2) (M (x3 + 1))
def CRel (a : St) (M : AbM) (w al t u g h b c x0 x1 x2 x3 : Nat) : Prop := Al M al a.n a.p ∧ lawsA a (M g 2) (M (g + 1)) (M (g + 2)) ∧ AlgOK a.n a.p M b g ∧ CO a M w h c ∧ sumA a (M (u + 1)) ∧ tapeA a (M t 1) (M (t + 1)) ∧ CH a M x0 x1 x2 x3
theorem lawsA.ok {a : St} {M : AbM} {g : Nat} (h : lawsA a (M g 2) (M (g + 1)) (M (g + 2))) : LawsOK a.n a.p M g := by
  obtain ⟨e, h0, h⟩ := h
  unfold LawsOK
  rw [e]
  refine ⟨h0.1, by omega, fun i i0 i1 => ?_⟩
  have := h i i0 i1
  rw [this.1]
  exact ⟨this.2.1.1, this.2.1.2, fun y y0 y1 => by rw [(this.2.2 y y0 y1).1]; exact (this.2.2 y y0 y1).2⟩
theorem Al.rows {M M2 : AbM} {al : Nat} {n p : Int} (h : Al M al n p) (e : ∀ q, al ≤ q → q ≤ al + 3 → M2 q = M q) : Al M2 al n p := by
  unfold Al at *
  rw [e al (by omega) (by omega), e (al + 1) (by omega) (by omega), e (al + 2) (by omega) (by omega), e (al + 3) (by omega) (by omega)]
  exact h
theorem AlgOK.rows {M M2 : AbM} {b g : Nat} {n p : Int} (h : AlgOK n p M b g) (e : ∀ q, b ≤ q → q ≤ b + 5 → M2 q = M q) (e2 : ∀ q, g ≤ q → q ≤ g + 2 → M2 q = M q) : AlgOK n p M2 b g :=
  h.of (by rw [e b (by omega) (by omega)]) (e _ (by omega) (by omega)) (e _ (by omega) (by omega)) (e _ (by omega) (by omega)) (e _ (by omega) (by omega)) (fun q _ _ => Or.inl (by rw [e (b + 5) (by omega) (by omega)])) (e2 _ (by omega) (by omega)) (e2 _ (by omega) (by omega)) (e2 _ (by omega) (by omega))
theorem OthL.rows {a : St} {M M2 : AbM} {h : Nat} (H : OthL a M h) (e : ∀ q, h ≤ q → q ≤ h + 2 → M2 q = M q) : OthL a M2 h := by
  unfold OthL LawsOK at *
  rw [e h (by omega) (by omega), e (h + 1) (by omega) (by omega), e (h + 2) (by omega) (by omega)]
  exact H
theorem CO.rows {a : St} {M M2 : AbM} {w h c : Nat} (H : CO a M w h c) (e0 : M2 w 11 = M w 11) (e : ∀ q, h ≤ q → q ≤ h + 2 → M2 q = M q) (e2 : ∀ q, c ≤ q → q ≤ c + 5 → M2 q = M q) : CO a M2 w h c := by
  obtain ⟨h1, h2, h3⟩ := H
  refine ⟨by rw [e0]; exact h1, by rw [e2 c (by omega) (by omega)]; exact h2, fun z => ?_⟩
  rw [e0] at z
  exact ⟨(h3 z).1.rows e2 e, (h3 z).2.rows e⟩
theorem CH.rows {a : St} {M M2 : AbM} {x0 x1 x2 x3 : Nat} (H : CH a M x0 x1 x2 x3) (e0 : ∀ q, x0 ≤ q → q ≤ x0 + 1 → M2 q = M q) (e1 : ∀ q, x1 ≤ q → q ≤ x1 + 1 → M2 q = M q) (e2 : ∀ q, x2 ≤ q → q ≤ x2 + 1 → M2 q = M q) (e3 : ∀ q, x3 ≤ q → q ≤ x3 + 1 → M2 q = M q) : CH a M2 x0 x1 x2 x3 := by
  unfold CH at *
  rw [e0 x0 (by omega) (by omega), e0 (x0 + 1) (by omega) (by omega), e1 x1 (by omega) (by omega), e1 (x1 + 1) (by omega) (by omega), e2 x2 (by omega) (by omega), e2 (x2 + 1) (by omega) (by omega), e3 x3 (by omega) (by omega), e3 (x3 + 1) (by omega) (by omega)]
  exact H
section
variable {a : St} {M M2 : AbM} {w al t rr u v g h b c k sh x0 x1 x2 x3 Bd : Nat} {S : List AbS}
theorem CRel.fr (H : CRel a M w al t u g h b c x0 x1 x2 x3) (e0 : M2 w 11 = M w 11) (e1 : ∀ q, al ≤ q → q ≤ al + 3 → M2 q = M q) (e2 : ∀ q, t ≤ q → q ≤ t + 1 → M2 q = M q) (e3 : M2 (u + 1) = M (u + 1)) (e4 : ∀ q, g ≤ q → q ≤ g + 2 → M2 q = M q) (e5 : ∀ q, h ≤ q → q ≤ h + 2 → M2 q = M q) (e6 : ∀ q, b ≤ q → q ≤ b + 5 → M2 q = M q) (e7 : ∀ q, c ≤ q → q ≤ c + 5 → M2 q = M q) (e8 : ∀ q, x0 ≤ q → M2 q = M q) (hP : x0 + 1 < x1 ∧ x1 + 1 < x2 ∧ x2 + 1 < x3) : CRel a M2 w al t u g h b c x0 x1 x2 x3 := by
  obtain ⟨h1, h2, h3, h4, h5, h6, h7⟩ := H
  unfold CRel
  rw [e4 g (by omega) (by omega), e4 (g + 1) (by omega) (by omega), e4 (g + 2) (by omega) (by omega), e3, e2 t (by omega) (by omega), e2 (t + 1) (by omega) (by omega)]
  exact ⟨h1.rows e1, h2, h3.rows e6 e4, h4.rows e0 e5 e7, h5, h6, h7.rows (fun q x _ => e8 q x) (fun q x _ => e8 q (by omega)) (fun q x _ => e8 q (by omega)) (fun q x _ => e8 q (by omega))⟩
theorem CRel.alg (H : CRel a M w al t u g h b c x0 x1 x2 x3) (hW : WL S w al t rr u v g h b c k sh x0 x1 x2 x3 Bd) (hs : same [b, b + 1, b + 2, b + 3, b + 4, b + 5, b + 6] M M2) (hA : AlgOK a.n a.p M2 b g) : CRel a M2 w al t u g h b c x0 x1 x2 x3 ∧ lo Bd M M2 := by
  obtain ⟨-, hp⟩ := hW
  have e : ∀ q, (q < b ∨ b + 6 < q) → M2 q = M q := fun q hq => hs q (by simp; omega)
  obtain ⟨h1, h2, h3, h4, h5, h6, h7⟩ := H
  refine ⟨?_, fun q hq => e q (by omega)⟩
  unfold CRel
  rw [e g (by omega), e (g + 1) (by omega), e (g + 2) (by omega), e (u + 1) (by omega), e t (by omega), e (t + 1) (by omega)]
  exact ⟨h1.rows (fun q x y => e q (by omega)), h2, hA, h4.rows (by rw [e w (by omega)]) (fun q x y => e q (by omega)) (fun q x y => e q (by omega)), h5, h6, h7.rows (fun q x y => e q (by omega)) (fun q x y => e q (by omega)) (fun q x y => e q (by omega)) (fun q x y => e q (by omega))⟩
theorem CRel.mid (H : CRel a M w al t u g h b c x0 x1 x2 x3) (hW : WL S w al t rr u v g h b c k sh x0 x1 x2 x3 Bd) (hs : same [b, b + 1, b + 2, b + 3, b + 4, b + 5, b + 6, k, k + 1, k + 2, k + 3] M M2) (hA : AlgOK a.n a.p M2 b g) : CRel a M2 w al t u g h b c x0 x1 x2 x3 ∧ lo Bd M M2 := by
  obtain ⟨-, hp⟩ := hW
  have e : ∀ q, (q < b ∨ b + 6 < q) → (q < k ∨ k + 3 < q) → M2 q = M q := fun q hq hr => hs q (by simp; omega)
  obtain ⟨h1, h2, h3, h4, h5, h6, h7⟩ := H
  refine ⟨?_, fun q hq => e q (by omega) (by omega)⟩
  unfold CRel
  rw [e g (by omega) (by omega), e (g + 1) (by omega) (by omega), e (g + 2) (by omega) (by omega), e (u + 1) (by omega) (by omega), e t (by omega) (by omega), e (t + 1) (by omega) (by omega)]
  exact ⟨h1.rows (fun q x y => e q (by omega) (by omega)), h2, hA, h4.rows (by rw [e w (by omega) (by omega)]) (fun q x y => e q (by omega) (by omega)) (fun q x y => e q (by omega) (by omega)), h5, h6, h7.rows (fun q x y => e q (by omega) (by omega)) (fun q x y => e q (by omega) (by omega)) (fun q x y => e q (by omega) (by omega)) (fun q x y => e q (by omega) (by omega))⟩
theorem CRel.alg2 (H : CRel a M w al t u g h b c x0 x1 x2 x3) (hW : WL S w al t rr u v g h b c k sh x0 x1 x2 x3 Bd) (hs : same [c, c + 1, c + 2, c + 3, c + 4, c + 5, c + 6] M M2) (hA : AlgOK a.n a.p M2 c h) : CRel a M2 w al t u g h b c x0 x1 x2 x3 ∧ lo Bd M M2 ∧ M2 w 11 = M w 11 := by
  obtain ⟨-, hp⟩ := hW
  have e : ∀ q, (q < c ∨ c + 6 < q) → M2 q = M q := fun q hq => hs q (by simp; omega)
  obtain ⟨h1, h2, h3, ⟨h4, h4b, h4c⟩, h5, h6, h7⟩ := H
  have hLB := Lg_B a.n
  refine ⟨?_, fun q hq => e q (by omega), by rw [e w (by omega)]⟩
  unfold CRel
  rw [e g (by omega), e (g + 1) (by omega), e (g + 2) (by omega), e (u + 1) (by omega), e t (by omega), e (t + 1) (by omega)]
  refine ⟨h1.rows (fun q x y => e q (by omega)), h2, h3.rows (fun q x y => e q (by omega)) (fun q x y => e q (by omega)), ⟨by rw [e w (by omega)]; exact h4, ⟨hA.1, by have := hA.2.1; omega⟩, fun z => ⟨hA, ?_⟩⟩, h5, h6, h7.rows (fun q x y => e q (by omega)) (fun q x y => e q (by omega)) (fun q x y => e q (by omega)) (fun q x y => e q (by omega))⟩
  rw [e w (by omega)] at z
  exact (h4c z).2.rows (fun q x y => e q (by omega))
/-- laws may be told or taken back: what is known of shorter words stays -/
theorem AlgOK.cut {n p : Int} (H : AlgOK n p M b g) (hb : ∀ q, b < q → q ≤ b + 5 → M2 q = M q) (h8 : -1 ≤ M2 b 8 ∧ M2 b 8 ≤ M b 8) (hL : ∀ e, 0 ≤ e → e ≤ M2 b 8 → LwD n e (M2 g 2) (M2 (g + 1)) (M2 (g + 2)) = LwD n e (M g 2) (M (g + 1)) (M (g + 2))) : AlgOK n p M2 b g := by
  obtain ⟨h1, h2, h3, h4⟩ := H
  refine ⟨h8.1, by omega, fun e e0 e1 => ?_, fun e e0 e1 => ?_⟩
  · have z := h3 e e0 (by omega)
    unfold AlgAt DoneD at *
    rw [hb (b + 1) (by omega) (by omega), hb (b + 2) (by omega) (by omega), hb (b + 3) (by omega) (by omega), hb (b + 4) (by omega) (by omega), hL e e0 e1]
    exact z
  · rw [hb (b + 1) (by omega) (by omega), hb (b + 2) (by omega) (by omega), hb (b + 5) (by omega) (by omega)]
    exact h4 e e0 (by omega)
theorem LwD_add {n e sz d : Int} {len num len2 num2 : Int → Int} (s0 : 0 ≤ sz) (he : e ≠ d) (h1 : ∀ i, 0 ≤ i → i < sz → len2 i = len i) (h2 : len2 sz = d) (h3 : ∀ i, 0 ≤ i → i < sz → ∀ y, 0 ≤ y → y < pw n (len i) → num2 (i * 81 + y) = num (i * 81 + y)) : LwD n e (sz + 1) len2 num2 = LwD n e sz len num := by
  have key : ∀ i, 0 ≤ i → i < sz → len i = e → lawR n e i num2 = lawR n e i num := fun i i0 i1 z => by
    funext y
    unfold lawR
    by_cases q : 0 ≤ y ∧ y < pw n e
    · rw [if_pos q, if_pos q]
      exact h3 i i0 i1 y q.1 (by rw [z]; exact q.2)
    · rw [if_neg q, if_neg q]
  funext x
  unfold LwD
  refine propext ⟨fun ⟨i, i0, i1, hl, hx⟩ => ?_, fun ⟨i, i0, i1, hl, hx⟩ => ⟨i, i0, by omega, by rw [h1 i i0 i1]; exact hl, by rw [key i i0 i1 hl]; exact hx⟩⟩
  rcases (show i < sz ∨ i = sz by omega) with q | q
  · have hl2 : len i = e := by rw [← h1 i i0 q]; exact hl
    exact ⟨i, i0, q, hl2, by rw [← key i i0 q hl2]; exact hx⟩
  · rw [q, h2] at hl
    exact absurd hl.symm he
theorem LwD_rem {n e sz : Int} {len num : Int → Int} (s0 : 0 < sz) (he : e ≠ len (sz - 1)) : LwD n e (sz - 1) len num = LwD n e sz len num := by
  funext x
  unfold LwD
  refine propext ⟨fun ⟨i, i0, i1, hl, hx⟩ => ⟨i, i0, by omega, hl, hx⟩, fun ⟨i, i0, i1, hl, hx⟩ => ⟨i, i0, ?_, hl, hx⟩⟩
  rcases (show i < sz - 1 ∨ i = sz - 1 by omega) with q | q
  · exact q
  · rw [q] at hl
    exact absurd hl.symm he
end
theorem oth_eq {a : St} {M : AbM} {h : Nat} (H : OthL a M h) : sNm a.n a.p (M h 2) (M (h + 1)) (M (h + 2)) = aO a := by
  obtain ⟨-, e, H⟩ := H
  funext d
  unfold aO
  rw [← e]
  rw [sNm_cg (LwD_cg (fun i i0 i1 => ⟨(H i i0 i1).1, fun y y0 y1 => (H i i0 i1).2 y y0 y1⟩))]
theorem Pr_dec {p : Int} (h2 : 2 ≤ p) (h97 : p ≤ 97) (h : ∀ i, 2 ≤ i → i * i ≤ p → p % i ≠ 0) : Pr p := by
  have key : ∀ k : Fin 98, (∀ i : Fin 10, 2 ≤ i.val → i.val * i.val ≤ k.val → k.val % i.val ≠ 0) → 2 ≤ k.val → ∀ i : Fin 98, 2 ≤ i.val → i.val < k.val → k.val % i.val ≠ 0 := by decide +kernel
  refine ⟨h2, h97, fun i i2 ip => ?_⟩
  have hk := key ⟨p.toNat, by omega⟩ (fun j j2 jj => ?_) (by show 2 ≤ p.toNat; omega) ⟨i.toNat, by omega⟩ (by show 2 ≤ i.toNat; omega) (by show i.toNat < p.toNat; omega)
  · intro z
    apply hk
    show p.toNat % i.toNat = 0
    have : ((p.toNat % i.toNat : Nat) : Int) = 0 := by
      rw [Int.natCast_emod, show ((p.toNat : Nat) : Int) = p by omega, show ((i.toNat : Nat) : Int) = i by omega]
      exact z
    omega
  · intro z
    have j2' : 2 ≤ j.val := j2
    have jj' : j.val * j.val ≤ p.toNat := jj
    have z' : p.toNat % j.val = 0 := z
    refine h (j.val : Int) (by omega) ?_ ?_
    · have : ((j.val * j.val : Nat) : Int) ≤ ((p.toNat : Nat) : Int) := Int.ofNat_le.mpr jj'
      rw [Int.natCast_mul] at this
      omega
    · have : ((p.toNat % j.val : Nat) : Int) = 0 := by rw [z']; rfl
      rw [Int.natCast_emod, show ((p.toNat : Nat) : Int) = p by omega] at this
      exact this
