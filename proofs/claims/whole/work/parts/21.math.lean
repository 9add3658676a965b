/-! ===== a length's system, word by word ===== -/
def Good (p n Q P u : Int) (L' : Int → Int) (ρ' : Int → Vc) (Lw : Vc → Prop) (L : Int → Int) (ρ : Int → Vc) : Prop := Sys p u L ρ ∧ SpanOK p n Q P u L' ρ' Lw ρ ∧ GenOK p n Q u L' ρ' ρ
theorem red_same {u : Int} {ρ ρ2 : Int → Vc} (h : ∀ w, 0 ≤ w → w < u → ∀ v, ρ w v = ρ2 w v) (x : Vc) (v : Int) : redV ρ u x v = redV ρ2 u x v := sumF_congr (fun w a b => by rw [h w a b v])
theorem Sys.congr {p u : Int} {L L2 : Int → Int} {ρ ρ2 : Int → Vc} (h : ∀ w, 0 ≤ w → w < u → L w = L2 w ∧ ∀ v, ρ w v = ρ2 w v) (hS : Sys p u L ρ) : Sys p u L2 ρ2 := by
  intro w w0 w1
  obtain ⟨a, b, c⟩ := hS w w0 w1
  obtain ⟨e1, e2⟩ := h w w0 w1
  rw [← e1]
  refine ⟨a, fun z v => by rw [← e2]; exact b z v, fun z v => ?_⟩
  rw [← e2]
  refine ⟨(c z v).1, (c z v).2.1, fun y => ?_⟩
  have := (c z v).2.2 y
  rw [← (h v this.1 (by omega)).1]
  exact this
theorem rowV_eq {ρ ρ2 : Int → Vc} {w : Int} (h : ∀ v, ρ w v = ρ2 w v) : rowV ρ w = rowV ρ2 w := by
  funext i
  unfold rowV
  rw [h]
theorem Good.congr {p n Q P u : Int} {L' : Int → Int} {ρ' : Int → Vc} {Lw : Vc → Prop} {L L2 : Int → Int} {ρ ρ2 : Int → Vc} (h : ∀ w, 0 ≤ w → w < u → L w = L2 w ∧ ∀ v, ρ w v = ρ2 w v) (hG : Good p n Q P u L' ρ' Lw L ρ) : Good p n Q P u L' ρ' Lw L2 ρ2 := by
  obtain ⟨a, b, c⟩ := hG
  refine ⟨a.congr h, fun V hV hI w w0 w1 => ?_, fun c1 t c0 c1' t0 t1 hl => ?_⟩
  · rw [← rowV_eq (h w w0 w1).2]
    exact b V hV hI w w0 w1
  · obtain ⟨g1, g2⟩ := c c1 t c0 c1' t0 t1 hl
    refine ⟨fun z v v0 v1 => ?_, fun z v v0 v1 => ?_⟩
    · rw [← red_same (fun w a b => (h w a b).2)]; exact g1 z v v0 v1
    · rw [← red_same (fun w a b => (h w a b).2)]; exact g2 z v v0 v1
theorem InV.congr {n Q : Int} {L' L2 : Int → Int} {ρ' ρ2 : Int → Vc} {Lw V : Vc → Prop} (h : ∀ t, 0 ≤ t → t < Q → L' t = L2 t ∧ ∀ v, ρ' t v = ρ2 t v) (hI : InV n Q L2 ρ2 Lw V) : InV n Q L' ρ' Lw V := by
  refine ⟨fun c t c0 c1 t0 t1 hl => ?_, hI.2⟩
  obtain ⟨e1, e2⟩ := h t t0 t1
  have := hI.1 c t c0 c1 t0 t1 (by rw [← e1]; exact hl)
  rw [rowV_eq e2]
  exact this
/-- the length before, said otherwise -/
theorem Good.prev {p n Q P u : Int} {L' L2 : Int → Int} {ρ' ρ2 : Int → Vc} {Lw : Vc → Prop} {L : Int → Int} {ρ : Int → Vc} (h : ∀ t, 0 ≤ t → t < Q → L' t = L2 t ∧ ∀ v, ρ' t v = ρ2 t v) (hG : Good p n Q P u L' ρ' Lw L ρ) : Good p n Q P u L2 ρ2 Lw L ρ := by
  obtain ⟨a, b, c⟩ := hG
  refine ⟨a, fun V hV hI w w0 w1 => b V hV (hI.congr h) w w0 w1, fun c1 t c0 c1' t0 t1 hl => ?_⟩
  obtain ⟨e1, e2⟩ := h t t0 t1
  have := c c1 t c0 c1' t0 t1 (by rw [e1]; exact hl)
  rw [← rowV_eq e2]
  exact this
theorem gens_up {p n Q u : Int} {L' : Int → Int} {ρ' : Int → Vc} {L : Int → Int} {ρ : Int → Vc} (n1 : 1 ≤ n) (u0 : 0 ≤ u) (hS' : Sys p Q L' ρ') (hS : Sys p u L ρ) (hG : GenOK p n Q u L' ρ' ρ) : ∀ c t, 0 ≤ c → c < n → 0 ≤ t → t < Q → L' t ≠ 0 → (c * Q + t < u → nought p (u + 1) ρ (ahd Q c (rowV ρ' t))) ∧ (t * n + c < u → nought p (u + 1) ρ (bhd n c (rowV ρ' t))) := by
  intro c t c0 c1 t0 t1 hl
  obtain ⟨g1, g2⟩ := hG c t c0 c1 t0 t1 hl
  exact ⟨fun z => gen_ext u0 hS (ahd_hi (fun s h => row_hi hS' t0 t1 h) z) (g1 z), fun z => gen_ext u0 hS (bhd_hi n1 (fun s h => row_hi hS' t0 t1 h) z) (g2 z)⟩
theorem step_none {p n Q P u : Int} {L' : Int → Int} {ρ' : Int → Vc} {Lw : Vc → Prop} {L : Int → Int} {ρ : Int → Vc} (n1 : 1 ≤ n) (u0 : 0 ≤ u) (hS' : Sys p Q L' ρ') (hG : Good p n Q P u L' ρ' Lw L ρ) (hL : L u = 0) (hρ : ∀ v, ρ u v = dl u v) (ht : L' (u % Q) = 0) (hh : L' (u / n) = 0) : Good p n Q P (u + 1) L' ρ' Lw L ρ := by
  obtain ⟨hS, hSp, hGn⟩ := hG
  refine ⟨fun w w0 w1 => ?_, fun V hV hI w w0 w1 => ?_, fun c t c0 c1 t0 t1 hl => ?_⟩
  · rcases (show w < u ∨ w = u by omega) with q | q
    · exact hS w w0 q
    · subst q
      exact ⟨Or.inl hL, fun _ => hρ, fun z => absurd hL z⟩
  · rcases (show w < u ∨ w = u by omega) with q | q
    · exact hSp V hV hI w w0 q
    · subst q
      refine hV.2.2.2 _ _ hV.1 (fun i _ _ => cg_eq ?_)
      unfold rowV
      rw [hρ]
      omega
  · obtain ⟨g1, g2⟩ := gens_up n1 u0 hS' hS hGn c t c0 c1 t0 t1 hl
    refine ⟨fun z => ?_, fun z => ?_⟩
    · rcases (show c * Q + t < u ∨ c * Q + t = u by omega) with q | q
      · exact g1 q
      · rw [← q, (mod_blk t0 t1).1] at ht
        exact absurd ht hl
    · rcases (show t * n + c < u ∨ t * n + c = u by omega) with q | q
      · exact g2 q
      · rw [← q, (mod_blk c0 c1).2] at hh
        exact absurd hh hl
/-- the word u leads, by a row X that follows -/
theorem step_lead {p n Q P u : Int} {L' : Int → Int} {ρ' : Int → Vc} {Lw : Vc → Prop} {L : Int → Int} {ρ : Int → Vc} {X : Vc} (hp : 2 ≤ p) (u0 : 0 ≤ u) (hS : Sys p u L ρ) (hSp : SpanOK p n Q P u L' ρ' Lw ρ) (hL : L u = 1) (hX : ∀ V, SubV p P V → InV n Q L' ρ' Lw V → V X) (hX1 : X u = 1) (hX2 : ∀ i, u < i → i < P → X i = 0) (hr : ∀ v, 0 ≤ ρ u v ∧ ρ u v < p) (hρ : ∀ v, 0 ≤ v → v < u → cg p (ρ u v) (-redV ρ u X v)) (hρ2 : ∀ v, ¬ (0 ≤ v ∧ v < u) → ρ u v = 0) : Sys p (u + 1) L ρ ∧ SpanOK p n Q P (u + 1) L' ρ' Lw ρ ∧ nought p (u + 1) ρ X := by
  refine ⟨fun w w0 w1 => ?_, fun V hV hI w w0 w1 => ?_, ext_nought u0 hS hX1 hρ (fun v z => hρ2 v (by omega))⟩
  · rcases (show w < u ∨ w = u by omega) with q | q
    · exact hS w w0 q
    · subst q
      refine ⟨Or.inr hL, fun z => by omega, fun _ v => ⟨(hr v).1, (hr v).2, fun z => ?_⟩⟩
      by_cases y : 0 ≤ v ∧ v < w
      · refine ⟨y.1, y.2, ?_⟩
        by_cases y2 : L v = 0
        · exact y2
        · have h1 := hρ v y.1 y.2
          rw [red_nl hS y2] at h1
          have := cg_in h1 (hr v).1 (hr v).2 (by omega) (by omega)
          exact absurd this z
      · exact absurd (hρ2 v y) z
  · rcases (show w < u ∨ w = u by omega) with q | q
    · exact hSp V hV hI w w0 q
    · subst q
      exact ext_row w0 hS hV (fun i a b => hSp V hV hI i a b) (hX V hV hI) hX1 hX2 hρ (fun v z => hρ2 v (by omega))
/-- a row that follows, reduced to G: its greatest word leads -/
theorem step_span {p n Q P u k : Int} {L' : Int → Int} {ρ' : Int → Vc} {Lw : Vc → Prop} {L : Int → Int} {ρ : Int → Vc} {X G : Vc} (hp : Pr p) (u1 : u ≤ P) (hS : Sys p u L ρ) (hSp : SpanOK p n Q P u L' ρ' Lw ρ) (hX : ∀ V, SubV p P V → InV n Q L' ρ' Lw V → V X) (hX2 : ∀ i, u ≤ i → i < P → X i = 0) (hG : ∀ v, 0 ≤ v → v < u → cg p (redV ρ u X v) (G v)) (k0 : 0 ≤ k) (k1 : k < u) (hk : L k = 0) (hGk : 0 < G k) (hGk2 : G k < p) (hz : ∀ v, k < v → v < u → G v = 0) : SpanOK p n Q P u L' ρ' Lw (subR p k L ρ (nrI p k k G)) := by
  intro V hV hI
  have hr := hSp V hV hI
  refine sub_rows hV hS k0 k1 hk hr (nr_in hV hp hGk hGk2 k1 k0 hz ?_)
  have h1 := red_in (u := u) (x := X) hV (fun w a b => Or.inr (hr w a b))
  have h2 := hV.sub (hX V hV hI) h1
  refine hV.2.2.2 _ _ h2 (fun i i0 i1 => ?_)
  by_cases q : 0 ≤ i ∧ i < u
  · show cg p (X i - ((if 0 ≤ i ∧ i < u then X i else 0) - redV ρ u X i)) (if 0 ≤ i ∧ i < u then G i else 0)
    rw [if_pos q, if_pos q]
    exact cg_tr (cg_eq (by omega)) (hG i q.1 q.2)
  · show cg p (X i - ((if 0 ≤ i ∧ i < u then X i else 0) - redV ρ u X i)) (if 0 ≤ i ∧ i < u then G i else 0)
    rw [if_neg q, if_neg q, hX2 i (by omega) i1, red_top hS (by omega)]
    exact cg_eq (by omega)
/-- nought is just what follows, where a length's system is done -/
theorem ker_span {p n Q P : Int} {L' : Int → Int} {ρ' : Int → Vc} {Lw : Vc → Prop} {L : Int → Int} {ρ : Int → Vc} (hP : ∀ c t, 0 ≤ c → c < n → 0 ≤ t → t < Q → c * Q + t < P ∧ t * n + c < P) (hG : Good p n Q P P L' ρ' Lw L ρ) (hLw : ∀ x, Lw x → nought p P ρ x) (x : Vc) : nought p P ρ x ↔ ∀ V, SubV p P V → InV n Q L' ρ' Lw V → V x := by
  obtain ⟨hS, hSp, hGn⟩ := hG
  constructor
  · intro h V hV hI
    have h1 := red_in (u := P) (x := x) hV (fun w a b => Or.inr (hSp V hV hI w a b))
    refine hV.2.2.2 _ _ h1 (fun i i0 i1 => ?_)
    show cg p ((if 0 ≤ i ∧ i < P then x i else 0) - redV ρ P x i) (x i)
    rw [if_pos ⟨i0, i1⟩]
    exact cg_tr (cg_sub (cg_rf p _) (h i i0 i1)) (cg_eq (by omega))
  · intro h
    refine h (nought p P ρ) ⟨fun v _ _ => cg_eq (sum_zero (fun w _ _ => Int.zero_mul _)), fun x y hx hy v v0 v1 => ?_, fun c x hx v v0 v1 => ?_, fun x y hx hxy v v0 v1 => ?_⟩ ⟨fun c t c0 c1 t0 t1 hl => ?_, hLw⟩
    · have e : redV ρ P (fun i => x i + y i) v = redV ρ P x v + redV ρ P y v := by
        unfold redV
        rw [← sum_add]
        exact sumF_congr (fun w _ _ => Int.add_mul _ _ _)
      rw [e]
      exact cg_tr (cg_add (hx v v0 v1) (hy v v0 v1)) (cg_eq (by omega))
    · have e : redV ρ P (fun i => c * x i) v = c * redV ρ P x v := by
        unfold redV
        rw [← sum_mulL]
        exact sumF_congr (fun w _ _ => Int.mul_assoc _ _ _)
      rw [e]
      exact cg_tr (cg_mulL c (hx v v0 v1)) (cg_eq (Int.mul_zero c))
    · exact cg_tr (cg_sy (red_cg (fun w a b => hxy w a b))) (hx v v0 v1)
    · obtain ⟨g1, g2⟩ := hGn c t c0 c1 t0 t1 hl
      obtain ⟨b1, b2⟩ := hP c t c0 c1 t0 t1
      exact ⟨g1 b1, g2 b2⟩
theorem good_same {p n Q P : Int} {L' : Int → Int} {ρ' : Int → Vc} {Lw : Vc → Prop} {L L2 : Int → Int} {ρ ρ2 : Int → Vc} (hp : 2 ≤ p) (hP : ∀ c t, 0 ≤ c → c < n → 0 ≤ t → t < Q → c * Q + t < P ∧ t * n + c < P) (h1 : Good p n Q P P L' ρ' Lw L ρ) (h2 : Good p n Q P P L' ρ' Lw L2 ρ2) (hl1 : ∀ x, Lw x → nought p P ρ x) (hl2 : ∀ x, Lw x → nought p P ρ2 x) : ∀ w, 0 ≤ w → w < P → L w = L2 w ∧ ∀ v, ρ w v = ρ2 w v :=
  sys_same hp h1.1 h2.1 (fun x => (ker_span hP h1 hl1 x).trans (ker_span hP h2 hl2 x).symm)
