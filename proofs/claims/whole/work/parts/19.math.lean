/-! ===== a row that is nought comes to a system ===== -/
def gz (k : Int) (g : Vc) : Vc := fun v => if 0 ≤ v ∧ v < k then g v else 0
def subL (k : Int) (L : Int → Int) : Int → Int := fun w => if w = k then 1 else L w
def subR (p k : Int) (L : Int → Int) (ρ : Int → Vc) (g : Vc) : Int → Vc := fun w v => if w = k then gz k g v else if L w ≠ 0 ∧ k < w then (if 0 ≤ v ∧ v < w then replF p k (ρ w) g v else 0) else ρ w v
theorem sub_pt {p u k w v : Int} {L : Int → Int} {ρ : Int → Vc} {g : Vc} (hS : Sys p u L ρ) (k0 : 0 ≤ k) (k1 : k < u) (hk : L k = 0) (w0 : 0 ≤ w) (w1 : w < u) (v0 : 0 ≤ v) : cg p (subR p k L ρ g w v) (ρ w v - ρ w k * (dl k v - gz k g v)) := by
  obtain ⟨a, b, c⟩ := hS w w0 w1
  unfold subR
  by_cases q : w = k
  · subst q
    rw [if_pos rfl, b hk, b hk, dl_s, Int.one_mul]
    exact cg_eq (by omega)
  · rw [if_neg q]
    by_cases q2 : L w ≠ 0 ∧ k < w
    · rw [if_pos q2]
      have hw := c q2.1
      by_cases q3 : 0 ≤ v ∧ v < w
      · rw [if_pos q3]
        unfold replF
        by_cases q4 : v = k
        · subst q4
          rw [if_pos rfl, dl_s]
          unfold gz
          rw [if_neg (by omega)]
          exact cg_eq (by omega)
        · rw [if_neg q4, dl_n q4]
          unfold gz
          by_cases q5 : v < k
          · rw [if_pos q5, if_pos ⟨v0, q5⟩]
            refine cg_tr (cg_mod p _) (cg_eq ?_)
            rw [Int.zero_sub, Int.mul_neg]
            omega
          · rw [if_neg q5, if_neg (by omega)]
            exact cg_eq (by rw [Int.sub_zero, Int.mul_zero]; omega)
      · rw [if_neg q3, dl_n (by omega)]
        unfold gz
        rw [if_neg (by omega)]
        have hv : ρ w v = 0 := by
          by_cases z : ρ w v = 0
          · exact z
          · have := (hw v).2.2 z
            omega
        rw [hv]
        exact cg_eq (by rw [Int.sub_zero, Int.mul_zero]; omega)
    · rw [if_neg q2]
      have hz : ρ w k = 0 := by
        rcases a with a | a
        · rw [b a, dl_n (fun e => q e.symm)]
        · exact hS.hi w0 w1 (by rcases (show w < k ∨ k < w by omega) with z | z; exact z; exact absurd ⟨by omega, z⟩ q2)
      rw [hz, Int.zero_mul, Int.sub_zero]
      exact cg_rf p _
theorem sub_sys {p u k : Int} {L : Int → Int} {ρ : Int → Vc} {g : Vc} (hp : 2 ≤ p) (hS : Sys p u L ρ) (k0 : 0 ≤ k) (hg : ∀ v, 0 ≤ v → v < k → 0 ≤ g v ∧ g v < p ∧ (g v ≠ 0 → L v = 0)) : Sys p u (subL k L) (subR p k L ρ g) := by
  intro w w0 w1
  obtain ⟨a, b, c⟩ := hS w w0 w1
  unfold subL
  by_cases q : w = k
  · rw [if_pos q]
    refine ⟨Or.inr rfl, fun z => absurd z (by decide), fun _ v => ?_⟩
    have e : subR p k L ρ g w v = gz k g v := by unfold subR; rw [if_pos q]
    rw [e]
    unfold gz
    by_cases z : 0 ≤ v ∧ v < k
    · rw [if_pos z]
      have := hg v z.1 z.2
      refine ⟨this.1, this.2.1, fun y => ⟨z.1, by omega, ?_⟩⟩
      rw [if_neg (by omega)]
      exact this.2.2 y
    · rw [if_neg z]
      exact ⟨by omega, by omega, fun y => absurd rfl y⟩
  · rw [if_neg q]
    refine ⟨a, fun z v => ?_, fun z v => ?_⟩
    · have e : subR p k L ρ g w v = ρ w v := by unfold subR; rw [if_neg q, if_neg (fun y => y.1 z)]
      rw [e]
      exact b z v
    · have hw := c z
      by_cases q2 : k < w
      · have e : subR p k L ρ g w v = (if 0 ≤ v ∧ v < w then replF p k (ρ w) g v else 0) := by unfold subR; rw [if_neg q, if_pos ⟨z, q2⟩]
        rw [e]
        by_cases q3 : 0 ≤ v ∧ v < w
        · rw [if_pos q3]
          unfold replF
          by_cases q4 : v = k
          · rw [if_pos q4]
            exact ⟨by omega, by omega, fun y => absurd rfl y⟩
          · rw [if_neg q4, if_neg q4]
            by_cases q5 : v < k
            · rw [if_pos q5]
              have hm := emod_in (a := ρ w v + ρ w k * g v) hp
              refine ⟨hm.1, hm.2, fun y => ⟨q3.1, q3.2, ?_⟩⟩
              by_cases z1 : ρ w v = 0
              · by_cases z2 : g v = 0
                · rw [z1, z2, Int.mul_zero] at y
                  exact absurd rfl y
                · exact (hg v q3.1 q5).2.2 z2
              · exact ((hw v).2.2 z1).2.2
            · rw [if_neg q5]
              exact ⟨(hw v).1, (hw v).2.1, fun y => (hw v).2.2 y⟩
        · rw [if_neg q3]
          exact ⟨by omega, by omega, fun y => absurd rfl y⟩
      · have e : subR p k L ρ g w v = ρ w v := by unfold subR; rw [if_neg q, if_neg (fun y => q2 y.2)]
        rw [e]
        refine ⟨(hw v).1, (hw v).2.1, fun y => ?_⟩
        have h1 := (hw v).2.2 y
        rw [if_neg (by omega)]
        exact h1
theorem sub_rows {p P u k : Int} {L : Int → Int} {ρ : Int → Vc} {g : Vc} {V : Vc → Prop} (hV : SubV p P V) (hS : Sys p u L ρ) (k0 : 0 ≤ k) (k1 : k < u) (hk : L k = 0) (hr : ∀ w, 0 ≤ w → w < u → V (rowV ρ w)) (hg : V (fun i => dl k i - gz k g i)) : ∀ w, 0 ≤ w → w < u → V (rowV (subR p k L ρ g) w) := by
  intro w w0 w1
  have h1 := hV.2.1 _ _ (hr w w0 w1) (hV.2.2.1 (ρ w k) _ hg)
  refine hV.2.2.2 _ _ h1 (fun i i0 _ => ?_)
  have h2 := sub_pt (g := g) hS k0 k1 hk w0 w1 i0
  unfold rowV
  have h3 := cg_sub (cg_rf p (dl w i)) h2
  exact cg_tr (cg_eq (by omega)) (cg_sy h3)
theorem sub_red {p u k v : Int} {L : Int → Int} {ρ : Int → Vc} {g x : Vc} (hS : Sys p u L ρ) (k0 : 0 ≤ k) (k1 : k < u) (hk : L k = 0) (v0 : 0 ≤ v) : cg p (redV (subR p k L ρ g) u x v) (redV ρ u x v - redV ρ u x k * (dl k v - gz k g v)) := by
  unfold redV
  have h1 : cg p (sumF (fun w => x w * subR p k L ρ g w v) u) (sumF (fun w => x w * (ρ w v - ρ w k * (dl k v - gz k g v))) u) := sum_cg (fun w a b => cg_mulL _ (sub_pt hS k0 k1 hk a b v0))
  refine cg_tr h1 (cg_eq ?_)
  rw [← sum_mulR, ← sum_sub]
  exact sumF_congr (fun w _ _ => by rw [Int.mul_sub, Int.mul_assoc])
/-- the row G, made ready, at its greatest word k -/
theorem nr_cg {p k : Int} {G : Vc} (hp : Pr p) (hG : 0 < G k) (hG2 : G k < p) {i : Int} (h : i ≠ k → (0 ≤ i ∧ i < k) ∨ G i = 0 ∧ ¬ (0 ≤ i ∧ i < k)) : cg p (dl k i - gz k (nrI p k k G) i) (ivf p (G k) * G i) := by
  obtain ⟨v1, v2, v3⟩ := ivf_ok hp hG hG2
  by_cases q : i = k
  · subst q
    rw [dl_s]
    unfold gz
    rw [if_neg (by omega), Int.sub_zero, Int.mul_comm]
    have := cg_mod p (G i * ivf p (G i))
    rw [v3] at this
    exact this
  · rw [dl_n q]
    rcases h q with z | ⟨z, z2⟩
    · unfold gz
      rw [if_pos z, nrI_lt q z.1 z.2]
      have h1 := cg_mod p (G i * (p - ivf p (G k)))
      have h2 : cg p (G i * (p - ivf p (G k))) (G i * (0 - ivf p (G k))) := cg_mulL _ (cg_sub (cg_p p) (cg_rf p _))
      refine cg_tr (cg_sub (cg_rf p 0) (cg_tr h1 h2)) (cg_eq ?_)
      rw [Int.zero_sub (ivf p (G k)), Int.mul_neg, Int.mul_comm]
      omega
    · unfold gz
      rw [if_neg z2, z, Int.mul_zero]
      exact cg_rf p _
theorem nr_in {p P u k : Int} {G : Vc} {V : Vc → Prop} (hV : SubV p P V) (hp : Pr p) (hG : 0 < G k) (hG2 : G k < p) (k1 : k < u) (k0 : 0 ≤ k) (hz : ∀ v, k < v → v < u → G v = 0) (h : V (fun i => if 0 ≤ i ∧ i < u then G i else 0)) : V (fun i => dl k i - gz k (nrI p k k G) i) := by
  refine hV.2.2.2 _ _ (hV.2.2.1 (ivf p (G k)) _ h) (fun i i0 _ => ?_)
  by_cases q : 0 ≤ i ∧ i < u
  · show cg p (ivf p (G k) * (if 0 ≤ i ∧ i < u then G i else 0)) _
    rw [if_pos q]
    exact cg_sy (nr_cg hp hG hG2 (fun z => by
      rcases (show i < k ∨ k < i by omega) with y | y
      · exact Or.inl ⟨i0, y⟩
      · exact Or.inr ⟨hz i y q.2, by omega⟩))
  · show cg p (ivf p (G k) * (if 0 ≤ i ∧ i < u then G i else 0)) _
    rw [if_neg q, Int.mul_zero, dl_n (by omega)]
    unfold gz
    rw [if_neg (by omega)]
    exact cg_eq (by omega)
/-- what is G by the old system is nought by the new one -/
theorem nr_red {p u k : Int} {L : Int → Int} {ρ : Int → Vc} {G x : Vc} (hp : Pr p) (hS : Sys p u L ρ) (k0 : 0 ≤ k) (k1 : k < u) (hk : L k = 0) (hG : 0 < G k) (hG2 : G k < p) (hz : ∀ v, k < v → v < u → G v = 0) (hx : ∀ v, 0 ≤ v → v < u → cg p (redV ρ u x v) (G v)) : ∀ v, 0 ≤ v → v < u → cg p (redV (subR p k L ρ (nrI p k k G)) u x v) 0 := by
  intro v v0 v1
  obtain ⟨w1, w2, w3⟩ := ivf_ok hp hG hG2
  have h1 := sub_red (g := nrI p k k G) (x := x) hS k0 k1 hk v0
  have h2 := nr_cg (i := v) hp hG hG2 (fun z => by
      rcases (show v < k ∨ k < v by omega) with y | y
      · exact Or.inl ⟨v0, y⟩
      · exact Or.inr ⟨hz v y v1, by omega⟩)
  have h3 : cg p (redV ρ u x v - redV ρ u x k * (dl k v - gz k (nrI p k k G) v)) (G v - G k * (ivf p (G k) * G v)) := cg_sub (hx v v0 v1) (cg_mul (hx k k0 k1) h2)
  have h4 : cg p (G k * (ivf p (G k) * G v)) (1 * G v) := by
    rw [← Int.mul_assoc]
    have := cg_mod p (G k * ivf p (G k))
    rw [w3] at this
    exact cg_mul (cg_sy this) (cg_rf p _)
  refine cg_tr h1 (cg_tr h3 (cg_tr (cg_sub (cg_rf p _) h4) (cg_eq ?_)))
  rw [Int.one_mul]
  omega
theorem nr_red0 {p u k : Int} {L : Int → Int} {ρ : Int → Vc} {g x : Vc} (hS : Sys p u L ρ) (k0 : 0 ≤ k) (k1 : k < u) (hk : L k = 0) (hx : ∀ v, 0 ≤ v → v < u → cg p (redV ρ u x v) 0) : ∀ v, 0 ≤ v → v < u → cg p (redV (subR p k L ρ g) u x v) 0 := by
  intro v v0 v1
  have h1 := sub_red (g := g) (x := x) hS k0 k1 hk v0
  have h3 := cg_sub (hx v v0 v1) (cg_mul (hx k k0 k1) (cg_rf p (dl k v - gz k g v)))
  refine cg_tr h1 (cg_tr h3 (cg_eq ?_))
  rw [Int.zero_mul]
  omega
/-! two systems with the same nought are the same -/
theorem red_row {p P w v : Int} {L L2 : Int → Int} {ρ ρ2 : Int → Vc} (h : Sys p P L ρ) (h2 : Sys p P L2 ρ2) (w0 : 0 ≤ w) (w1 : w < P) (hL : ∀ i, 0 ≤ i → i < w → L i = 0 → L2 i = 0) (v0 : 0 ≤ v) (v1 : v < P) (hw : L w ≠ 0) : redV ρ2 P (rowV ρ w) v = ρ2 w v - ρ w v := by
  unfold redV
  have hc := (h w w0 w1).2.2 hw
  have e : sumF (fun i => rowV ρ w i * ρ2 i v) P = sumF (fun i => dl w i * ρ2 i v - ρ w i * dl i v) P := sumF_congr (fun i i0 i1 => by
    unfold rowV
    rw [Int.sub_mul]
    by_cases q : ρ w i = 0
    · rw [q, Int.zero_mul, Int.zero_mul]
    · have := (hc i).2.2 q
      rw [(h2 i i0 i1).2.1 (hL i i0 this.2.1 this.2.2) v])
  rw [e, sum_sub, sum_dl _ v0 v1, sum_one w0 w1 (fun i _ _ c => by rw [dl_n c, Int.zero_mul]), dl_s, Int.one_mul]
theorem lead_le {p P w : Int} {L L2 : Int → Int} {ρ ρ2 : Int → Vc} (hp : 2 ≤ p) (h : Sys p P L ρ) (h2 : Sys p P L2 ρ2) (hk : ∀ x : Vc, (∀ v, 0 ≤ v → v < P → cg p (redV ρ P x v) 0) → ∀ v, 0 ≤ v → v < P → cg p (redV ρ2 P x v) 0) (w0 : 0 ≤ w) (w1 : w < P) (hw : L w ≠ 0) : L2 w ≠ 0 := by
  intro hz
  have h3 := hk (rowV ρ w) (fun v v0 v1 => by rw [red_row h h w0 w1 (fun i _ _ z => z) v0 v1 hw]; exact cg_eq (by omega)) w w0 w1
  have hc := (h w w0 w1).2.2 hw
  have e : redV ρ2 P (rowV ρ w) w = 1 := by
    unfold redV
    rw [sum_one w0 w1 (fun i i0 i1 c => ?_), (h2 w w0 w1).2.1 hz w, dl_s, Int.mul_one]
    · unfold rowV
      have : ρ w w = 0 := by
        by_cases q : ρ w w = 0
        · exact q
        · have := (hc w).2.2 q
          omega
      rw [dl_s, this]
      rfl
    · rcases (show i < w ∨ w < i by omega) with z | z
      · rw [h2.hi i0 i1 z, Int.mul_zero]
      · unfold rowV
        rw [dl_n (by omega), h.hi w0 w1 z]
        exact Int.zero_mul _
  rw [e] at h3
  have := cg_0 h3
  rw [emod_id (by omega) (by omega)] at this
  omega
theorem sys_same {p P : Int} {L L2 : Int → Int} {ρ ρ2 : Int → Vc} (hp : 2 ≤ p) (h : Sys p P L ρ) (h2 : Sys p P L2 ρ2) (hk : ∀ x : Vc, (∀ v, 0 ≤ v → v < P → cg p (redV ρ P x v) 0) ↔ ∀ v, 0 ≤ v → v < P → cg p (redV ρ2 P x v) 0) : ∀ w, 0 ≤ w → w < P → L w = L2 w ∧ ∀ v, ρ w v = ρ2 w v := by
  have hL : ∀ w, 0 ≤ w → w < P → L w = L2 w := by
    intro w w0 w1
    have a := (h w w0 w1).1
    have b := (h2 w w0 w1).1
    have c1 := lead_le hp h h2 (fun x => (hk x).mp) w0 w1
    have c2 := lead_le hp h2 h (fun x => (hk x).mpr) w0 w1
    omega
  intro w w0 w1
  refine ⟨hL w w0 w1, fun v => ?_⟩
  by_cases hw : L w = 0
  · rw [(h w w0 w1).2.1 hw, (h2 w w0 w1).2.1 (by rw [← hL w w0 w1]; exact hw)]
  · have hc := (h w w0 w1).2.2 hw v
    have hc2 := (h2 w w0 w1).2.2 (by rw [← hL w w0 w1]; exact hw) v
    by_cases q : 0 ≤ v ∧ v < P
    · have h3 := (hk (rowV ρ w)).mp (fun v v0 v1 => by rw [red_row h h w0 w1 (fun i _ _ z => z) v0 v1 hw]; exact cg_eq (by omega)) v q.1 q.2
      rw [red_row h h2 w0 w1 (fun i i0 i1 z => by rw [← hL i i0 (by omega)]; exact z) q.1 q.2 hw] at h3
      have h4 : cg p (ρ w v) (ρ2 w v) := by
        have := cg_sub (cg_rf p (ρ2 w v)) h3
        exact cg_tr (cg_eq (by omega)) (cg_tr this (cg_eq (by omega)))
      exact cg_in h4 hc.1 hc.2.1 hc2.1 hc2.2.1
    · have a : ρ w v = 0 := by
        by_cases z : ρ w v = 0
        · exact z
        · have := hc.2.2 z
          omega
      have b : ρ2 w v = 0 := by
        by_cases z : ρ2 w v = 0
        · exact z
        · have := hc2.2.2 z
          omega
      rw [a, b]
