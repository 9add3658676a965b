/-! ===== the class's rows as a system ===== -/
theorem WF.sys {n p d u : Int} {F Z : Int → Int} (hp : 2 ≤ p) (h : WF n p d u F Z) : Sys p u (ldq n d Z) (rho n d F Z) := by
  intro w w0 w1
  obtain ⟨a, b⟩ := h w w0 w1
  refine ⟨a, fun z v => ?_, fun z v => ?_⟩
  · unfold rho dl
    rw [if_pos z]
  · unfold rho
    rw [if_neg z]
    by_cases q : 0 ≤ v ∧ v < w
    · rw [if_pos q]
      have := b z v q.1 (by omega)
      exact ⟨this.1, this.2.1, fun y => ⟨q.1, q.2, (this.2.2 y).1⟩⟩
    · rw [if_neg q]
      exact ⟨by omega, by omega, fun y => absurd rfl y⟩
theorem rho_eq {n d w : Int} {F F2 Z Z2 : Int → Int} (hl : ldq n d Z w = ldq n d Z2 w) (hf : ldq n d Z w ≠ 0 → ∀ v, 0 ≤ v → v < w → fmq n d F w v = fmq n d F2 w v) (v : Int) : rho n d F Z w v = rho n d F2 Z2 w v := by
  unfold rho
  rw [← hl]
  by_cases q : ldq n d Z w = 0
  · rw [if_pos q, if_pos q]
  · rw [if_neg q, if_neg q]
    by_cases z : 0 ≤ v ∧ v < w
    · rw [if_pos z, if_pos z, hf q v z.1 z.2]
    · rw [if_neg z, if_neg z]
theorem WF.congr {n p d u : Int} {F F2 Z Z2 : Int → Int} (h : WF n p d u F Z) (hl : ∀ w, 0 ≤ w → w < u → ldq n d Z w = ldq n d Z2 w) (hf : ∀ w, 0 ≤ w → w < u → ∀ v, 0 ≤ v → v ≤ w → fmq n d F w v = fmq n d F2 w v) : WF n p d u F2 Z2 := by
  intro w w0 w1
  obtain ⟨a, b⟩ := h w w0 w1
  rw [← hl w w0 w1]
  refine ⟨a, fun z v v0 v1 => ?_⟩
  rw [← hf w w0 w1 v v0 v1, ← hl v v0 (by omega)]
  exact b z v v0 v1
/-- the system of a length d, by the one before -/
def GoodD (n p d u : Int) (Lw : Vc → Prop) (F Z : Int → Int) : Prop := Good p n (pw n (d - 1)) (pw n d) u (ldq n (d - 1) Z) (rho n (d - 1) F Z) Lw (ldq n d Z) (rho n d F Z)
theorem blk_B {n d : Int} (n1 : 1 ≤ n) (h0 : 1 ≤ d) : ∀ c t, 0 ≤ c → c < n → 0 ≤ t → t < pw n (d - 1) → c * pw n (d - 1) + t < pw n d ∧ t * n + c < pw n d := by
  intro c t c0 c1 t0 t1
  have e : pw n d = pw n (d - 1) * n := by rw [← pw_s (by omega), show d - 1 + 1 = d by omega]
  have h1 : c * pw n (d - 1) + pw n (d - 1) ≤ n * pw n (d - 1) := by
    have : (c + 1) * pw n (d - 1) ≤ n * pw n (d - 1) := Int.mul_le_mul_of_nonneg_right (by omega) (by omega)
    rw [Int.add_mul, Int.one_mul] at this
    exact this
  have h2 : t * n + n ≤ pw n (d - 1) * n := by
    have : (t + 1) * n ≤ pw n (d - 1) * n := Int.mul_le_mul_of_nonneg_right (by omega) (by omega)
    rw [Int.add_mul, Int.one_mul] at this
    exact this
  rw [Int.mul_comm n] at h1
  omega
/-- rows of other lengths, or of shorter words, are the same -/
theorem prev_same {n d : Int} {F F2 Z Z2 : Int → Int} (h0 : 1 ≤ d) (hF : ∀ x, x < fsm n d → F2 x = F x) (hZ : ∀ x, x < wsm n d → Z2 x = Z x) : ∀ t, 0 ≤ t → t < pw n (d - 1) → ldq n (d - 1) Z t = ldq n (d - 1) Z2 t ∧ (∀ v, rho n (d - 1) F Z t v = rho n (d - 1) F2 Z2 t v) ∧ ∀ v, 0 ≤ v → v ≤ t → fmq n (d - 1) F t v = fmq n (d - 1) F2 t v := by
  intro t t0 t1
  have e1 : wsm n d = wsm n (d - 1) + pw n (d - 1) := by rw [← wsm_s (by omega), show d - 1 + 1 = d by omega]
  have e2 : fsm n d = fsm n (d - 1) + pw n (d - 1) * (pw n (d - 1) + 1) / 2 := by rw [← fsm_s (by omega), show d - 1 + 1 = d by omega]
  have e3 := tri_lt t0 t1
  have hl : ldq n (d - 1) Z t = ldq n (d - 1) Z2 t := (hZ _ (by omega)).symm
  have hf : ∀ v, 0 ≤ v → v ≤ t → fmq n (d - 1) F t v = fmq n (d - 1) F2 t v := fun v v0 v1 => (hF _ (by omega)).symm
  exact ⟨hl, rho_eq hl (fun _ v v0 v1 => hf v v0 (by omega)), hf⟩
/-- the flag of the word w -/
def stZ (n d w x : Int) (Z : Int → Int) : Int → Int := fun i => if i = wsm n d + w then x else Z i
theorem stZ_s {n d w x : Int} {Z : Int → Int} : ldq n d (stZ n d w x Z) w = x := if_pos rfl
theorem stZ_n {n d w w2 x : Int} {Z : Int → Int} (h : w2 ≠ w) : ldq n d (stZ n d w x Z) w2 = ldq n d Z w2 := if_neg (by omega)
theorem stZ_lo {n d w x i : Int} {Z : Int → Int} (w0 : 0 ≤ w) (h : i < wsm n d) : stZ n d w x Z i = Z i := if_neg (by omega)
/-- behind a row that is nought -/
theorem nought_mem {n p d u k : Int} {F Z G F2 : Int → Int} (hp : Pr p) (u1 : u ≤ pw n d) (h : WF n p d u F Z) (k0 : 0 ≤ k) (k1 : k < u) (hG : ∀ v, 0 ≤ v → v < u → 0 ≤ G v ∧ G v < p ∧ (G v ≠ 0 → ldq n d Z v = 0)) (hF : ∀ w v, 0 ≤ v → v ≤ w → w < pw n d → fmq n d F2 w v = newFm n p d k u F Z G w v) :
    (∀ w, 0 ≤ w → w < u → ldq n d (stZ n d k 1 Z) w = subL k (ldq n d Z) w ∧ ∀ v, rho n d F2 (stZ n d k 1 Z) w v = subR p k (ldq n d Z) (rho n d F Z) (nrI p k k G) w v) ∧ WF n p d u F2 (stZ n d k 1 Z) := by
  obtain ⟨p1, p2, -⟩ := id hp
  have hS := h.sys p1
  have hl : ∀ w, ldq n d (stZ n d k 1 Z) w = subL k (ldq n d Z) w := fun w => by
    unfold subL
    by_cases q : w = k
    · rw [if_pos q, q, stZ_s]
    · rw [if_neg q, stZ_n q]
  have hg : ∀ v, 0 ≤ v → v < k → 0 ≤ nrI p k k G v ∧ nrI p k k G v < p ∧ (nrI p k k G v ≠ 0 → ldq n d Z v = 0) := fun v v0 v1 => by
    rw [nrI_lt (by omega) v0 v1]
    have hm := emod_in (a := G v * (p - ivf p (G k))) p1
    refine ⟨hm.1, hm.2, fun z => ?_⟩
    by_cases y : G v = 0
    · rw [y, Int.zero_mul] at z
      exact absurd rfl z
    · exact (hG v v0 (by omega)).2.2 y
  have hr : ∀ w, 0 ≤ w → w < u → ∀ v, rho n d F2 (stZ n d k 1 Z) w v = subR p k (ldq n d Z) (rho n d F Z) (nrI p k k G) w v := by
    intro w w0 w1 v
    unfold subR
    by_cases q : w = k
    · subst q
      rw [if_pos rfl]
      unfold rho gz
      rw [stZ_s, if_neg (by decide)]
      by_cases z : 0 ≤ v ∧ v < w
      · rw [if_pos z, if_pos z, hF w v z.1 (by omega) (by omega)]
        unfold newFm
        rw [if_pos rfl]
      · rw [if_neg z, if_neg z]
    · rw [if_neg q]
      by_cases q2 : ldq n d Z w ≠ 0 ∧ k < w
      · rw [if_pos q2]
        by_cases z : 0 ≤ v ∧ v < w
        · have ev : rho n d F Z w v = fmq n d F w v := by unfold rho; rw [if_neg q2.1, if_pos z]
          have ek : rho n d F Z w k = fmq n d F w k := by unfold rho; rw [if_neg q2.1, if_pos ⟨k0, q2.2⟩]
          have e0 : rho n d F2 (stZ n d k 1 Z) w v = fmq n d F2 w v := by unfold rho; rw [stZ_n q, if_neg q2.1, if_pos z]
          rw [if_pos z, e0, hF w v z.1 (by omega) (by omega)]
          unfold newFm
          rw [if_neg q, if_pos ⟨q2.2, w1, q2.1⟩]
          unfold replF
          rw [ev, ek]
        · have e0 : rho n d F2 (stZ n d k 1 Z) w v = 0 := by unfold rho; rw [stZ_n q, if_neg q2.1, if_neg z]
          rw [if_neg z, e0]
      · rw [if_neg q2]
        refine rho_eq (stZ_n q) (fun y v v0 v1 => ?_) v
        rw [hF w v v0 (by omega) (by omega)]
        unfold newFm
        rw [if_neg q, if_neg]
        intro z
        exact q2 ⟨z.2.2, z.1⟩
  refine ⟨fun w w0 w1 => ⟨hl w, hr w w0 w1⟩, ?_⟩
  have hS2 := (sub_sys (g := nrI p k k G) p1 hS k0 hg).congr (L2 := ldq n d (stZ n d k 1 Z)) (ρ2 := rho n d F2 (stZ n d k 1 Z)) (fun w w0 w1 => ⟨(hl w).symm, fun v => (hr w w0 w1 v).symm⟩)
  intro w w0 w1
  obtain ⟨a, b, c⟩ := hS2 w w0 w1
  refine ⟨a, fun z v v0 v1 => ?_⟩
  rcases (show v < w ∨ v = w by omega) with q | q
  · have h1 := c z v
    have e : rho n d F2 (stZ n d k 1 Z) w v = fmq n d F2 w v := by
      unfold rho
      rw [if_neg z, if_pos ⟨v0, q⟩]
    rw [e] at h1
    exact ⟨h1.1, h1.2.1, fun y => ⟨(h1.2.2 y).2.2, q⟩⟩
  · subst q
    have e : fmq n d F2 v v = 0 := by
      rw [hF v v v0 (Int.le_refl _) (by omega)]
      unfold newFm
      by_cases y : v = k
      · rw [if_pos y, y, nrI_k]
      · rw [if_neg y]
        have hz : ldq n d Z v ≠ 0 := by rw [← stZ_n (x := 1) y]; exact z
        have hv : fmq n d F v v = 0 := by
          by_cases x : fmq n d F v v = 0
          · exact x
          · have := ((h v v0 w1).2 hz v v0 (Int.le_refl _)).2.2 x
            omega
        by_cases y2 : k < v ∧ v < u ∧ ldq n d Z v ≠ 0
        · rw [if_pos y2]
          unfold replF
          rw [if_neg y, if_neg (by omega)]
          exact hv
        · rw [if_neg y2]
          exact hv
    rw [e]
    exact ⟨by omega, by omega, fun y => absurd rfl y⟩
/-! ===== a word's turn ===== -/
/-- behind a word's turn: what lies below is as it was; the word is worked out -/
def FSp (n p d w : Int) (Lw : Vc → Prop) (F Z F2 Z2 : Int → Int) : Prop := (∀ x, x < fsm n d → F2 x = F x) ∧ (∀ x, x < wsm n d → Z2 x = Z x) ∧ WF n p d (w + 1) F2 Z2 ∧ (1 ≤ d → GoodD n p d (w + 1) Lw F2 Z2) ∧ (d = 0 → ldq n d Z2 w = 0)
theorem GoodD.prev {n p d u : Int} {Lw : Vc → Prop} {F F2 Z Z2 : Int → Int} (h0 : 1 ≤ d) (hF : ∀ x, x < fsm n d → F2 x = F x) (hZ : ∀ x, x < wsm n d → Z2 x = Z x) {L : Int → Int} {ρ : Int → Vc} (h : Good p n (pw n (d - 1)) (pw n d) u (ldq n (d - 1) Z) (rho n (d - 1) F Z) Lw L ρ) : Good p n (pw n (d - 1)) (pw n d) u (ldq n (d - 1) Z2) (rho n (d - 1) F2 Z2) Lw L ρ :=
  Good.prev (fun t t0 t1 => ⟨(prev_same h0 hF hZ t t0 t1).1, (prev_same h0 hF hZ t t0 t1).2.1⟩) h
theorem fs_none {n p d w : Int} {Lw : Vc → Prop} {F Z : Int → Int} (hp : 2 ≤ p) (n1 : 1 ≤ n) (w0 : 0 ≤ w) (h : WF n p d w F Z) (hpr : 1 ≤ d → WF n p (d - 1) (pw n (d - 1)) F Z) (hG : 1 ≤ d → GoodD n p d w Lw F Z) (hq : 1 ≤ d → ldq n (d - 1) Z (w % pw n (d - 1)) = 0 ∧ ldq n (d - 1) Z (w / n) = 0) : FSp n p d w Lw F Z F (stZ n d w 0 Z) := by
  have hl : ∀ w2, 0 ≤ w2 → w2 < w → ldq n d Z w2 = ldq n d (stZ n d w 0 Z) w2 := fun w2 _ b => (stZ_n (by omega)).symm
  have hZ : ∀ x, x < wsm n d → stZ n d w 0 Z x = Z x := fun x hx => stZ_lo w0 hx
  refine ⟨fun _ _ => rfl, hZ, fun w2 a b => ?_, fun hd => ?_, fun _ => stZ_s⟩
  · rcases (show w2 < w ∨ w2 = w by omega) with q | q
    · exact (h.congr (F2 := F) hl (fun _ _ _ _ _ _ => rfl)) w2 a q
    · subst q
      rw [stZ_s]
      exact ⟨Or.inl rfl, fun z => absurd rfl z⟩
  · have h1 := GoodD.prev hd (fun _ _ => rfl) hZ (hG hd)
    have h2 := Good.congr (L2 := ldq n d (stZ n d w 0 Z)) (ρ2 := rho n d F (stZ n d w 0 Z)) (fun w2 a b => ⟨hl w2 a b, rho_eq (hl w2 a b) (fun _ _ _ _ => rfl)⟩) h1
    have hS' := (hpr hd).sys hp
    have hpe := pw_pos (d := d - 1) n1
    have eq : ∀ t, 0 ≤ t → t < pw n (d - 1) → ldq n (d - 1) (stZ n d w 0 Z) t = ldq n (d - 1) Z t := fun t t0 t1 => ((prev_same (F := F) (F2 := F) hd (fun _ _ => rfl) hZ t t0 t1).1).symm
    refine step_none n1 w0 (hS'.congr (fun t t0 t1 => ⟨(prev_same (F := F) (F2 := F) hd (fun _ _ => rfl) hZ t t0 t1).1, (prev_same (F := F) (F2 := F) hd (fun _ _ => rfl) hZ t t0 t1).2.1⟩)) h2 stZ_s (fun v => ?_) ?_ ?_
    · unfold rho dl
      rw [stZ_s, if_pos rfl]
    · rcases (show w % pw n (d - 1) < pw n (d - 1) from Int.emod_lt_of_pos _ (by omega)) with z
      rw [eq _ (Int.emod_nonneg _ (by omega)) (Int.emod_lt_of_pos _ (by omega))]
      exact (hq hd).1
    · by_cases z : w / n < pw n (d - 1)
      · rw [eq _ (Int.ediv_nonneg w0 (by omega)) z]
        exact (hq hd).2
      · unfold ldq stZ
        have := (hq hd).2
        unfold ldq at this
        by_cases y : wsm n (d - 1) + w / n = wsm n d + w
        · rw [if_pos y]
        · rw [if_neg y]; exact this
