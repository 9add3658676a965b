theorem AlgOK.of {n p : Int} {M M2 : AbM} {b g : Nat} (h : AlgOK n p M b g) (h0 : M2 b 8 = M b 8) (h1 : M2 (b + 1) = M (b + 1)) (h2 : M2 (b + 2) = M (b + 2)) (h3 : M2 (b + 3) = M (b + 3)) (h4 : M2 (b + 4) = M (b + 4)) (h5 : ∀ e, 0 ≤ e → e < M b 8 → M2 (b + 5) e = M (b + 5) e ∨ M2 (b + 5) e = midV n p e (M (b + 1)) (M (b + 2))) (g0 : M2 g = M g) (g1 : M2 (g + 1) = M (g + 1)) (g2 : M2 (g + 2) = M (g + 2)) : AlgOK n p M2 b g := by
  obtain ⟨a, b', c, d⟩ := h
  refine ⟨by omega, by omega, fun e e0 e1 => ?_, fun e e0 e1 => ?_⟩
  · unfold AlgAt
    rw [h1, h2, h3, h4, g0, g1, g2]
    exact c e e0 (by omega)
  · rw [h1, h2]
    rcases h5 e e0 (by omega) with q | q
    · rw [q]; exact d e e0 (by omega)
    · exact Or.inr q
/-- the elimination's state -/
abbrev esOf (M : AbM) (c : Nat) : ES := (M (c + 1), M (c + 2), M c 5)
abbrev es0 : ES := ((fun _ => 0), (fun _ => 0), 0)
theorem rk_0 {m : Int} (m0 : 0 ≤ m) : rkOK m es0 := (cntF_eq0 m0).mpr (fun _ _ _ => rfl)
theorem rk_le {n p d x : Int} {F Z : Int → Int} {k j : Nat} (m0 : 0 ≤ nmC n d Z) : (rowsT n p d F Z x k (rowsX n p d F Z j es0)).2.2 ≤ nmC n d Z := by
  have := rowsT_rk (p := p) (F := F) (x := x) m0 k _ (rowsX_rk (p := p) (F := F) m0 j es0 (rk_0 m0))
  unfold rkOK at this
  rw [← this]
  exact (cntF_B m0).2
