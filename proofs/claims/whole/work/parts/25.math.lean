/-! ===== memory of takeNought in rows ===== -/
theorem same_rf (ps : List Nat) (M : AbM) : same ps M M := fun _ _ => rfl
theorem same_tr {ps : List Nat} {M M2 M3 : AbM} (h : same ps M M2) (h2 : same ps M2 M3) : same ps M M3 := fun k hk => (h2 k hk).trans (h k hk)
theorem same_upA {ps : List Nat} {M : AbM} {k : Nat} {f : Int → Int} (h : k ∈ ps) : same ps M (upA M k f) := fun q hq => upA_row (fun e => hq (e ▸ h))
theorem same_up {ps : List Nat} {M : AbM} {k : Nat} {i x : Int} (h : k ∈ ps) : same ps M (up M k i x) := fun q hq => up_row (fun e => hq (e ▸ h))
theorem same.al {ps : List Nat} {M M2 : AbM} {a : Nat} {n p : Int} (h : same ps M M2) (hA : Al M a n p) (hp : ∀ k ∈ ps, k < a ∨ a + 3 < k) : Al M2 a n p := hA.of (h a (fun z => by have := hp a z; omega)) (h (a + 1) (fun z => by have := hp _ z; omega)) (h (a + 2) (fun z => by have := hp _ z; omega)) (h (a + 3) (fun z => by have := hp _ z; omega))
theorem TN_of {n p d u : Int} {b : Nat} {M M2 : AbM} (h : ((∀ v, 0 ≤ v → v < u → M (b + 6) v = 0) ∧ M2 = M) ∨ ∃ k F, 0 ≤ k ∧ k < u ∧ M (b + 6) k ≠ 0 ∧ (∀ v, k < v → v < u → M (b + 6) v = 0) ∧ M2 = up (upA (upA M (b + 6) (nrI p k k (M (b + 6)))) (b + 1) F) (b + 2) (wsm n d + k) 1 ∧ (∀ w v, 0 ≤ v → v ≤ w → w < pw n d → fmq n d F w v = newFm n p d k u (M (b + 1)) (M (b + 2)) (M (b + 6)) w v) ∧ ∀ x, x < fsm n d → F x = M (b + 1) x) :
    same [b + 1, b + 2, b + 6] M M2 ∧ TN n p d u (M (b + 1)) (M (b + 2)) (M (b + 6)) (M2 (b + 1)) (M2 (b + 2)) := by
  rcases h with ⟨hz, rfl⟩ | ⟨k, F, k0, k1, hk, hz, rfl, hF, hlo⟩
  · exact ⟨same_rf _ _, Or.inl ⟨hz, rfl, rfl⟩⟩
  · refine ⟨same_tr (same_tr (same_upA (by simp)) (same_upA (by simp))) (same_up (by simp)), Or.inr ⟨k, k0, k1, hk, hz, ?_, ?_⟩⟩
    · funext i
      unfold stZ up
      by_cases q : i = wsm n d + k
      · simp [q]
      · simp [q, upA]
    · have e : up (upA (upA M (b + 6) (nrI p k k (M (b + 6)))) (b + 1) F) (b + 2) (wsm n d + k) 1 (b + 1) = F := by
        funext i
        rw [up_k (by omega), upA_s]
      rw [e]
      exact ⟨hF, hlo⟩
def lawS (n d i : Int) (N F Z : Int → Int) (j : Int) : Int → Int := fun x => sumF (fun y => N (i * 81 + y) * rho n d F Z y x) j
theorem lawS_s {n d i j x : Int} {N F Z : Int → Int} (h : 0 ≤ j) : lawS n d i N F Z (j + 1) x = lawS n d i N F Z j x + N (i * 81 + j) * rho n d F Z j x := sumF_s h
def zr (P : Int) (G : Int → Int) : Int → Int := fun v => if 0 ≤ v ∧ v < P then 0 else G v
theorem zr_in {P v : Int} {G : Int → Int} (h0 : 0 ≤ v) (h1 : v < P) : zr P G v = 0 := if_pos ⟨h0, h1⟩
/-- a law's row -/
def lawR (n d i : Int) (N : Int → Int) : Vc := fun y => if 0 ≤ y ∧ y < pw n d then N (i * 81 + y) else 0
