/-! ===== numbers of words ===== -/
def Lg (n : Int) : Int := if n = 1 then 8 else if n = 2 then 7 else 5
def pw (n d : Int) : Int := n ^ d.toNat
def wsum (n : Int) : Nat → Int
  | 0 => 0
  | k + 1 => wsum n k + n ^ k
def fsum (n : Int) : Nat → Int
  | 0 => 0
  | k + 1 => fsum n k + n ^ k * (n ^ k + 1) / 2
def wsm (n d : Int) : Int := wsum n d.toNat
def fsm (n d : Int) : Int := fsum n d.toNat
theorem Lg_B (n : Int) : 5 ≤ Lg n ∧ Lg n ≤ 8 := by unfold Lg; split <;> (try split) <;> omega
theorem pw_0 (n : Int) : pw n 0 = 1 := by simp [pw]
theorem pw_s {n d : Int} (h : 0 ≤ d) : pw n (d + 1) = pw n d * n := by
  unfold pw
  have : (d + 1).toNat = d.toNat + 1 := by omega
  rw [this, Int.pow_succ]
theorem wsm_0 (n : Int) : wsm n 0 = 0 := rfl
theorem fsm_0 (n : Int) : fsm n 0 = 0 := rfl
theorem wsm_s {n d : Int} (h : 0 ≤ d) : wsm n (d + 1) = wsm n d + pw n d := by
  unfold wsm pw
  have : (d + 1).toNat = d.toNat + 1 := by omega
  rw [this]; rfl
theorem fsm_s {n d : Int} (h : 0 ≤ d) : fsm n (d + 1) = fsm n d + pw n d * (pw n d + 1) / 2 := by
  unfold fsm pw
  have : (d + 1).toNat = d.toNat + 1 := by omega
  rw [this]; rfl
/-- all sizes at once, case by case -/
theorem sz_B {n d : Int} (h1 : 1 ≤ n) (h2 : n ≤ 3) (h3 : 0 ≤ d) (h4 : d ≤ Lg n) : 1 ≤ pw n d ∧ pw n d ≤ 243 ∧ pw n d * n ≤ 729 ∧ 0 ≤ wsm n d ∧ wsm n d + pw n d ≤ 364 ∧ 0 ≤ fsm n d ∧ fsm n d + pw n d * (pw n d + 1) / 2 ≤ 33397 := by
  have hn : n = 1 ∨ n = 2 ∨ n = 3 := by omega
  rcases hn with rfl | rfl | rfl
  · have hd : d = 0 ∨ d = 1 ∨ d = 2 ∨ d = 3 ∨ d = 4 ∨ d = 5 ∨ d = 6 ∨ d = 7 ∨ d = 8 := by have : Lg 1 = 8 := rfl; omega
    rcases hd with rfl | rfl | rfl | rfl | rfl | rfl | rfl | rfl | rfl <;> decide +kernel
  · have hd : d = 0 ∨ d = 1 ∨ d = 2 ∨ d = 3 ∨ d = 4 ∨ d = 5 ∨ d = 6 ∨ d = 7 := by have : Lg 2 = 7 := rfl; omega
    rcases hd with rfl | rfl | rfl | rfl | rfl | rfl | rfl | rfl <;> decide +kernel
  · have hd : d = 0 ∨ d = 1 ∨ d = 2 ∨ d = 3 ∨ d = 4 ∨ d = 5 := by have : Lg 3 = 5 := rfl; omega
    rcases hd with rfl | rfl | rfl | rfl | rfl | rfl <;> decide +kernel
theorem pw_pos {n d : Int} (h1 : 1 ≤ n) : 1 ≤ pw n d := by
  unfold pw
  have : 0 < n ^ d.toNat := Int.pow_pos (by omega)
  omega
theorem tri_0 (w : Int) : 2 * (w * (w + 1) / 2) = w * (w + 1) := by
  have h9 : w % 2 = 0 ∨ w % 2 = 1 := by omega
  rcases h9 with h | h
  · obtain ⟨k, rfl⟩ : ∃ k, w = 2 * k := ⟨w / 2, by omega⟩
    rw [Int.mul_assoc, Int.mul_ediv_cancel_left _ (by decide)]
  · obtain ⟨k, hk⟩ : ∃ k, w + 1 = 2 * k := ⟨(w + 1) / 2, by omega⟩
    rw [hk, Int.mul_left_comm, Int.mul_ediv_cancel_left _ (by decide)]
theorem tri_s (w : Int) : (w + 1) * (w + 1 + 1) / 2 = w * (w + 1) / 2 + w + 1 := by
  have h1 := tri_0 w
  have h2 := tri_0 (w + 1)
  have h3 : (w + 1) * (w + 1 + 1) = w * (w + 1) + 2 * (w + 1) := by
    rw [Int.mul_add (w + 1) (w + 1) 1, Int.add_mul w 1 (w + 1)]
    omega
  omega
theorem tri_nn {w : Int} (h : 0 ≤ w) : 0 ≤ w * (w + 1) / 2 := Int.ediv_nonneg (Int.mul_nonneg h (by omega)) (by decide)
theorem tri_mono {v w : Int} (h0 : 0 ≤ v) (h : v ≤ w) : v * (v + 1) / 2 ≤ w * (w + 1) / 2 := by
  have h1 : v * (v + 1) ≤ w * (w + 1) := Int.mul_le_mul h (by omega) (by omega) (by omega)
  have h2 := tri_0 v
  have h3 := tri_0 w
  omega
theorem tri_lt {w P : Int} (h0 : 0 ≤ w) (h : w < P) : w * (w + 1) / 2 + w + 1 ≤ P * (P + 1) / 2 := by
  rw [← tri_s]
  exact tri_mono (by omega) (by omega)
/-- rows that are the same but for some cells -/
def same (ps : List Nat) (M M2 : AbM) : Prop := ∀ k, k ∉ ps → M2 k = M k
/-- primes up to 97, inverses by them -/
def Pr (p : Int) : Prop := 2 ≤ p ∧ p ≤ 97 ∧ ∀ i : Int, 2 ≤ i → i < p → p % i ≠ 0
def invT : Bool := (List.range 98).all (fun p => (p < 2) || ((List.range p).any (fun i => 2 ≤ i && p % i == 0)) || (List.range p).all (fun v => v == 0 || (List.range p).any (fun r => v * r % p == 1)))
theorem invT_ok : invT = true := by decide +kernel
theorem inv_ex {p v : Int} (hp : Pr p) (h0 : 0 < v) (h1 : v < p) : ∃ r : Int, 1 ≤ r ∧ r < p ∧ v * r % p = 1 := by
  obtain ⟨p0, p1, p2⟩ := hp
  obtain ⟨P, rfl⟩ : ∃ P : Nat, p = (P : Int) := ⟨p.toNat, by omega⟩
  obtain ⟨V, rfl⟩ : ∃ V : Nat, v = (V : Int) := ⟨v.toNat, by omega⟩
  have h := List.all_eq_true.mp invT_ok P (List.mem_range.mpr (by omega))
  simp only [Bool.or_eq_true, decide_eq_true_eq] at h
  rcases h with (h | h) | h
  · omega
  · obtain ⟨i, hi, h⟩ := List.any_eq_true.mp h
    simp only [Bool.and_eq_true, decide_eq_true_eq, beq_iff_eq] at h
    have := List.mem_range.mp hi
    exact absurd (by exact_mod_cast h.2) (p2 (i : Int) (by omega) (by omega))
  · have h := List.all_eq_true.mp h V (List.mem_range.mpr (by omega))
    simp only [Bool.or_eq_true, beq_iff_eq] at h
    rcases h with h | h
    · omega
    · obtain ⟨r, hr, h⟩ := List.any_eq_true.mp h
      have hr2 := List.mem_range.mp hr
      simp only [beq_iff_eq] at h
      refine ⟨(r : Int), ?_, by omega, by exact_mod_cast h⟩
      rcases Nat.eq_zero_or_pos r with q | q
      · subst q
        simp at h
      · omega
theorem inv_un {p v r s : Int} (hr : v * r % p = 1) (hs : v * s % p = 1) (r0 : 0 ≤ r) (r1 : r < p) (s0 : 0 ≤ s) (s1 : s < p) : r = s := by
  have e1 : r * (v * s) % p = r % p := by rw [Int.mul_emod, hs, Int.mul_one, Int.emod_emod]
  have e2 : r * (v * s) % p = s % p := by
    have : r * (v * s) = s * (v * r) := by rw [Int.mul_left_comm r v s, Int.mul_left_comm s v r, Int.mul_comm r s]
    rw [this, Int.mul_emod, hr, Int.mul_one, Int.emod_emod]
  rw [Int.emod_eq_of_lt r0 r1] at e1
  rw [Int.emod_eq_of_lt s0 s1] at e2
  omega
theorem rest_ge {x p : Int} (hp : 0 < p) (h : 0 ≤ x.tmod p) : x.tmod p = x % p := by
  have h1 := Int.tmod_add_mul_tdiv x p
  have h2 : (x.tmod p + p * x.tdiv p) % p = x.tmod p % p := Int.add_mul_emod_self_left _ _ _
  rw [h1, Int.emod_eq_of_lt h (ab_tmodB hp).2] at h2
  exact h2.symm
theorem rest_lt {x p : Int} (hp : 0 < p) (h : x.tmod p < 0) : x.tmod p + p = x % p := by
  have h1 := Int.tmod_add_mul_tdiv x p
  have h2 : (x.tmod p + p + p * (x.tdiv p - 1)) % p = (x.tmod p + p) % p := Int.add_mul_emod_self_left _ _ _
  have h3 : x.tmod p + p + p * (x.tdiv p - 1) = x := by rw [Int.mul_sub, Int.mul_one]; omega
  have h4 := (ab_tmodB (x := x) hp).1
  have h5 : (x.tmod p + p) % p = x.tmod p + p := Int.emod_eq_of_lt (by omega) (by omega)
  rw [h3, h5] at h2
  exact h2.symm
def ivf (p v : Int) : Int := (((List.range p.toNat).find? (fun (r : Nat) => v * (r : Int) % p == 1)).map (fun (r : Nat) => (r : Int))).getD 0
theorem ivf_ok {p v : Int} (hp : Pr p) (h0 : 0 < v) (h1 : v < p) : 1 ≤ ivf p v ∧ ivf p v < p ∧ v * ivf p v % p = 1 := by
  obtain ⟨r, r0, r1, r2⟩ := inv_ex hp h0 h1
  unfold ivf
  cases hf : (List.range p.toNat).find? (fun (r : Nat) => v * (r : Int) % p == 1) with
  | none =>
    have := List.find?_eq_none.mp hf r.toNat (List.mem_range.mpr (by omega))
    rw [show ((r.toNat : Nat) : Int) = r by omega] at this
    simp [r2] at this
  | some q =>
    have e1 := List.find?_some hf
    have e2 := List.mem_range.mp (List.mem_of_find?_eq_some hf)
    simp only [beq_iff_eq] at e1
    show 1 ≤ ((q : Nat) : Int) ∧ ((q : Nat) : Int) < p ∧ v * ((q : Nat) : Int) % p = 1
    refine ⟨?_, by omega, e1⟩
    rcases Nat.eq_zero_or_pos q with z | z
    · subst z
      simp at e1
    · omega
theorem ivf_eq {p v r : Int} (hp : Pr p) (h0 : 0 < v) (h1 : v < p) (r0 : 0 ≤ r) (r1 : r < p) (hr : v * r % p = 1) : ivf p v = r := by
  obtain ⟨a, b, c⟩ := ivf_ok hp h0 h1
  exact inv_un c hr (by omega) b r0 r1
theorem b01_ne {c : Prop} [Decidable c] (h : (if c then (1 : Int) else 0) ≠ 0) : c := by
  by_cases q : c
  · exact q
  · simp [q] at h
theorem b01_eq {c : Prop} [Decidable c] (h : (if c then (1 : Int) else 0) = 0) : ¬ c := by
  intro q
  simp [q] at h
/-- an alphabet's cells: n letters, the prime p -/
def Al (M : AbM) (a : Nat) (n p : Int) : Prop := (1 ≤ n ∧ n ≤ 3 ∧ Pr p) ∧ M a 3 = n ∧ M a 4 = p ∧ M a 5 = Lg n ∧ ∀ d, 0 ≤ d → d ≤ Lg n → M (a + 1) d = pw n d ∧ M (a + 2) d = wsm n d ∧ M (a + 3) d = fsm n d
theorem Al.of {M M2 : AbM} {a : Nat} {n p : Int} (h : Al M a n p) (h0 : M2 a = M a) (h1 : M2 (a + 1) = M (a + 1)) (h2 : M2 (a + 2) = M (a + 2)) (h3 : M2 (a + 3) = M (a + 3)) : Al M2 a n p := by
  unfold Al at *
  rw [h0, h1, h2, h3]
  exact h
/-! shapes: an object at a place, its arrays behind it -/
def shAl (S : List AbS) (a : Nat) : Prop := S[a]? = some (sO 1 [some (a + 1), some (a + 2), some (a + 3), none, none, none]) ∧ S[a + 1]? = some (sA 0 9) ∧ S[a + 2]? = some (sA 0 9) ∧ S[a + 3]? = some (sA 0 9)
def shTa (S : List AbS) (t : Nat) : Prop := S[t]? = some (sO 7 [some (t + 1), none]) ∧ S[t + 1]? = some (sA 0 80)
def shSu (S : List AbS) (u a : Nat) : Prop := S[u]? = some (sO 6 [some a, some (u + 1)]) ∧ S[u + 1]? = some (sA 0 364) ∧ shAl S a
def shLL (S : List AbS) (g : Nat) : Prop := S[g]? = some (sO 3 [some (g + 1), some (g + 2), none]) ∧ S[g + 1]? = some (sA 0 9) ∧ S[g + 2]? = some (sA 0 729)
def shRe (S : List AbS) (r a : Nat) : Prop := S[r]? = some (sO 4 [some a, none, none, none, none, none, none]) ∧ shAl S a
def shSh (S : List AbS) (h : Nat) : Prop := S[h]? = some (sO 5 [some (h + 1), none, none]) ∧ S[h + 1]? = some (sA 2 90)
def shEc (S : List AbS) (c a : Nat) : Prop := S[c]? = some (sO 2 [some a, some (c + 1), some (c + 2), some (c + 3), none, none]) ∧ S[c + 1]? = some (sA 0 6561) ∧ S[c + 2]? = some (sA 1 81) ∧ S[c + 3]? = some (sA 0 81) ∧ shAl S a
def shAg (S : List AbS) (b a g : Nat) : Prop := S[b]? = some (sO 0 [some a, some g, some (b + 1), some (b + 2), some (b + 3), some (b + 4), some (b + 5), some (b + 6), none]) ∧ S[b + 1]? = some (sA 0 33397) ∧ S[b + 2]? = some (sA 1 364) ∧ S[b + 3]? = some (sA 0 9) ∧ S[b + 4]? = some (sA 0 9) ∧ S[b + 5]? = some (sA 0 9) ∧ S[b + 6]? = some (sA 0 243) ∧ shAl S a ∧ shLL S g
