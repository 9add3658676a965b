/-! ===== the rows of the other algebra ===== -/
/-- the numbers of u in the forms, up to x -/
def rwO (n p u : Int) (A Z old : Int → Int) (x : Int) : Int → Int := fun j => if (0 ≤ j ∧ j < x) ∧ ldq n 2 Z j ≠ 0 then RM n p 2 A Z j u else if j = u then 1 else if 0 ≤ j ∧ j < 243 then 0 else old j
def colV (n p : Int) (A Z : Int → Int) (u : Int) : Vc := fun y => if 0 ≤ y ∧ y < pw n 2 then RM n p 2 A Z y u else 0
theorem rwO_0 {n p u : Int} {A Z old : Int → Int} (j : Int) : rwO n p u A Z old 0 j = if j = u then 1 else if 0 ≤ j ∧ j < 243 then 0 else old j := by unfold rwO; rw [if_neg (fun z => by omega)]
theorem rwO_s0 {n p u x : Int} {A Z old : Int → Int} (h : ldq n 2 Z x = 0) (j : Int) : rwO n p u A Z old x j = rwO n p u A Z old (x + 1) j := by
  unfold rwO
  by_cases q : (0 ≤ j ∧ j < x) ∧ ldq n 2 Z j ≠ 0
  · rw [if_pos q, if_pos ⟨by omega, q.2⟩]
  · rw [if_neg q, if_neg (show ¬ ((0 ≤ j ∧ j < x + 1) ∧ ldq n 2 Z j ≠ 0) from fun z => by
      by_cases y : j = x
      · subst y; exact z.2 h
      · exact q ⟨by omega, z.2⟩)]
theorem rwO_s1 {n p u x : Int} {A Z old : Int → Int} (x0 : 0 ≤ x) (h : ldq n 2 Z x ≠ 0) (j : Int) : (if j = x then RM n p 2 A Z x u else rwO n p u A Z old x j) = rwO n p u A Z old (x + 1) j := by
  unfold rwO
  by_cases q : j = x
  · subst q; rw [if_pos rfl, if_pos ⟨by omega, h⟩]
  · rw [if_neg q]
    by_cases q2 : (0 ≤ j ∧ j < x) ∧ ldq n 2 Z j ≠ 0
    · rw [if_pos q2, if_pos ⟨by omega, q2.2⟩]
    · rw [if_neg q2, if_neg (show ¬ ((0 ≤ j ∧ j < x + 1) ∧ ldq n 2 Z j ≠ 0) from fun z => q2 ⟨by omega, z.2⟩)]
theorem rwO_at {n p u : Int} {A Z old : Int → Int} (u1 : ldq n 2 Z u = 0) (hP : pw n 2 ≤ 243) {j : Int} (j0 : 0 ≤ j) (j1 : j < pw n 2) : rwO n p u A Z old (pw n 2) j = RM n p 2 A Z j u := by
  unfold rwO
  by_cases q : ldq n 2 Z j = 0
  · rw [if_neg (fun z => z.2 q), RM_0 q]
    unfold dl
    by_cases y : j = u
    · rw [if_pos y, if_pos y.symm]
    · rw [if_neg y, if_pos (by omega), if_neg (fun z => y z.symm)]
  · rw [if_pos ⟨⟨j0, j1⟩, q⟩]
theorem rwO_V {n p u : Int} {A Z old : Int → Int} {V : Vc → Prop} (u1 : ldq n 2 Z u = 0) (hP : pw n 2 ≤ 243) (hV : SubV p (pw n 2) V) : V (qvV (pw n 2) (rwO n p u A Z old (pw n 2))) ↔ V (colV n p A Z u) := V_eq hV (fun i i0 i1 => by
  unfold qvV colV
  rw [if_pos ⟨i0, i1⟩, if_pos ⟨i0, i1⟩, rwO_at u1 hP i0 i1])
theorem RM_in {n p : Int} {A Z : Int → Int} (hp : 2 ≤ p) {d j u : Int} : 0 ≤ RM n p d A Z j u ∧ RM n p d A Z j u < p := by
  unfold RM
  by_cases q : ldq n d Z j = 0
  · rw [if_pos q]
    unfold dl
    split <;> omega
  · rw [if_neg q]
    split
    · exact emod_in hp
    · omega
/-- what the other algebra's laws are -/
theorem oLw {n p sz : Int} {len num A Z : Int → Int} (n1 : 1 ≤ n) (hP : pw n 2 ≤ 81) (h : ∀ w, 0 ≤ w → w < pw n 2 → ldq n 2 Z w = sld n p sz len num 2 w ∧ ∀ v, RM n p 2 A Z w v = srh n p sz len num 2 w v) {V : Vc → Prop} : (∀ x, LwD n 2 (sNm n p sz len num 2) (fun _ => 2) (oNum n p sz len num) x → V x) ↔ ∀ v, 0 ≤ v → v < pw n 2 → ldq n 2 Z v = 0 → V (colV n p A Z v) := by
  have key : ∀ i, 0 ≤ i → i < sNm n p sz len num 2 → lawR n 2 i (oNum n p sz len num) = colV n p A Z (nthF (nlA (sld n p sz len num 2)) (pw n 2) i) := fun i i0 i1 => by
    funext y
    unfold lawR colV
    by_cases q : 0 ≤ y ∧ y < pw n 2
    · rw [if_pos q, if_pos q, (h y q.1 q.2).2]
      unfold oNum
      rw [show (i * 81 + y) % 81 = y by omega, show (i * 81 + y) / 81 = i by omega]
    · rw [if_neg q, if_neg q]
  constructor
  · intro a v v0 v1 hl
    have hn : nlA (sld n p sz len num 2) v ≠ 0 := by
      unfold nlA
      rw [← (h v v0 v1).1, if_pos hl]
      decide
    have hi := nthF_at (N := pw n 2) v0 v1 hn
    have hc : cntF (nlA (sld n p sz len num 2)) v < cntF (nlA (sld n p sz len num 2)) (pw n 2) := by
      have := cnt_mono (f := nlA (sld n p sz len num 2)) (a := v + 1) (b := pw n 2) (by omega) (by omega)
      rw [cntF_s v0, if_neg hn] at this
      omega
    have h0 := (cntF_B (f := nlA (sld n p sz len num 2)) v0).1
    have := a _ ⟨cntF (nlA (sld n p sz len num 2)) v, h0, hc, rfl, rfl⟩
    rw [key _ h0 hc, hi] at this
    exact this
  · intro a x hx
    obtain ⟨i, i0, i1, -, rfl⟩ := hx
    rw [key i i0 i1]
    obtain ⟨b0, b1, b2, -⟩ := nthF_in (f := nlA (sld n p sz len num 2)) (N := pw n 2) (j := i) (by have := pw_pos (d := 2) n1; omega) i0 i1
    refine a _ b0 b1 ?_
    rw [(h _ b0 b1).1]
    unfold nlA at b2
    exact b01_ne b2
theorem MoA.of {M M2 : AbM} {m : Nat} {n p : Int} (h : MoA M m n p) (h0 : M2 m 0 = M m 0) (h1 : M2 m 1 = M m 1) (h2 : M2 m 2 = M m 2) (h3 : M2 (m + 1) = M (m + 1)) (h4 : M2 (m + 2) = M (m + 2)) (h5 : M2 (m + 3) = M (m + 3)) : MoA M2 m n p := by
  unfold MoA at *
  rw [h0, h1, h2, h3, h4, h5]
  exact h
