theorem CRel.othU {a : St} {M M2 : AbM} {S : List AbS} {w al t rr u v g h b c k sh x0 x1 x2 x3 Bd : Nat} (H : CRel a M w al t u g h b c x0 x1 x2 x3) (hW : WL S w al t rr u v g h b c k sh x0 x1 x2 x3 Bd) (e : ∀ q, (q < h ∨ h + 2 < q) → M2 q = M q) (ew : M w 11 = 1) : CRel a M2 w al t u g h b c x0 x1 x2 x3 ∧ lo Bd M M2 ∧ M2 w 11 = 1 := by
  obtain ⟨-, hp⟩ := hW
  obtain ⟨k1, k2, k3, k4, k5, k6, k7⟩ := H
  have ew2 : M2 w 11 = 1 := by rw [e w (by omega)]; exact ew
  refine ⟨?_, fun q hq => e q (by omega), ew2⟩
  unfold CRel
  rw [e g (by omega), e (g + 1) (by omega), e (g + 2) (by omega), e (u + 1) (by omega), e t (by omega), e (t + 1) (by omega)]
  exact ⟨k1.rows (fun q x y => e q (by omega)), k2, k3.rows (fun q x y => e q (by omega)) (fun q x y => e q (by omega)), ⟨Or.inr ew2, by rw [e c (by omega)]; exact k4.2.1, fun z => by rw [ew2] at z; exact absurd z (by decide)⟩, k5, k6, k7.rows (fun q x y => e q (by omega)) (fun q x y => e q (by omega)) (fun q x y => e q (by omega)) (fun q x y => e q (by omega))⟩
/-- the other list, so far -/
def OLr (a : St) (M : AbM) (h : Nat) (i : Int) : Prop := ∀ j, 0 ≤ j → j < i → M (h + 1) j = 2 ∧ ∀ y, 0 ≤ y → y < pw a.n 2 → M (h + 2) (j * 81 + y) = oNum a.n a.p a.sz a.len a.num (j * 81 + y) ∧ 0 ≤ M (h + 2) (j * 81 + y) ∧ M (h + 2) (j * 81 + y) < a.p
theorem CRel.othF {a : St} {M M2 : AbM} {S : List AbS} {w al t rr u v g h b c k sh x0 x1 x2 x3 Bd : Nat} (H : CRel a M w al t u g h b c x0 x1 x2 x3) (hW : WL S w al t rr u v g h b c k sh x0 x1 x2 x3 Bd) (e : ∀ q, q ≠ w → q ≠ c → M2 q = M q) (ew : M2 w 11 = 0) (ec : M2 c 8 = -1) (hi : M h 2 = sNm a.n a.p a.sz a.len a.num 2) (h9 : 0 ≤ M h 2 ∧ M h 2 ≤ 9) (hO : OLr a M h (M h 2)) : CRel a M2 w al t u g h b c x0 x1 x2 x3 ∧ lo Bd M M2 := by
  obtain ⟨-, hp⟩ := hW
  obtain ⟨k1, k2, k3, k4, k5, k6, k7⟩ := H
  have hLB := Lg_B a.n
  refine ⟨?_, fun q hq => e q (by omega) (by omega)⟩
  unfold CRel
  rw [e g (by omega) (by omega), e (g + 1) (by omega) (by omega), e (g + 2) (by omega) (by omega), e (u + 1) (by omega) (by omega), e t (by omega) (by omega), e (t + 1) (by omega) (by omega)]
  have hA : AlgOK a.n a.p M2 c h := ⟨by rw [ec]; decide, by rw [ec]; omega, fun e' z1 z2 => absurd z2 (by rw [ec]; omega), fun e' z1 z2 => absurd z2 (by rw [ec]; omega)⟩
  have hOt : OthL a M2 h := by
    unfold OthL LawsOK
    rw [e h (by omega) (by omega), e (h + 1) (by omega) (by omega), e (h + 2) (by omega) (by omega)]
    refine ⟨⟨h9.1, h9.2, fun i i0 i1 => ?_⟩, hi, fun i i0 i1 => ⟨(hO i i0 i1).1, fun y y0 y1 => ((hO i i0 i1).2 y y0 y1).1⟩⟩
    rw [(hO i i0 i1).1]
    exact ⟨by decide, by decide, fun y y0 y1 => ((hO i i0 i1).2 y y0 y1).2⟩
  exact ⟨k1.rows (fun q x y => e q (by omega) (by omega)), k2, k3.rows (fun q x y => e q (by omega) (by omega)) (fun q x y => e q (by omega) (by omega)), ⟨Or.inl ew, by rw [ec]; omega, fun _ => ⟨hA, hOt⟩⟩, k5, k6, k7.rows (fun q x y => e q (by omega) (by omega)) (fun q x y => e q (by omega) (by omega)) (fun q x y => e q (by omega) (by omega)) (fun q x y => e q (by omega) (by omega))⟩
theorem pw2_9 {n : Int} (n1 : 1 ≤ n) (n2 : n ≤ 3) : pw n 2 ≤ 9 := by
  have hn : n = 1 ∨ n = 2 ∨ n = 3 := by omega
  rcases hn with rfl | rfl | rfl <;> decide +kernel
theorem oNum_at {a : St} {i y : Int} (y0 : 0 ≤ y) (y1 : y < 81) : oNum a.n a.p a.sz a.len a.num (i * 81 + y) = srh a.n a.p a.sz a.len a.num 2 y (nthF (nlA (sld a.n a.p a.sz a.len a.num 2)) (pw a.n 2) i) := by
  unfold oNum
  rw [show (i * 81 + y) % 81 = y by omega, show (i * 81 + y) / 81 = i by omega]
theorem sNm_B {n p sz d : Int} {len num : Int → Int} (n1 : 1 ≤ n) : 0 ≤ sNm n p sz len num d ∧ sNm n p sz len num d ≤ pw n d := cntF_B (by have := pw_pos (d := d) n1; omega)
theorem OLr.rows {a : St} {M M2 : AbM} {h : Nat} {i : Int} (H : OLr a M h i) (e1 : M2 (h + 1) = M (h + 1)) (e2 : M2 (h + 2) = M (h + 2)) : OLr a M2 h i := by
  unfold OLr at *
  rw [e1, e2]
  exact H
