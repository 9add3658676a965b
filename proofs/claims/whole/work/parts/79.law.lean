theorem ac_kI {K : AbK} {kc ks : Nat} {S : List AbS} {pc : Nat} {lv st : List AbV} {f : Int → AbM → Prop} (kk : ∀ (r : Int) (M2 : AbM), f r M2 → AJc K kc ks S pc lv (vI r :: st) M2) : ∀ (rs : List AbV) (M2 : AbM), qI f rs M2 → AJc K kc ks S pc lv (rs ++ st) M2 := by
  intro rs M2 h
  obtain ⟨r, rfl, h⟩ := h
  exact kk r M2 h
theorem ac_kL {K : AbK} {kc ks : Nat} {S : List AbS} {pc : Nat} {lv st : List AbV} {f : Int → AbM → Prop} (kk : ∀ (r : Int) (M2 : AbM), f r M2 → AJc K kc ks S pc lv (vL r :: st) M2) : ∀ (rs : List AbV) (M2 : AbM), qL f rs M2 → AJc K kc ks S pc lv (rs ++ st) M2 := by
  intro rs M2 h
  obtain ⟨r, rfl, h⟩ := h
  exact kk r M2 h
theorem ac_kV {K : AbK} {kc ks : Nat} {S : List AbS} {pc : Nat} {lv st : List AbV} {f : AbM → Prop} (kk : ∀ (M2 : AbM), f M2 → AJc K kc ks S pc lv st M2) : ∀ (rs : List AbV) (M2 : AbM), qV f rs M2 → AJc K kc ks S pc lv (rs ++ st) M2 := by
  intro rs M2 h
  obtain ⟨rfl, h⟩ := h
  exact kk M2 h
theorem ac_mem {K : AbK} {kc ks : Nat} {S : List AbS} {pc : Nat} {lv st : List AbV} {M M2 : AbM} (e : M = M2) (h : AJc K kc ks S pc lv st M2) : AJc K kc ks S pc lv st M := e ▸ h
theorem ac_lvs {K : AbK} {kc ks : Nat} {S : List AbS} {pc : Nat} {lv lv2 st : List AbV} {M : AbM} (e : lv = lv2) (h : AJc K kc ks S pc lv2 st M) : AJc K kc ks S pc lv st M := e ▸ h
/-! ===== the law's own rows ===== -/
/-- the script lies at the place z of the list of cells -/
def kX (K : AbK) (z L : Nat) (xs : Nat → Int32) : Prop := match K with
  | (_, _, _, _, s, _, _, _, _, _, _, _, _, A, ads, _) => va_X (ads.getD z 0) L xs s s.heap ∧ ads.getD z 0 < s.heap.size ∧ ¬ A (ads.getD z 0)
/-- K's end is the law's -/
def kE (K : AbK) : Prop := match K with
  | (_, _, _, R, s, _, args, below, meth, c, Q, _, _, A, _, _) => R = room_1 ∧ (∃ b : Nat, args = #[Value.ref b]) ∧ Q = lw_Z below args s ∧ meth.sig.returnType = ret ∧ meth.locks = false ∧ c.code = code ∧ (∀ q, A q → s.heap.size ≤ q)
theorem ac_sld {K : AbK} {kc ks : Nat} {cc : ByteArray} {own : String} {rm : Room} (C : Cx K cc own rm) {S : List AbS} {pc : Nat} {lv st : List AbV} {M : AbM} {z L : Nat} {xs : Nat → Int32} {i : Int} (hz : kX K z L xs) (h0 : 0 ≤ i) (h1 : i < L) (hd : decode cc pc = .ok (.iaload, 1)) (h : AJc K kc ks S (pc + 1) lv (vI (xs i.toNat).toInt :: st) M) : AJc K kc ks S pc lv (vI i :: vP z :: st) M := by
  obtain ⟨p, l, e, R, s, m, args, below, meth, c, Q, D, cA, A, ads, nL⟩ := K
  obtain ⟨hx, hb, hml, hown, hts, hlk, hK, hA, hR, hX⟩ := C
  obtain ⟨z1, z2, z3⟩ := hz
  intro H locs ls hP hD hO hS hL hl hs
  obtain ⟨hi, hs1⟩ := List.forall_mem_cons.mp hs
  have hi : inI i := hi
  have hin : inI (xs i.toNat).toInt := ⟨Int32.le_toInt _, by have := Int32.toInt_lt (xs i.toNat); omega⟩
  have h2 := h H locs ls hP hD hO hS hL hl (ab_c (v := vI (xs i.toNat).toInt) hin (List.forall_mem_cons.mp hs1).2)
  refine va_sld hx hb z1 z2 z3 hS (i := Int32.ofInt i) (ab_in h0 h1 hi) hd ?_
  rw [ab_cl h0 hi]
  have e1 : Value.int (xs i.toNat) = ab_v ads (vI (xs i.toNat).toInt) := by
    show _ = Value.int (Int32.ofInt (xs i.toNat).toInt)
    rw [Int32.ofInt_toInt]
  rw [e1]
  exact h2
theorem ac_slen {K : AbK} {kc ks : Nat} {cc : ByteArray} {own : String} {rm : Room} (C : Cx K cc own rm) {S : List AbS} {pc : Nat} {lv st : List AbV} {M : AbM} {z L : Nat} {xs : Nat → Int32} (hz : kX K z L xs) (hL3 : L ≤ 3072) (hd : decode cc pc = .ok (.arraylength, 1)) (h : AJc K kc ks S (pc + 1) lv (vI (L : Int) :: st) M) : AJc K kc ks S pc lv (vP z :: st) M := by
  obtain ⟨p, l, e, R, s, m, args, below, meth, c, Q, D, cA, A, ads, nL⟩ := K
  obtain ⟨hx, hb, hml, hown, hts, hlk, hK, hA, hR, hX⟩ := C
  obtain ⟨z1, z2, z3⟩ := hz
  intro H locs ls hP hD hO hS hL hl hs
  have hin : inI (L : Int) := ⟨by omega, by omega⟩
  have h2 := h H locs ls hP hD hO hS hL hl (ab_c (v := vI (L : Int)) hin (List.forall_mem_cons.mp hs).2)
  refine va_slen hx hb z1 z2 z3 hS hd ?_
  have e1 : Value.int (Int32.ofNat L) = ab_v ads (vI (L : Int)) := by
    show _ = Value.int (Int32.ofInt (L : Int))
    congr 1
  first
  | exact h2
  | (rw [e1]; exact h2)
theorem ac_end {K : AbK} {kc ks : Nat} {S : List AbS} {pc : Nat} {lv : List AbV} {M : AbM} {own : String} {rm : Room} (C : Cx K code own rm) (hE : kE K) (hc : kc ≤ 600000) (hsl : ks ≤ 7302250) (hd : decode code pc = .ok (.ireturn, 1)) : AJc K kc ks S pc lv [vI 1] M := by
  obtain ⟨p, l, e, R, s, m, args, below, meth, c, Q, D, cA, A, ads, nL⟩ := K
  obtain ⟨hx, hb, hml, hown, hts, hlk, hK, hA, hR, hX⟩ := C
  obtain ⟨e1, ⟨b, e2⟩, e3, e4, e5, e6, e7⟩ := hE
  intro H locs ls hP hD hO hS hL hl hs
  subst e1
  subst e2
  subst e3
  refine va_forget (fun q hq => e7 _ (hS.2.2 q hq)) ?_
  refine W.widen (k := 600000) (n := 7302250) hc hsl ?_
  exact lw_ret hx e6 e4 e5 hd
theorem MRel.lo {a : St} {M M2 : AbM} {m : Nat} (h : MRel a M m) (e : ∀ k, m ≤ k → M2 k = M k) : MRel a M2 m := by
  obtain ⟨hA, hL, hR, hS, hT, hH⟩ := h
  unfold MRel
  rw [e m (by omega), e (m + 4) (by omega), e (m + 5) (by omega), e (m + 7) (by omega), e (m + 15) (by omega), e (m + 16) (by omega), e (m + 17) (by omega), e (m + 18) (by omega)]
  exact ⟨hA.of (by rw [e m (by omega)]) (by rw [e m (by omega)]) (by rw [e m (by omega)]) (e _ (by omega)) (e _ (by omega)) (e _ (by omega)), hL, hR.rows (by rw [e m (by omega)]) (by rw [e m (by omega)]) (by rw [e m (by omega)]) (e _ (by omega)) (e _ (by omega)) (e _ (by omega)) (e _ (by omega)) (e _ (by omega)) (e _ (by omega)), hS, hT, hH⟩
theorem CRel.hi {a : St} {M M2 : AbM} {S : List AbS} {w al t rr u v g h b c k sh x0 x1 x2 x3 Bd : Nat} (H : CRel a M w al t u g h b c x0 x1 x2 x3) (hW : WL S w al t rr u v g h b c k sh x0 x1 x2 x3 Bd) (e : ∀ q, q < Bd → M2 q = M q) : CRel a M2 w al t u g h b c x0 x1 x2 x3 := by
  obtain ⟨-, hp⟩ := hW
  obtain ⟨k1, k2, k3, k4, k5, k6, k7⟩ := H
  unfold CRel
  rw [e g (by omega), e (g + 1) (by omega), e (g + 2) (by omega), e (u + 1) (by omega), e t (by omega), e (t + 1) (by omega)]
  exact ⟨k1.rows (fun q x y => e q (by omega)), k2, k3.rows (fun q x y => e q (by omega)) (fun q x y => e q (by omega)), k4.rows (by rw [e w (by omega)]) (fun q x y => e q (by omega)) (fun q x y => e q (by omega)), k5, k6, k7.rows (fun q x y => e q (by omega)) (fun q x y => e q (by omega)) (fun q x y => e q (by omega)) (fun q x y => e q (by omega))⟩
/-! each call has one answer -/
def UnR (q q2 : Int) (b b2 : St) : Prop := q = q2 ∧ ∀ (M : AbM) (m : Nat), MRel b2 M m → MRel b M m
theorem UnR.eq {q q2 q3 : Int} {b b2 b3 : St} (h1 : q = q3) (h2 : b = b3) (h3 : q2 = q3) (h4 : b2 = b3) : UnR q q2 b b2 := ⟨h1.trans h3.symm, fun M m h => by rw [h2]; rw [h4] at h; exact h⟩
theorem oBegin_un {a b b2 : St} {x y q q2 : Int} (h : oBegin a x y q b) (h2 : oBegin a x y q2 b2) : UnR q q2 b b2 := by
  rcases h with ⟨h1, h3, h4⟩ | ⟨h1, h3, h4⟩ <;> rcases h2 with ⟨g1, g3, g4⟩ | ⟨g1, g3, g4⟩
  · exact UnR.eq h3 h4 g3 g4
  · exact absurd h1 g1
  · exact absurd g1 h1
  · exact UnR.eq h3 h4 g3 g4
theorem oType_un {a b b2 : St} {x y q q2 : Int} (h : oType a x y q b) (h2 : oType a x y q2 b2) : UnR q q2 b b2 := by
  rcases h with ⟨h1, h3, h4⟩ | ⟨h1, h5, h3, h4⟩ | ⟨h1, h5, h3, h4⟩ <;> rcases h2 with ⟨g1, g3, g4⟩ | ⟨g1, g5, g3, g4⟩ | ⟨g1, g5, g3, g4⟩
  · exact UnR.eq h3 h4 g3 g4
  · exact absurd g1 h1
  · exact absurd g1 h1
  · exact absurd h1 g1
  · exact UnR.eq h3 h4 g3 g4
  · omega
  · exact absurd h1 g1
  · omega
  · exact UnR.eq h3 h4 g3 g4
theorem oAdd_un {a b b2 : St} {d q q2 : Int} {v : Int → Int} (h : oAdd a d v q b) (h2 : oAdd a d v q2 b2) : UnR q q2 b b2 := by
  rcases h with ⟨h1, h3, h4⟩ | ⟨h1, h3, h4⟩ <;> rcases h2 with ⟨g1, g3, g4⟩ | ⟨g1, g3, g4⟩
  · exact UnR.eq h3 h4 g3 g4
  · omega
  · omega
  · exact UnR.eq h3 h4 g3 g4
theorem oLaw_un {a b b2 : St} {q q2 : Int} (h : oLaw a q b) (h2 : oLaw a q2 b2) : UnR q q2 b b2 := by
  have hLB := Lg_B a.n
  rcases h with ⟨h1, h3, h4⟩ | ⟨h1, d, ⟨d2, d4, hd⟩, h3⟩ | ⟨h1, h5, h3, h4⟩ <;> rcases h2 with ⟨g1, g3, g4⟩ | ⟨g1, e, ⟨e2, e4, he⟩, g3⟩ | ⟨g1, g5, g3, g4⟩
  · exact UnR.eq h3 h4 g3 g4
  · exact absurd g1 h1
  · exact absurd g1 h1
  · exact absurd h1 g1
  · have : d = e := OnlyD_un hd he (by omega) (by omega)
    subst this
    exact oAdd_un h3 g3
  · exact absurd hd (g5 d d2 d4)
  · exact absurd h1 g1
  · exact absurd he (h5 e e2 e4)
  · exact UnR.eq h3 h4 g3 g4
theorem oUnlaw_un {a b b2 : St} {q q2 : Int} (h : oUnlaw a q b) (h2 : oUnlaw a q2 b2) : UnR q q2 b b2 := by
  rcases h with ⟨h1, h3, h4⟩ | ⟨h1, h3, h4⟩ <;> rcases h2 with ⟨g1, g3, g4⟩ | ⟨g1, g3, g4⟩
  · exact UnR.eq h3 h4 g3 g4
  · exact absurd h1 g1
  · exact absurd g1 h1
  · exact UnR.eq h3 h4 g3 g4
theorem oSum_un {a b b2 : St} {q q2 : Int} (h : oSum a q b) (h2 : oSum a q2 b2) : UnR q q2 b b2 := by
  rcases h with ⟨h1, h3, h4⟩ | ⟨h1, h3, h4⟩ <;> rcases h2 with ⟨g1, g3, g4⟩ | ⟨g1, g3, g4⟩
  · exact UnR.eq h3 h4 g3 g4
  · exact absurd g1 h1
  · exact absurd h1 g1
  · exact UnR.eq h3 h4 g3 g4
theorem sums_un {a : St} {s s2 : Int → Int} {q q2 : Int} {b b2 : St} (e : ∀ j, 0 ≤ j → j < 364 → s2 j = s j) (h1 : q = cntF s 364) (h2 : b = a.setS s) (h3 : q2 = cntF s2 364) (h4 : b2 = a.setS s2) : UnR q q2 b b2 := by
  refine ⟨?_, fun M m h => ?_⟩
  · rw [h1, h3]
    exact cntF_congr (fun j x y => by rw [e j x y])
  · rw [h2]
    rw [h4] at h
    exact MRel.sumEq h e
theorem oReduce_un {a b b2 : St} {q q2 : Int} (h : oReduce a q b) (h2 : oReduce a q2 b2) : UnR q q2 b b2 := by
  obtain ⟨s, hs, h3, h4⟩ := h
  obtain ⟨s2, hs2, g3, g4⟩ := h2
  refine sums_un (fun j x y => ?_) h3 h4 g3 g4
  rcases (show j < wsm a.n (Lg a.n + 1) ∨ wsm a.n (Lg a.n + 1) ≤ j by omega) with z | z
  · obtain ⟨d, w, d0, d1, w0, w1, rfl⟩ := place x z
    rw [hs.1 d d0 d1 w w0 w1, hs2.1 d d0 d1 w w0 w1]
  · rw [hs.2 j z y, hs2.2 j z y]
theorem oPut_un {a b b2 : St} {x y q q2 : Int} (h : oPut a x y q b) (h2 : oPut a x y q2 b2) : UnR q q2 b b2 := by
  rcases h with ⟨h1, h3, h4⟩ | ⟨h1, h5, h3, h4⟩ | ⟨h1, h5, s, hs, h3, h4⟩ <;> rcases h2 with ⟨g1, g3, g4⟩ | ⟨g1, g5, g3, g4⟩ | ⟨g1, g5, s2, hs2, g3, g4⟩
  · exact UnR.eq h3 h4 g3 g4
  · exact absurd g1 h1
  · exact absurd g1 h1
  · exact absurd h1 g1
  · exact UnR.eq h3 h4 g3 g4
  · exact absurd g5 h5
  · exact absurd h1 g1
  · exact absurd h5 g5
  · refine sums_un (fun j u v => ?_) h3 h4 g3 g4
    rcases (show j < wsm a.n (Lg a.n + 1) ∨ wsm a.n (Lg a.n + 1) ≤ j by omega) with z | z
    · obtain ⟨d, w, d0, d1, w0, w1, rfl⟩ := place u z
      rw [hs.1 d d0 d1 w w0 w1, hs2.1 d d0 d1 w w0 w1]
    · rw [hs.2 j z v, hs2.2 j z v]
theorem oTimes_un {a b b2 : St} {x q q2 : Int} (h : oTimes a x q b) (h2 : oTimes a x q2 b2) : UnR q q2 b b2 := by
  rcases h with ⟨h1, h3, h4⟩ | ⟨h1, h3, h4⟩ <;> rcases h2 with ⟨g1, g3, g4⟩ | ⟨g1, g3, g4⟩
  · exact UnR.eq h3 h4 g3 g4
  · exact absurd g1 h1
  · exact absurd h1 g1
  · exact UnR.eq h3 h4 g3 g4
theorem oSheet_un {a b b2 : St} {s l k q q2 : Int} (h : oSheet a s l k q b) (h2 : oSheet a s l k q2 b2) : UnR q q2 b b2 := by
  rcases h with ⟨h1, h3, h4⟩ | ⟨h1, h5, h3, h4⟩ | ⟨h1, h5, h3, h4⟩ <;> rcases h2 with ⟨g1, g3, g4⟩ | ⟨g1, g5, g3, g4⟩ | ⟨g1, g5, g3, g4⟩
  · exact UnR.eq h3 h4 g3 g4
  · exact absurd g1 h1
  · exact absurd g1 h1
  · exact absurd h1 g1
  · exact UnR.eq h3 h4 g3 g4
  · omega
  · exact absurd h1 g1
  · omega
  · exact UnR.eq h3 h4 g3 g4
theorem oDrop_un {a b b2 : St} {s q q2 : Int} (h : oDrop a s q b) (h2 : oDrop a s q2 b2) : UnR q q2 b b2 := by
  rcases h with ⟨h1, h3, h4⟩ | ⟨h1, h5, h3, h4⟩ | ⟨h1, h5, h3, h4⟩ <;> rcases h2 with ⟨g1, g3, g4⟩ | ⟨g1, g5, g3, g4⟩ | ⟨g1, g5, g3, g4⟩
  · exact UnR.eq h3 h4 g3 g4
  · exact absurd g1 h1
  · exact absurd g1 h1
  · exact absurd h1 g1
  · exact UnR.eq h3 h4 g3 g4
  · omega
  · exact absurd h1 g1
  · omega
  · exact UnR.eq h3 h4 g3 g4
theorem oItem_un {a b b2 : St} {s l i v q q2 : Int} (h : oItem a s l i v q b) (h2 : oItem a s l i v q2 b2) : UnR q q2 b b2 := by
  rcases h with ⟨h1, h3, h4⟩ | ⟨h1, h5, h3, h4⟩ | ⟨h1, h5, h6, h3, h4⟩ | ⟨h1, h5, h6, h3, h4⟩ <;> rcases h2 with ⟨g1, g3, g4⟩ | ⟨g1, g5, g3, g4⟩ | ⟨g1, g5, g6, g3, g4⟩ | ⟨g1, g5, g6, g3, g4⟩ <;> first | exact UnR.eq h3 h4 g3 g4 | exact absurd g1 h1 | exact absurd h1 g1 | exact absurd g5 h5 | exact absurd h5 g5 | exact absurd g6 h6 | exact absurd h6 g6
theorem oLaws_un {a b b2 : St} {s l f d q q2 : Int} (h : oLaws a s l f d q b) (h2 : oLaws a s l f d q2 b2) : UnR q q2 b b2 := by
  rcases h with ⟨h1, h3, h4⟩ | ⟨h1, h5, h3, h4⟩ | ⟨h1, h5, h6, h3, h4⟩ | ⟨h1, h5, h6, h7, h3, h4⟩ | ⟨h1, h5, h6, h7, h3⟩ <;> rcases h2 with ⟨g1, g3, g4⟩ | ⟨g1, g5, g3, g4⟩ | ⟨g1, g5, g6, g3, g4⟩ | ⟨g1, g5, g6, g7, g3, g4⟩ | ⟨g1, g5, g6, g7, g3⟩ <;> first | exact UnR.eq h3 h4 g3 g4 | exact oAdd_un h3 g3 | exact absurd g1 h1 | exact absurd h1 g1 | exact absurd g5 h5 | exact absurd h5 g5 | exact absurd g6 h6 | exact absurd h6 g6 | exact absurd g7 h7 | exact absurd h7 g7
theorem aLeast_un {a : St} {i y q q2 : Int} (n1 : 1 ≤ a.n) (h : aLeast a i y q) (h2 : aLeast a i y q2) : q = q2 := by
  by_cases z : 0 ≤ i ∧ 0 ≤ y ∧ y ≤ 2
  · exact LeastR_un n1 (h.1 z) (h2.1 z)
  · rw [h.2 z, h2.2 z]
theorem aFit_un {a : St} {q q2 : Int} (h : aFit a q) (h2 : aFit a q2) : q = q2 := by
  by_cases z : aShort a
  · exact FitR_un (h.1 z) (h2.1 z)
  · rw [h.2 z, h2.2 z]
def lwA (x : Int) : Int := (Int64.ofInt x <<< ((Int32.ofInt 32).toInt64 &&& 63)).toInt
def lwB (x : Int) : Int := (Int64.ofInt x &&& Int64.ofInt 4294967295).toInt
def lwC (x y : Int) : Int := (Int64.ofInt (lwA x) ||| Int64.ofInt (lwB y)).toInt
theorem in64 (x : Int64) : inL x.toInt := ⟨Int64.le_toInt _, by have := Int64.toInt_lt x; omega⟩
