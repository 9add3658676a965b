/-! ===== the same machine, with cells already made ===== -/
def AJc (K : AbK) (kc ks : Nat) (S : List AbS) (pc : Nat) (lv st : List AbV) (M : AbM) : Prop := match K with
  | (p, l, e, R, s, m, args, below, meth, c, Q, D, cA, A, ads, nL) => ∀ (H : Heap) (locs : List Loc) (ls : Array Slot), va_P D vwCl (ab_w cA ads S M) H → va_D A (ab_w cA ads S M) → ab_okM S M → va_S A s.heap H locs → ab_L ls nL ads lv → (∀ v ∈ lv, ab_ok v) → (∀ v ∈ st, ab_ok v) → W p l e R s m args below meth c H locs kc ks Q (F0 m pc ls (st.map (ab_v ads)))
theorem ac_iconst {K : AbK} {kc ks : Nat} {cc : ByteArray} {own : String} {rm : Room} (C : Cx K cc own rm) {S : List AbS} {pc : Nat} {lv st : List AbV} {M : AbM} {n : Int} (hd : decode cc pc = .ok (.iconst n, 1)) (hn : inI n) (h : AJc K kc ks S (pc + 1) lv (vI n :: st) M) : AJc K kc ks S pc lv st M := by
  obtain ⟨p, l, e, R, s, m, args, below, meth, c, Q, D, cA, A, ads, nL⟩ := K
  obtain ⟨hx, hb, hml, hown, hts, hlk, hK, hA, hR, hX⟩ := C
  intro H locs ls hP hD hO hS hL hl hs
  exact lv_iconst hx hb hd rfl (h H locs ls hP hD hO hS hL hl (ab_c hn hs))
theorem ac_bipush {K : AbK} {kc ks : Nat} {cc : ByteArray} {own : String} {rm : Room} (C : Cx K cc own rm) {S : List AbS} {pc : Nat} {lv st : List AbV} {M : AbM} {n : Int} (hd : decode cc pc = .ok (.bipush n, 2)) (hn : inI n) (hv : (Int8.ofInt n).toInt32 = Int32.ofInt n) (h : AJc K kc ks S (pc + 2) lv (vI n :: st) M) : AJc K kc ks S pc lv st M := by
  obtain ⟨p, l, e, R, s, m, args, below, meth, c, Q, D, cA, A, ads, nL⟩ := K
  obtain ⟨hx, hb, hml, hown, hts, hlk, hK, hA, hR, hX⟩ := C
  intro H locs ls hP hD hO hS hL hl hs
  exact lv_bipush hx hb hd hv (h H locs ls hP hD hO hS hL hl (ab_c hn hs))
theorem ac_sipush {K : AbK} {kc ks : Nat} {cc : ByteArray} {own : String} {rm : Room} (C : Cx K cc own rm) {S : List AbS} {pc : Nat} {lv st : List AbV} {M : AbM} {n : Int} (hd : decode cc pc = .ok (.sipush n, 3)) (hn : inI n) (hv : (Int16.ofInt n).toInt32 = Int32.ofInt n) (h : AJc K kc ks S (pc + 3) lv (vI n :: st) M) : AJc K kc ks S pc lv st M := by
  obtain ⟨p, l, e, R, s, m, args, below, meth, c, Q, D, cA, A, ads, nL⟩ := K
  obtain ⟨hx, hb, hml, hown, hts, hlk, hK, hA, hR, hX⟩ := C
  intro H locs ls hP hD hO hS hL hl hs
  exact lv_sipush hx hb hd hv (h H locs ls hP hD hO hS hL hl (ab_c hn hs))
theorem ac_lconst {K : AbK} {kc ks : Nat} {cc : ByteArray} {own : String} {rm : Room} (C : Cx K cc own rm) {S : List AbS} {pc : Nat} {lv st : List AbV} {M : AbM} {k : Fin 2} {n : Int} (hd : decode cc pc = .ok (.lconst k, 1)) (hn : inL n) (hv : Int64.ofNat (k : Nat) = Int64.ofInt n) (h : AJc K kc ks S (pc + 1) lv (vL n :: st) M) : AJc K kc ks S pc lv st M := by
  obtain ⟨p, l, e, R, s, m, args, below, meth, c, Q, D, cA, A, ads, nL⟩ := K
  obtain ⟨hx, hb, hml, hown, hts, hlk, hK, hA, hR, hX⟩ := C
  intro H locs ls hP hD hO hS hL hl hs
  exact lv_lconst hx hb hd hv (h H locs ls hP hD hO hS hL hl (ab_c hn hs))
theorem ac_ldc {K : AbK} {kc ks : Nat} {cc : ByteArray} {own : String} {rm : Room} (C : Cx K cc own rm) {S : List AbS} {pc : Nat} {lv st : List AbV} {M : AbM} {index : Nat} {v : Int32} {n : Int} (hw : ab_gw (.constant own index v)) (hd : decode cc pc = .ok (.ldc index, 2)) (hn : inI n) (hv : v = Int32.ofInt n) (h : AJc K kc ks S (pc + 2) lv (vI n :: st) M) : AJc K kc ks S pc lv st M := by
  obtain ⟨p, l, e, R, s, m, args, below, meth, c, Q, D, cA, A, ads, nL⟩ := K
  obtain ⟨hx, hb, hml, hown, hts, hlk, hK, hA, hR, hX⟩ := C
  intro H locs ls hP hD hO hS hL hl hs
  subst hv
  exact lv_ldc hx hb hown (hts _ (ab_gw_in hw)) hd (h H locs ls hP hD hO hS hL hl (ab_c hn hs))
theorem ac_ldc2 {K : AbK} {kc ks : Nat} {cc : ByteArray} {own : String} {rm : Room} (C : Cx K cc own rm) {S : List AbS} {pc : Nat} {lv st : List AbV} {M : AbM} {index : Nat} {v : Int64} {n : Int} (hw : ab_gw (.constantLong own index v)) (hd : decode cc pc = .ok (.ldc2_w index, 3)) (hn : inL n) (hv : v = Int64.ofInt n) (h : AJc K kc ks S (pc + 3) lv (vL n :: st) M) : AJc K kc ks S pc lv st M := by
  obtain ⟨p, l, e, R, s, m, args, below, meth, c, Q, D, cA, A, ads, nL⟩ := K
  obtain ⟨hx, hb, hml, hown, hts, hlk, hK, hA, hR, hX⟩ := C
  intro H locs ls hP hD hO hS hL hl hs
  subst hv
  exact lv_ldc2 hx hb hown (hts _ (ab_gw_in hw)) hd (h H locs ls hP hD hO hS hL hl (ab_c hn hs))
theorem ac_iload_n {K : AbK} {kc ks : Nat} {cc : ByteArray} {own : String} {rm : Room} (C : Cx K cc own rm) {S : List AbS} {pc : Nat} {lv st : List AbV} {M : AbM} {k : Fin 4} {i : Nat} {x : Int} (hd : decode cc pc = .ok (.iload_n k, 1)) (hi : (k : Nat) = i) (hv : lv[i]? = some (vI x)) (h : AJc K kc ks S (pc + 1) lv (vI x :: st) M) : AJc K kc ks S pc lv st M := by
  obtain ⟨p, l, e, R, s, m, args, below, meth, c, Q, D, cA, A, ads, nL⟩ := K
  obtain ⟨hx, hb, hml, hown, hts, hlk, hK, hA, hR, hX⟩ := C
  intro H locs ls hP hD hO hS hL hl hs
  exact lv_iload_n hx hb hd hi (hL.2.2.2 i _ hv ab_nU) (h H locs ls hP hD hO hS hL hl (ab_c (ab_lok hl hv) hs))
theorem ac_iload {K : AbK} {kc ks : Nat} {cc : ByteArray} {own : String} {rm : Room} (C : Cx K cc own rm) {S : List AbS} {pc : Nat} {lv st : List AbV} {M : AbM} {i : Nat} {x : Int} (hd : decode cc pc = .ok (.iload i, 2)) (hv : lv[i]? = some (vI x)) (h : AJc K kc ks S (pc + 2) lv (vI x :: st) M) : AJc K kc ks S pc lv st M := by
  obtain ⟨p, l, e, R, s, m, args, below, meth, c, Q, D, cA, A, ads, nL⟩ := K
  obtain ⟨hx, hb, hml, hown, hts, hlk, hK, hA, hR, hX⟩ := C
  intro H locs ls hP hD hO hS hL hl hs
  exact lv_iload hx hb hd (hL.2.2.2 i _ hv ab_nU) (h H locs ls hP hD hO hS hL hl (ab_c (ab_lok hl hv) hs))
theorem ac_lload_n {K : AbK} {kc ks : Nat} {cc : ByteArray} {own : String} {rm : Room} (C : Cx K cc own rm) {S : List AbS} {pc : Nat} {lv st : List AbV} {M : AbM} {k : Fin 4} {i : Nat} {x : Int} (hd : decode cc pc = .ok (.lload_n k, 1)) (hi : (k : Nat) = i) (hv : lv[i]? = some (vL x)) (h : AJc K kc ks S (pc + 1) lv (vL x :: st) M) : AJc K kc ks S pc lv st M := by
  obtain ⟨p, l, e, R, s, m, args, below, meth, c, Q, D, cA, A, ads, nL⟩ := K
  obtain ⟨hx, hb, hml, hown, hts, hlk, hK, hA, hR, hX⟩ := C
  intro H locs ls hP hD hO hS hL hl hs
  exact lv_lload_n hx hb hd hi (hL.2.2.2 i _ hv ab_nUL) (h H locs ls hP hD hO hS hL hl (ab_c (ab_lok hl hv) hs))
theorem ac_lload {K : AbK} {kc ks : Nat} {cc : ByteArray} {own : String} {rm : Room} (C : Cx K cc own rm) {S : List AbS} {pc : Nat} {lv st : List AbV} {M : AbM} {i : Nat} {x : Int} (hd : decode cc pc = .ok (.lload i, 2)) (hv : lv[i]? = some (vL x)) (h : AJc K kc ks S (pc + 2) lv (vL x :: st) M) : AJc K kc ks S pc lv st M := by
  obtain ⟨p, l, e, R, s, m, args, below, meth, c, Q, D, cA, A, ads, nL⟩ := K
  obtain ⟨hx, hb, hml, hown, hts, hlk, hK, hA, hR, hX⟩ := C
  intro H locs ls hP hD hO hS hL hl hs
  exact lv_lload hx hb hd (hL.2.2.2 i _ hv ab_nUL) (h H locs ls hP hD hO hS hL hl (ab_c (ab_lok hl hv) hs))
theorem ac_aload_n {K : AbK} {kc ks : Nat} {cc : ByteArray} {own : String} {rm : Room} (C : Cx K cc own rm) {S : List AbS} {pc : Nat} {lv st : List AbV} {M : AbM} {k : Fin 4} {i : Nat} {x : Nat} (hd : decode cc pc = .ok (.aload_n k, 1)) (hi : (k : Nat) = i) (hv : lv[i]? = some (vP x)) (h : AJc K kc ks S (pc + 1) lv (vP x :: st) M) : AJc K kc ks S pc lv st M := by
  obtain ⟨p, l, e, R, s, m, args, below, meth, c, Q, D, cA, A, ads, nL⟩ := K
  obtain ⟨hx, hb, hml, hown, hts, hlk, hK, hA, hR, hX⟩ := C
  intro H locs ls hP hD hO hS hL hl hs
  exact lv_aload_n hx hb hd hi (hL.2.2.2 i _ hv ab_nUP) (h H locs ls hP hD hO hS hL hl (ab_c (ab_lok hl hv) hs))
theorem ac_aload {K : AbK} {kc ks : Nat} {cc : ByteArray} {own : String} {rm : Room} (C : Cx K cc own rm) {S : List AbS} {pc : Nat} {lv st : List AbV} {M : AbM} {i : Nat} {x : Nat} (hd : decode cc pc = .ok (.aload i, 2)) (hv : lv[i]? = some (vP x)) (h : AJc K kc ks S (pc + 2) lv (vP x :: st) M) : AJc K kc ks S pc lv st M := by
  obtain ⟨p, l, e, R, s, m, args, below, meth, c, Q, D, cA, A, ads, nL⟩ := K
  obtain ⟨hx, hb, hml, hown, hts, hlk, hK, hA, hR, hX⟩ := C
  intro H locs ls hP hD hO hS hL hl hs
  exact lv_aload hx hb hd (hL.2.2.2 i _ hv ab_nUP) (h H locs ls hP hD hO hS hL hl (ab_c (ab_lok hl hv) hs))
theorem ac_istore_n {K : AbK} {kc ks : Nat} {cc : ByteArray} {own : String} {rm : Room} (C : Cx K cc own rm) {S : List AbS} {pc : Nat} {lv st : List AbV} {M : AbM} {k : Fin 4} {i : Nat} {x : Int} (hd : decode cc pc = .ok (.istore_n k, 1)) (hi : (k : Nat) = i) (hn : i < lv.length) (hp : ∀ w, lv[i - 1]? = some w → ab_cat w = 1) (h : AJc K kc ks S (pc + 1) (lv.set i (vI x)) st M) : AJc K kc ks S pc lv (vI x :: st) M := by
  obtain ⟨p, l, e, R, s, m, args, below, meth, c, Q, D, cA, A, ads, nL⟩ := K
  obtain ⟨hx, hb, hml, hown, hts, hlk, hK, hA, hR, hX⟩ := C
  intro H locs ls hP hD hO hS hL hl hs
  have hn2 : i < nL := by rw [← hL.2.1]; exact hn
  obtain ⟨h1, h2⟩ := List.forall_mem_cons.mp hs
  exact lv_istore_n hx hb hd hi (ab_L_has hL) hn2 rfl (fun ls2 hl2 => h H locs ls2 hP hD hO hS (ab_L_set hL hn2 hp hl2) (ab_lset hl h1) h2)
theorem ac_istore {K : AbK} {kc ks : Nat} {cc : ByteArray} {own : String} {rm : Room} (C : Cx K cc own rm) {S : List AbS} {pc : Nat} {lv st : List AbV} {M : AbM} {i : Nat} {x : Int} (hd : decode cc pc = .ok (.istore i, 2)) (hn : i < lv.length) (hp : ∀ w, lv[i - 1]? = some w → ab_cat w = 1) (h : AJc K kc ks S (pc + 2) (lv.set i (vI x)) st M) : AJc K kc ks S pc lv (vI x :: st) M := by
  obtain ⟨p, l, e, R, s, m, args, below, meth, c, Q, D, cA, A, ads, nL⟩ := K
  obtain ⟨hx, hb, hml, hown, hts, hlk, hK, hA, hR, hX⟩ := C
  intro H locs ls hP hD hO hS hL hl hs
  have hn2 : i < nL := by rw [← hL.2.1]; exact hn
  obtain ⟨h1, h2⟩ := List.forall_mem_cons.mp hs
  exact lv_istore hx hb hd (ab_L_has hL) hn2 rfl (fun ls2 hl2 => h H locs ls2 hP hD hO hS (ab_L_set hL hn2 hp hl2) (ab_lset hl h1) h2)
theorem ac_astore_n {K : AbK} {kc ks : Nat} {cc : ByteArray} {own : String} {rm : Room} (C : Cx K cc own rm) {S : List AbS} {pc : Nat} {lv st : List AbV} {M : AbM} {k : Fin 4} {i : Nat} {x : Nat} (hd : decode cc pc = .ok (.astore_n k, 1)) (hi : (k : Nat) = i) (hn : i < lv.length) (hp : ∀ w, lv[i - 1]? = some w → ab_cat w = 1) (h : AJc K kc ks S (pc + 1) (lv.set i (vP x)) st M) : AJc K kc ks S pc lv (vP x :: st) M := by
  obtain ⟨p, l, e, R, s, m, args, below, meth, c, Q, D, cA, A, ads, nL⟩ := K
  obtain ⟨hx, hb, hml, hown, hts, hlk, hK, hA, hR, hX⟩ := C
  intro H locs ls hP hD hO hS hL hl hs
  have hn2 : i < nL := by rw [← hL.2.1]; exact hn
  obtain ⟨h1, h2⟩ := List.forall_mem_cons.mp hs
  exact lv_astore_n hx hb hd hi (ab_L_has hL) hn2 rfl (fun ls2 hl2 => h H locs ls2 hP hD hO hS (ab_L_set hL hn2 hp hl2) (ab_lset hl h1) h2)
theorem ac_astore {K : AbK} {kc ks : Nat} {cc : ByteArray} {own : String} {rm : Room} (C : Cx K cc own rm) {S : List AbS} {pc : Nat} {lv st : List AbV} {M : AbM} {i : Nat} {x : Nat} (hd : decode cc pc = .ok (.astore i, 2)) (hn : i < lv.length) (hp : ∀ w, lv[i - 1]? = some w → ab_cat w = 1) (h : AJc K kc ks S (pc + 2) (lv.set i (vP x)) st M) : AJc K kc ks S pc lv (vP x :: st) M := by
  obtain ⟨p, l, e, R, s, m, args, below, meth, c, Q, D, cA, A, ads, nL⟩ := K
  obtain ⟨hx, hb, hml, hown, hts, hlk, hK, hA, hR, hX⟩ := C
  intro H locs ls hP hD hO hS hL hl hs
  have hn2 : i < nL := by rw [← hL.2.1]; exact hn
  obtain ⟨h1, h2⟩ := List.forall_mem_cons.mp hs
  exact lv_astore hx hb hd (ab_L_has hL) hn2 rfl (fun ls2 hl2 => h H locs ls2 hP hD hO hS (ab_L_set hL hn2 hp hl2) (ab_lset hl h1) h2)
theorem ac_iinc {K : AbK} {kc ks : Nat} {cc : ByteArray} {own : String} {rm : Room} (C : Cx K cc own rm) {S : List AbS} {pc : Nat} {lv st : List AbV} {M : AbM} {i : Nat} {n x : Int} (hd : decode cc pc = .ok (.iinc i n, 3)) (hv : lv[i]? = some (vI x)) (hp : ∀ w, lv[i - 1]? = some w → ab_cat w = 1) (hr : inI (x + n)) (h : AJc K kc ks S (pc + 3) (lv.set i (vI (x + n))) st M) : AJc K kc ks S pc lv st M := by
  obtain ⟨p, l, e, R, s, m, args, below, meth, c, Q, D, cA, A, ads, nL⟩ := K
  obtain ⟨hx, hb, hml, hown, hts, hlk, hK, hA, hR, hX⟩ := C
  intro H locs ls hP hD hO hS hL hl hs
  have hn2 : i < nL := by rw [← hL.2.1]; exact (List.getElem?_eq_some_iff.mp hv).1
  obtain ⟨kk, hkk⟩ := List.getElem?_of_mem (ab_lvl_in (ads := ads) hv ab_nU)
  exact lv_iinc (v := Int32.ofInt (x + n)) hx hb hd (ab_L_has hL) hkk (Int32.ofInt_add x n).symm hn2 rfl (fun ls2 hl2 => h H locs ls2 hP hD hO hS (ab_L_set (v := vI (x + n)) hL hn2 hp hl2) (ab_lset hl hr) hs)
theorem ac_istore0 {K : AbK} {kc ks : Nat} {cc : ByteArray} {own : String} {rm : Room} (C : Cx K cc own rm) {S : List AbS} {pc : Nat} {lv st : List AbV} {M : AbM} {b : AbV} {t : List AbV} {x : Int} (hp : ab_cat b = 1) (hd : decode cc pc = .ok (.istore_n 0, 1)) (h : AJc K kc ks S (pc + 1) (vI x :: t) st M) : AJc K kc ks S pc (b :: t) (vI x :: st) M := ac_istore_n (i := 0) C hd rfl (by simp) (fun w hw => by cases hw; exact hp) h
theorem ac_astore0 {K : AbK} {kc ks : Nat} {cc : ByteArray} {own : String} {rm : Room} (C : Cx K cc own rm) {S : List AbS} {pc : Nat} {lv st : List AbV} {M : AbM} {b : AbV} {t : List AbV} {x : Nat} (hp : ab_cat b = 1) (hd : decode cc pc = .ok (.astore_n 0, 1)) (h : AJc K kc ks S (pc + 1) (vP x :: t) st M) : AJc K kc ks S pc (b :: t) (vP x :: st) M := ac_astore_n (i := 0) C hd rfl (by simp) (fun w hw => by cases hw; exact hp) h
theorem ac_iinc0 {K : AbK} {kc ks : Nat} {cc : ByteArray} {own : String} {rm : Room} (C : Cx K cc own rm) {S : List AbS} {pc : Nat} {lv st : List AbV} {M : AbM}  {t : List AbV} {x n : Int}  (hd : decode cc pc = .ok (.iinc 0 n, 3)) (hr : inI (x + n)) (h : AJc K kc ks S (pc + 3) (vI (x + n) :: t) st M) : AJc K kc ks S pc (vI x :: t) st M := ac_iinc (i := 0) C hd rfl (fun w hw => by cases hw; exact rfl) hr h
theorem ac_istore1 {K : AbK} {kc ks : Nat} {cc : ByteArray} {own : String} {rm : Room} (C : Cx K cc own rm) {S : List AbS} {pc : Nat} {lv st : List AbV} {M : AbM} {a0 b : AbV} {t : List AbV} {x : Int} (hp : ab_cat a0 = 1) (hd : decode cc pc = .ok (.istore_n 1, 1)) (h : AJc K kc ks S (pc + 1) (a0 :: vI x :: t) st M) : AJc K kc ks S pc (a0 :: b :: t) (vI x :: st) M := ac_istore_n (i := 1) C hd rfl (by simp) (fun w hw => by cases hw; exact hp) h
theorem ac_astore1 {K : AbK} {kc ks : Nat} {cc : ByteArray} {own : String} {rm : Room} (C : Cx K cc own rm) {S : List AbS} {pc : Nat} {lv st : List AbV} {M : AbM} {a0 b : AbV} {t : List AbV} {x : Nat} (hp : ab_cat a0 = 1) (hd : decode cc pc = .ok (.astore_n 1, 1)) (h : AJc K kc ks S (pc + 1) (a0 :: vP x :: t) st M) : AJc K kc ks S pc (a0 :: b :: t) (vP x :: st) M := ac_astore_n (i := 1) C hd rfl (by simp) (fun w hw => by cases hw; exact hp) h
theorem ac_iinc1 {K : AbK} {kc ks : Nat} {cc : ByteArray} {own : String} {rm : Room} (C : Cx K cc own rm) {S : List AbS} {pc : Nat} {lv st : List AbV} {M : AbM} {a0 : AbV} {t : List AbV} {x n : Int} (hp : ab_cat a0 = 1) (hd : decode cc pc = .ok (.iinc 1 n, 3)) (hr : inI (x + n)) (h : AJc K kc ks S (pc + 3) (a0 :: vI (x + n) :: t) st M) : AJc K kc ks S pc (a0 :: vI x :: t) st M := ac_iinc (i := 1) C hd rfl (fun w hw => by cases hw; exact hp) hr h
theorem ac_istore2 {K : AbK} {kc ks : Nat} {cc : ByteArray} {own : String} {rm : Room} (C : Cx K cc own rm) {S : List AbS} {pc : Nat} {lv st : List AbV} {M : AbM} {a0 a1 b : AbV} {t : List AbV} {x : Int} (hp : ab_cat a1 = 1) (hd : decode cc pc = .ok (.istore_n 2, 1)) (h : AJc K kc ks S (pc + 1) (a0 :: a1 :: vI x :: t) st M) : AJc K kc ks S pc (a0 :: a1 :: b :: t) (vI x :: st) M := ac_istore_n (i := 2) C hd rfl (by simp) (fun w hw => by cases hw; exact hp) h
theorem ac_astore2 {K : AbK} {kc ks : Nat} {cc : ByteArray} {own : String} {rm : Room} (C : Cx K cc own rm) {S : List AbS} {pc : Nat} {lv st : List AbV} {M : AbM} {a0 a1 b : AbV} {t : List AbV} {x : Nat} (hp : ab_cat a1 = 1) (hd : decode cc pc = .ok (.astore_n 2, 1)) (h : AJc K kc ks S (pc + 1) (a0 :: a1 :: vP x :: t) st M) : AJc K kc ks S pc (a0 :: a1 :: b :: t) (vP x :: st) M := ac_astore_n (i := 2) C hd rfl (by simp) (fun w hw => by cases hw; exact hp) h
theorem ac_iinc2 {K : AbK} {kc ks : Nat} {cc : ByteArray} {own : String} {rm : Room} (C : Cx K cc own rm) {S : List AbS} {pc : Nat} {lv st : List AbV} {M : AbM} {a0 a1 : AbV} {t : List AbV} {x n : Int} (hp : ab_cat a1 = 1) (hd : decode cc pc = .ok (.iinc 2 n, 3)) (hr : inI (x + n)) (h : AJc K kc ks S (pc + 3) (a0 :: a1 :: vI (x + n) :: t) st M) : AJc K kc ks S pc (a0 :: a1 :: vI x :: t) st M := ac_iinc (i := 2) C hd rfl (fun w hw => by cases hw; exact hp) hr h
theorem ac_istore3 {K : AbK} {kc ks : Nat} {cc : ByteArray} {own : String} {rm : Room} (C : Cx K cc own rm) {S : List AbS} {pc : Nat} {lv st : List AbV} {M : AbM} {a0 a1 a2 b : AbV} {t : List AbV} {x : Int} (hp : ab_cat a2 = 1) (hd : decode cc pc = .ok (.istore_n 3, 1)) (h : AJc K kc ks S (pc + 1) (a0 :: a1 :: a2 :: vI x :: t) st M) : AJc K kc ks S pc (a0 :: a1 :: a2 :: b :: t) (vI x :: st) M := ac_istore_n (i := 3) C hd rfl (by simp) (fun w hw => by cases hw; exact hp) h
theorem ac_astore3 {K : AbK} {kc ks : Nat} {cc : ByteArray} {own : String} {rm : Room} (C : Cx K cc own rm) {S : List AbS} {pc : Nat} {lv st : List AbV} {M : AbM} {a0 a1 a2 b : AbV} {t : List AbV} {x : Nat} (hp : ab_cat a2 = 1) (hd : decode cc pc = .ok (.astore_n 3, 1)) (h : AJc K kc ks S (pc + 1) (a0 :: a1 :: a2 :: vP x :: t) st M) : AJc K kc ks S pc (a0 :: a1 :: a2 :: b :: t) (vP x :: st) M := ac_astore_n (i := 3) C hd rfl (by simp) (fun w hw => by cases hw; exact hp) h
theorem ac_iinc3 {K : AbK} {kc ks : Nat} {cc : ByteArray} {own : String} {rm : Room} (C : Cx K cc own rm) {S : List AbS} {pc : Nat} {lv st : List AbV} {M : AbM} {a0 a1 a2 : AbV} {t : List AbV} {x n : Int} (hp : ab_cat a2 = 1) (hd : decode cc pc = .ok (.iinc 3 n, 3)) (hr : inI (x + n)) (h : AJc K kc ks S (pc + 3) (a0 :: a1 :: a2 :: vI (x + n) :: t) st M) : AJc K kc ks S pc (a0 :: a1 :: a2 :: vI x :: t) st M := ac_iinc (i := 3) C hd rfl (fun w hw => by cases hw; exact hp) hr h
theorem ac_istore4 {K : AbK} {kc ks : Nat} {cc : ByteArray} {own : String} {rm : Room} (C : Cx K cc own rm) {S : List AbS} {pc : Nat} {lv st : List AbV} {M : AbM} {a0 a1 a2 a3 b : AbV} {t : List AbV} {x : Int} (hp : ab_cat a3 = 1) (hd : decode cc pc = .ok (.istore 4, 2)) (h : AJc K kc ks S (pc + 2) (a0 :: a1 :: a2 :: a3 :: vI x :: t) st M) : AJc K kc ks S pc (a0 :: a1 :: a2 :: a3 :: b :: t) (vI x :: st) M := ac_istore (i := 4) C hd (by simp) (fun w hw => by cases hw; exact hp) h
theorem ac_astore4 {K : AbK} {kc ks : Nat} {cc : ByteArray} {own : String} {rm : Room} (C : Cx K cc own rm) {S : List AbS} {pc : Nat} {lv st : List AbV} {M : AbM} {a0 a1 a2 a3 b : AbV} {t : List AbV} {x : Nat} (hp : ab_cat a3 = 1) (hd : decode cc pc = .ok (.astore 4, 2)) (h : AJc K kc ks S (pc + 2) (a0 :: a1 :: a2 :: a3 :: vP x :: t) st M) : AJc K kc ks S pc (a0 :: a1 :: a2 :: a3 :: b :: t) (vP x :: st) M := ac_astore (i := 4) C hd (by simp) (fun w hw => by cases hw; exact hp) h
theorem ac_iinc4 {K : AbK} {kc ks : Nat} {cc : ByteArray} {own : String} {rm : Room} (C : Cx K cc own rm) {S : List AbS} {pc : Nat} {lv st : List AbV} {M : AbM} {a0 a1 a2 a3 : AbV} {t : List AbV} {x n : Int} (hp : ab_cat a3 = 1) (hd : decode cc pc = .ok (.iinc 4 n, 3)) (hr : inI (x + n)) (h : AJc K kc ks S (pc + 3) (a0 :: a1 :: a2 :: a3 :: vI (x + n) :: t) st M) : AJc K kc ks S pc (a0 :: a1 :: a2 :: a3 :: vI x :: t) st M := ac_iinc (i := 4) C hd rfl (fun w hw => by cases hw; exact hp) hr h
theorem ac_istore5 {K : AbK} {kc ks : Nat} {cc : ByteArray} {own : String} {rm : Room} (C : Cx K cc own rm) {S : List AbS} {pc : Nat} {lv st : List AbV} {M : AbM} {a0 a1 a2 a3 a4 b : AbV} {t : List AbV} {x : Int} (hp : ab_cat a4 = 1) (hd : decode cc pc = .ok (.istore 5, 2)) (h : AJc K kc ks S (pc + 2) (a0 :: a1 :: a2 :: a3 :: a4 :: vI x :: t) st M) : AJc K kc ks S pc (a0 :: a1 :: a2 :: a3 :: a4 :: b :: t) (vI x :: st) M := ac_istore (i := 5) C hd (by simp) (fun w hw => by cases hw; exact hp) h
theorem ac_astore5 {K : AbK} {kc ks : Nat} {cc : ByteArray} {own : String} {rm : Room} (C : Cx K cc own rm) {S : List AbS} {pc : Nat} {lv st : List AbV} {M : AbM} {a0 a1 a2 a3 a4 b : AbV} {t : List AbV} {x : Nat} (hp : ab_cat a4 = 1) (hd : decode cc pc = .ok (.astore 5, 2)) (h : AJc K kc ks S (pc + 2) (a0 :: a1 :: a2 :: a3 :: a4 :: vP x :: t) st M) : AJc K kc ks S pc (a0 :: a1 :: a2 :: a3 :: a4 :: b :: t) (vP x :: st) M := ac_astore (i := 5) C hd (by simp) (fun w hw => by cases hw; exact hp) h
theorem ac_iinc5 {K : AbK} {kc ks : Nat} {cc : ByteArray} {own : String} {rm : Room} (C : Cx K cc own rm) {S : List AbS} {pc : Nat} {lv st : List AbV} {M : AbM} {a0 a1 a2 a3 a4 : AbV} {t : List AbV} {x n : Int} (hp : ab_cat a4 = 1) (hd : decode cc pc = .ok (.iinc 5 n, 3)) (hr : inI (x + n)) (h : AJc K kc ks S (pc + 3) (a0 :: a1 :: a2 :: a3 :: a4 :: vI (x + n) :: t) st M) : AJc K kc ks S pc (a0 :: a1 :: a2 :: a3 :: a4 :: vI x :: t) st M := ac_iinc (i := 5) C hd rfl (fun w hw => by cases hw; exact hp) hr h
theorem ac_istore6 {K : AbK} {kc ks : Nat} {cc : ByteArray} {own : String} {rm : Room} (C : Cx K cc own rm) {S : List AbS} {pc : Nat} {lv st : List AbV} {M : AbM} {a0 a1 a2 a3 a4 a5 b : AbV} {t : List AbV} {x : Int} (hp : ab_cat a5 = 1) (hd : decode cc pc = .ok (.istore 6, 2)) (h : AJc K kc ks S (pc + 2) (a0 :: a1 :: a2 :: a3 :: a4 :: a5 :: vI x :: t) st M) : AJc K kc ks S pc (a0 :: a1 :: a2 :: a3 :: a4 :: a5 :: b :: t) (vI x :: st) M := ac_istore (i := 6) C hd (by simp) (fun w hw => by cases hw; exact hp) h
theorem ac_astore6 {K : AbK} {kc ks : Nat} {cc : ByteArray} {own : String} {rm : Room} (C : Cx K cc own rm) {S : List AbS} {pc : Nat} {lv st : List AbV} {M : AbM} {a0 a1 a2 a3 a4 a5 b : AbV} {t : List AbV} {x : Nat} (hp : ab_cat a5 = 1) (hd : decode cc pc = .ok (.astore 6, 2)) (h : AJc K kc ks S (pc + 2) (a0 :: a1 :: a2 :: a3 :: a4 :: a5 :: vP x :: t) st M) : AJc K kc ks S pc (a0 :: a1 :: a2 :: a3 :: a4 :: a5 :: b :: t) (vP x :: st) M := ac_astore (i := 6) C hd (by simp) (fun w hw => by cases hw; exact hp) h
theorem ac_iinc6 {K : AbK} {kc ks : Nat} {cc : ByteArray} {own : String} {rm : Room} (C : Cx K cc own rm) {S : List AbS} {pc : Nat} {lv st : List AbV} {M : AbM} {a0 a1 a2 a3 a4 a5 : AbV} {t : List AbV} {x n : Int} (hp : ab_cat a5 = 1) (hd : decode cc pc = .ok (.iinc 6 n, 3)) (hr : inI (x + n)) (h : AJc K kc ks S (pc + 3) (a0 :: a1 :: a2 :: a3 :: a4 :: a5 :: vI (x + n) :: t) st M) : AJc K kc ks S pc (a0 :: a1 :: a2 :: a3 :: a4 :: a5 :: vI x :: t) st M := ac_iinc (i := 6) C hd rfl (fun w hw => by cases hw; exact hp) hr h
theorem ac_istore7 {K : AbK} {kc ks : Nat} {cc : ByteArray} {own : String} {rm : Room} (C : Cx K cc own rm) {S : List AbS} {pc : Nat} {lv st : List AbV} {M : AbM} {a0 a1 a2 a3 a4 a5 a6 b : AbV} {t : List AbV} {x : Int} (hp : ab_cat a6 = 1) (hd : decode cc pc = .ok (.istore 7, 2)) (h : AJc K kc ks S (pc + 2) (a0 :: a1 :: a2 :: a3 :: a4 :: a5 :: a6 :: vI x :: t) st M) : AJc K kc ks S pc (a0 :: a1 :: a2 :: a3 :: a4 :: a5 :: a6 :: b :: t) (vI x :: st) M := ac_istore (i := 7) C hd (by simp) (fun w hw => by cases hw; exact hp) h
theorem ac_astore7 {K : AbK} {kc ks : Nat} {cc : ByteArray} {own : String} {rm : Room} (C : Cx K cc own rm) {S : List AbS} {pc : Nat} {lv st : List AbV} {M : AbM} {a0 a1 a2 a3 a4 a5 a6 b : AbV} {t : List AbV} {x : Nat} (hp : ab_cat a6 = 1) (hd : decode cc pc = .ok (.astore 7, 2)) (h : AJc K kc ks S (pc + 2) (a0 :: a1 :: a2 :: a3 :: a4 :: a5 :: a6 :: vP x :: t) st M) : AJc K kc ks S pc (a0 :: a1 :: a2 :: a3 :: a4 :: a5 :: a6 :: b :: t) (vP x :: st) M := ac_astore (i := 7) C hd (by simp) (fun w hw => by cases hw; exact hp) h
theorem ac_iinc7 {K : AbK} {kc ks : Nat} {cc : ByteArray} {own : String} {rm : Room} (C : Cx K cc own rm) {S : List AbS} {pc : Nat} {lv st : List AbV} {M : AbM} {a0 a1 a2 a3 a4 a5 a6 : AbV} {t : List AbV} {x n : Int} (hp : ab_cat a6 = 1) (hd : decode cc pc = .ok (.iinc 7 n, 3)) (hr : inI (x + n)) (h : AJc K kc ks S (pc + 3) (a0 :: a1 :: a2 :: a3 :: a4 :: a5 :: a6 :: vI (x + n) :: t) st M) : AJc K kc ks S pc (a0 :: a1 :: a2 :: a3 :: a4 :: a5 :: a6 :: vI x :: t) st M := ac_iinc (i := 7) C hd rfl (fun w hw => by cases hw; exact hp) hr h
theorem ac_istore8 {K : AbK} {kc ks : Nat} {cc : ByteArray} {own : String} {rm : Room} (C : Cx K cc own rm) {S : List AbS} {pc : Nat} {lv st : List AbV} {M : AbM} {a0 a1 a2 a3 a4 a5 a6 a7 b : AbV} {t : List AbV} {x : Int} (hp : ab_cat a7 = 1) (hd : decode cc pc = .ok (.istore 8, 2)) (h : AJc K kc ks S (pc + 2) (a0 :: a1 :: a2 :: a3 :: a4 :: a5 :: a6 :: a7 :: vI x :: t) st M) : AJc K kc ks S pc (a0 :: a1 :: a2 :: a3 :: a4 :: a5 :: a6 :: a7 :: b :: t) (vI x :: st) M := ac_istore (i := 8) C hd (by simp) (fun w hw => by cases hw; exact hp) h
theorem ac_astore8 {K : AbK} {kc ks : Nat} {cc : ByteArray} {own : String} {rm : Room} (C : Cx K cc own rm) {S : List AbS} {pc : Nat} {lv st : List AbV} {M : AbM} {a0 a1 a2 a3 a4 a5 a6 a7 b : AbV} {t : List AbV} {x : Nat} (hp : ab_cat a7 = 1) (hd : decode cc pc = .ok (.astore 8, 2)) (h : AJc K kc ks S (pc + 2) (a0 :: a1 :: a2 :: a3 :: a4 :: a5 :: a6 :: a7 :: vP x :: t) st M) : AJc K kc ks S pc (a0 :: a1 :: a2 :: a3 :: a4 :: a5 :: a6 :: a7 :: b :: t) (vP x :: st) M := ac_astore (i := 8) C hd (by simp) (fun w hw => by cases hw; exact hp) h
theorem ac_iinc8 {K : AbK} {kc ks : Nat} {cc : ByteArray} {own : String} {rm : Room} (C : Cx K cc own rm) {S : List AbS} {pc : Nat} {lv st : List AbV} {M : AbM} {a0 a1 a2 a3 a4 a5 a6 a7 : AbV} {t : List AbV} {x n : Int} (hp : ab_cat a7 = 1) (hd : decode cc pc = .ok (.iinc 8 n, 3)) (hr : inI (x + n)) (h : AJc K kc ks S (pc + 3) (a0 :: a1 :: a2 :: a3 :: a4 :: a5 :: a6 :: a7 :: vI (x + n) :: t) st M) : AJc K kc ks S pc (a0 :: a1 :: a2 :: a3 :: a4 :: a5 :: a6 :: a7 :: vI x :: t) st M := ac_iinc (i := 8) C hd rfl (fun w hw => by cases hw; exact hp) hr h
theorem ac_istore9 {K : AbK} {kc ks : Nat} {cc : ByteArray} {own : String} {rm : Room} (C : Cx K cc own rm) {S : List AbS} {pc : Nat} {lv st : List AbV} {M : AbM} {a0 a1 a2 a3 a4 a5 a6 a7 a8 b : AbV} {t : List AbV} {x : Int} (hp : ab_cat a8 = 1) (hd : decode cc pc = .ok (.istore 9, 2)) (h : AJc K kc ks S (pc + 2) (a0 :: a1 :: a2 :: a3 :: a4 :: a5 :: a6 :: a7 :: a8 :: vI x :: t) st M) : AJc K kc ks S pc (a0 :: a1 :: a2 :: a3 :: a4 :: a5 :: a6 :: a7 :: a8 :: b :: t) (vI x :: st) M := ac_istore (i := 9) C hd (by simp) (fun w hw => by cases hw; exact hp) h
theorem ac_astore9 {K : AbK} {kc ks : Nat} {cc : ByteArray} {own : String} {rm : Room} (C : Cx K cc own rm) {S : List AbS} {pc : Nat} {lv st : List AbV} {M : AbM} {a0 a1 a2 a3 a4 a5 a6 a7 a8 b : AbV} {t : List AbV} {x : Nat} (hp : ab_cat a8 = 1) (hd : decode cc pc = .ok (.astore 9, 2)) (h : AJc K kc ks S (pc + 2) (a0 :: a1 :: a2 :: a3 :: a4 :: a5 :: a6 :: a7 :: a8 :: vP x :: t) st M) : AJc K kc ks S pc (a0 :: a1 :: a2 :: a3 :: a4 :: a5 :: a6 :: a7 :: a8 :: b :: t) (vP x :: st) M := ac_astore (i := 9) C hd (by simp) (fun w hw => by cases hw; exact hp) h
theorem ac_iinc9 {K : AbK} {kc ks : Nat} {cc : ByteArray} {own : String} {rm : Room} (C : Cx K cc own rm) {S : List AbS} {pc : Nat} {lv st : List AbV} {M : AbM} {a0 a1 a2 a3 a4 a5 a6 a7 a8 : AbV} {t : List AbV} {x n : Int} (hp : ab_cat a8 = 1) (hd : decode cc pc = .ok (.iinc 9 n, 3)) (hr : inI (x + n)) (h : AJc K kc ks S (pc + 3) (a0 :: a1 :: a2 :: a3 :: a4 :: a5 :: a6 :: a7 :: a8 :: vI (x + n) :: t) st M) : AJc K kc ks S pc (a0 :: a1 :: a2 :: a3 :: a4 :: a5 :: a6 :: a7 :: a8 :: vI x :: t) st M := ac_iinc (i := 9) C hd rfl (fun w hw => by cases hw; exact hp) hr h
theorem ac_istore10 {K : AbK} {kc ks : Nat} {cc : ByteArray} {own : String} {rm : Room} (C : Cx K cc own rm) {S : List AbS} {pc : Nat} {lv st : List AbV} {M : AbM} {a0 a1 a2 a3 a4 a5 a6 a7 a8 a9 b : AbV} {t : List AbV} {x : Int} (hp : ab_cat a9 = 1) (hd : decode cc pc = .ok (.istore 10, 2)) (h : AJc K kc ks S (pc + 2) (a0 :: a1 :: a2 :: a3 :: a4 :: a5 :: a6 :: a7 :: a8 :: a9 :: vI x :: t) st M) : AJc K kc ks S pc (a0 :: a1 :: a2 :: a3 :: a4 :: a5 :: a6 :: a7 :: a8 :: a9 :: b :: t) (vI x :: st) M := ac_istore (i := 10) C hd (by simp) (fun w hw => by cases hw; exact hp) h
theorem ac_astore10 {K : AbK} {kc ks : Nat} {cc : ByteArray} {own : String} {rm : Room} (C : Cx K cc own rm) {S : List AbS} {pc : Nat} {lv st : List AbV} {M : AbM} {a0 a1 a2 a3 a4 a5 a6 a7 a8 a9 b : AbV} {t : List AbV} {x : Nat} (hp : ab_cat a9 = 1) (hd : decode cc pc = .ok (.astore 10, 2)) (h : AJc K kc ks S (pc + 2) (a0 :: a1 :: a2 :: a3 :: a4 :: a5 :: a6 :: a7 :: a8 :: a9 :: vP x :: t) st M) : AJc K kc ks S pc (a0 :: a1 :: a2 :: a3 :: a4 :: a5 :: a6 :: a7 :: a8 :: a9 :: b :: t) (vP x :: st) M := ac_astore (i := 10) C hd (by simp) (fun w hw => by cases hw; exact hp) h
theorem ac_iinc10 {K : AbK} {kc ks : Nat} {cc : ByteArray} {own : String} {rm : Room} (C : Cx K cc own rm) {S : List AbS} {pc : Nat} {lv st : List AbV} {M : AbM} {a0 a1 a2 a3 a4 a5 a6 a7 a8 a9 : AbV} {t : List AbV} {x n : Int} (hp : ab_cat a9 = 1) (hd : decode cc pc = .ok (.iinc 10 n, 3)) (hr : inI (x + n)) (h : AJc K kc ks S (pc + 3) (a0 :: a1 :: a2 :: a3 :: a4 :: a5 :: a6 :: a7 :: a8 :: a9 :: vI (x + n) :: t) st M) : AJc K kc ks S pc (a0 :: a1 :: a2 :: a3 :: a4 :: a5 :: a6 :: a7 :: a8 :: a9 :: vI x :: t) st M := ac_iinc (i := 10) C hd rfl (fun w hw => by cases hw; exact hp) hr h
theorem ac_istore11 {K : AbK} {kc ks : Nat} {cc : ByteArray} {own : String} {rm : Room} (C : Cx K cc own rm) {S : List AbS} {pc : Nat} {lv st : List AbV} {M : AbM} {a0 a1 a2 a3 a4 a5 a6 a7 a8 a9 a10 b : AbV} {t : List AbV} {x : Int} (hp : ab_cat a10 = 1) (hd : decode cc pc = .ok (.istore 11, 2)) (h : AJc K kc ks S (pc + 2) (a0 :: a1 :: a2 :: a3 :: a4 :: a5 :: a6 :: a7 :: a8 :: a9 :: a10 :: vI x :: t) st M) : AJc K kc ks S pc (a0 :: a1 :: a2 :: a3 :: a4 :: a5 :: a6 :: a7 :: a8 :: a9 :: a10 :: b :: t) (vI x :: st) M := ac_istore (i := 11) C hd (by simp) (fun w hw => by cases hw; exact hp) h
theorem ac_astore11 {K : AbK} {kc ks : Nat} {cc : ByteArray} {own : String} {rm : Room} (C : Cx K cc own rm) {S : List AbS} {pc : Nat} {lv st : List AbV} {M : AbM} {a0 a1 a2 a3 a4 a5 a6 a7 a8 a9 a10 b : AbV} {t : List AbV} {x : Nat} (hp : ab_cat a10 = 1) (hd : decode cc pc = .ok (.astore 11, 2)) (h : AJc K kc ks S (pc + 2) (a0 :: a1 :: a2 :: a3 :: a4 :: a5 :: a6 :: a7 :: a8 :: a9 :: a10 :: vP x :: t) st M) : AJc K kc ks S pc (a0 :: a1 :: a2 :: a3 :: a4 :: a5 :: a6 :: a7 :: a8 :: a9 :: a10 :: b :: t) (vP x :: st) M := ac_astore (i := 11) C hd (by simp) (fun w hw => by cases hw; exact hp) h
theorem ac_iinc11 {K : AbK} {kc ks : Nat} {cc : ByteArray} {own : String} {rm : Room} (C : Cx K cc own rm) {S : List AbS} {pc : Nat} {lv st : List AbV} {M : AbM} {a0 a1 a2 a3 a4 a5 a6 a7 a8 a9 a10 : AbV} {t : List AbV} {x n : Int} (hp : ab_cat a10 = 1) (hd : decode cc pc = .ok (.iinc 11 n, 3)) (hr : inI (x + n)) (h : AJc K kc ks S (pc + 3) (a0 :: a1 :: a2 :: a3 :: a4 :: a5 :: a6 :: a7 :: a8 :: a9 :: a10 :: vI (x + n) :: t) st M) : AJc K kc ks S pc (a0 :: a1 :: a2 :: a3 :: a4 :: a5 :: a6 :: a7 :: a8 :: a9 :: a10 :: vI x :: t) st M := ac_iinc (i := 11) C hd rfl (fun w hw => by cases hw; exact hp) hr h
theorem ac_istore12 {K : AbK} {kc ks : Nat} {cc : ByteArray} {own : String} {rm : Room} (C : Cx K cc own rm) {S : List AbS} {pc : Nat} {lv st : List AbV} {M : AbM} {a0 a1 a2 a3 a4 a5 a6 a7 a8 a9 a10 a11 b : AbV} {t : List AbV} {x : Int} (hp : ab_cat a11 = 1) (hd : decode cc pc = .ok (.istore 12, 2)) (h : AJc K kc ks S (pc + 2) (a0 :: a1 :: a2 :: a3 :: a4 :: a5 :: a6 :: a7 :: a8 :: a9 :: a10 :: a11 :: vI x :: t) st M) : AJc K kc ks S pc (a0 :: a1 :: a2 :: a3 :: a4 :: a5 :: a6 :: a7 :: a8 :: a9 :: a10 :: a11 :: b :: t) (vI x :: st) M := ac_istore (i := 12) C hd (by simp) (fun w hw => by cases hw; exact hp) h
theorem ac_astore12 {K : AbK} {kc ks : Nat} {cc : ByteArray} {own : String} {rm : Room} (C : Cx K cc own rm) {S : List AbS} {pc : Nat} {lv st : List AbV} {M : AbM} {a0 a1 a2 a3 a4 a5 a6 a7 a8 a9 a10 a11 b : AbV} {t : List AbV} {x : Nat} (hp : ab_cat a11 = 1) (hd : decode cc pc = .ok (.astore 12, 2)) (h : AJc K kc ks S (pc + 2) (a0 :: a1 :: a2 :: a3 :: a4 :: a5 :: a6 :: a7 :: a8 :: a9 :: a10 :: a11 :: vP x :: t) st M) : AJc K kc ks S pc (a0 :: a1 :: a2 :: a3 :: a4 :: a5 :: a6 :: a7 :: a8 :: a9 :: a10 :: a11 :: b :: t) (vP x :: st) M := ac_astore (i := 12) C hd (by simp) (fun w hw => by cases hw; exact hp) h
theorem ac_iinc12 {K : AbK} {kc ks : Nat} {cc : ByteArray} {own : String} {rm : Room} (C : Cx K cc own rm) {S : List AbS} {pc : Nat} {lv st : List AbV} {M : AbM} {a0 a1 a2 a3 a4 a5 a6 a7 a8 a9 a10 a11 : AbV} {t : List AbV} {x n : Int} (hp : ab_cat a11 = 1) (hd : decode cc pc = .ok (.iinc 12 n, 3)) (hr : inI (x + n)) (h : AJc K kc ks S (pc + 3) (a0 :: a1 :: a2 :: a3 :: a4 :: a5 :: a6 :: a7 :: a8 :: a9 :: a10 :: a11 :: vI (x + n) :: t) st M) : AJc K kc ks S pc (a0 :: a1 :: a2 :: a3 :: a4 :: a5 :: a6 :: a7 :: a8 :: a9 :: a10 :: a11 :: vI x :: t) st M := ac_iinc (i := 12) C hd rfl (fun w hw => by cases hw; exact hp) hr h
theorem ac_istore13 {K : AbK} {kc ks : Nat} {cc : ByteArray} {own : String} {rm : Room} (C : Cx K cc own rm) {S : List AbS} {pc : Nat} {lv st : List AbV} {M : AbM} {a0 a1 a2 a3 a4 a5 a6 a7 a8 a9 a10 a11 a12 b : AbV} {t : List AbV} {x : Int} (hp : ab_cat a12 = 1) (hd : decode cc pc = .ok (.istore 13, 2)) (h : AJc K kc ks S (pc + 2) (a0 :: a1 :: a2 :: a3 :: a4 :: a5 :: a6 :: a7 :: a8 :: a9 :: a10 :: a11 :: a12 :: vI x :: t) st M) : AJc K kc ks S pc (a0 :: a1 :: a2 :: a3 :: a4 :: a5 :: a6 :: a7 :: a8 :: a9 :: a10 :: a11 :: a12 :: b :: t) (vI x :: st) M := ac_istore (i := 13) C hd (by simp) (fun w hw => by cases hw; exact hp) h
theorem ac_astore13 {K : AbK} {kc ks : Nat} {cc : ByteArray} {own : String} {rm : Room} (C : Cx K cc own rm) {S : List AbS} {pc : Nat} {lv st : List AbV} {M : AbM} {a0 a1 a2 a3 a4 a5 a6 a7 a8 a9 a10 a11 a12 b : AbV} {t : List AbV} {x : Nat} (hp : ab_cat a12 = 1) (hd : decode cc pc = .ok (.astore 13, 2)) (h : AJc K kc ks S (pc + 2) (a0 :: a1 :: a2 :: a3 :: a4 :: a5 :: a6 :: a7 :: a8 :: a9 :: a10 :: a11 :: a12 :: vP x :: t) st M) : AJc K kc ks S pc (a0 :: a1 :: a2 :: a3 :: a4 :: a5 :: a6 :: a7 :: a8 :: a9 :: a10 :: a11 :: a12 :: b :: t) (vP x :: st) M := ac_astore (i := 13) C hd (by simp) (fun w hw => by cases hw; exact hp) h
theorem ac_iinc13 {K : AbK} {kc ks : Nat} {cc : ByteArray} {own : String} {rm : Room} (C : Cx K cc own rm) {S : List AbS} {pc : Nat} {lv st : List AbV} {M : AbM} {a0 a1 a2 a3 a4 a5 a6 a7 a8 a9 a10 a11 a12 : AbV} {t : List AbV} {x n : Int} (hp : ab_cat a12 = 1) (hd : decode cc pc = .ok (.iinc 13 n, 3)) (hr : inI (x + n)) (h : AJc K kc ks S (pc + 3) (a0 :: a1 :: a2 :: a3 :: a4 :: a5 :: a6 :: a7 :: a8 :: a9 :: a10 :: a11 :: a12 :: vI (x + n) :: t) st M) : AJc K kc ks S pc (a0 :: a1 :: a2 :: a3 :: a4 :: a5 :: a6 :: a7 :: a8 :: a9 :: a10 :: a11 :: a12 :: vI x :: t) st M := ac_iinc (i := 13) C hd rfl (fun w hw => by cases hw; exact hp) hr h
theorem ac_istore14 {K : AbK} {kc ks : Nat} {cc : ByteArray} {own : String} {rm : Room} (C : Cx K cc own rm) {S : List AbS} {pc : Nat} {lv st : List AbV} {M : AbM} {a0 a1 a2 a3 a4 a5 a6 a7 a8 a9 a10 a11 a12 a13 b : AbV} {t : List AbV} {x : Int} (hp : ab_cat a13 = 1) (hd : decode cc pc = .ok (.istore 14, 2)) (h : AJc K kc ks S (pc + 2) (a0 :: a1 :: a2 :: a3 :: a4 :: a5 :: a6 :: a7 :: a8 :: a9 :: a10 :: a11 :: a12 :: a13 :: vI x :: t) st M) : AJc K kc ks S pc (a0 :: a1 :: a2 :: a3 :: a4 :: a5 :: a6 :: a7 :: a8 :: a9 :: a10 :: a11 :: a12 :: a13 :: b :: t) (vI x :: st) M := ac_istore (i := 14) C hd (by simp) (fun w hw => by cases hw; exact hp) h
theorem ac_astore14 {K : AbK} {kc ks : Nat} {cc : ByteArray} {own : String} {rm : Room} (C : Cx K cc own rm) {S : List AbS} {pc : Nat} {lv st : List AbV} {M : AbM} {a0 a1 a2 a3 a4 a5 a6 a7 a8 a9 a10 a11 a12 a13 b : AbV} {t : List AbV} {x : Nat} (hp : ab_cat a13 = 1) (hd : decode cc pc = .ok (.astore 14, 2)) (h : AJc K kc ks S (pc + 2) (a0 :: a1 :: a2 :: a3 :: a4 :: a5 :: a6 :: a7 :: a8 :: a9 :: a10 :: a11 :: a12 :: a13 :: vP x :: t) st M) : AJc K kc ks S pc (a0 :: a1 :: a2 :: a3 :: a4 :: a5 :: a6 :: a7 :: a8 :: a9 :: a10 :: a11 :: a12 :: a13 :: b :: t) (vP x :: st) M := ac_astore (i := 14) C hd (by simp) (fun w hw => by cases hw; exact hp) h
theorem ac_iinc14 {K : AbK} {kc ks : Nat} {cc : ByteArray} {own : String} {rm : Room} (C : Cx K cc own rm) {S : List AbS} {pc : Nat} {lv st : List AbV} {M : AbM} {a0 a1 a2 a3 a4 a5 a6 a7 a8 a9 a10 a11 a12 a13 : AbV} {t : List AbV} {x n : Int} (hp : ab_cat a13 = 1) (hd : decode cc pc = .ok (.iinc 14 n, 3)) (hr : inI (x + n)) (h : AJc K kc ks S (pc + 3) (a0 :: a1 :: a2 :: a3 :: a4 :: a5 :: a6 :: a7 :: a8 :: a9 :: a10 :: a11 :: a12 :: a13 :: vI (x + n) :: t) st M) : AJc K kc ks S pc (a0 :: a1 :: a2 :: a3 :: a4 :: a5 :: a6 :: a7 :: a8 :: a9 :: a10 :: a11 :: a12 :: a13 :: vI x :: t) st M := ac_iinc (i := 14) C hd rfl (fun w hw => by cases hw; exact hp) hr h
theorem ac_istore15 {K : AbK} {kc ks : Nat} {cc : ByteArray} {own : String} {rm : Room} (C : Cx K cc own rm) {S : List AbS} {pc : Nat} {lv st : List AbV} {M : AbM} {a0 a1 a2 a3 a4 a5 a6 a7 a8 a9 a10 a11 a12 a13 a14 b : AbV} {t : List AbV} {x : Int} (hp : ab_cat a14 = 1) (hd : decode cc pc = .ok (.istore 15, 2)) (h : AJc K kc ks S (pc + 2) (a0 :: a1 :: a2 :: a3 :: a4 :: a5 :: a6 :: a7 :: a8 :: a9 :: a10 :: a11 :: a12 :: a13 :: a14 :: vI x :: t) st M) : AJc K kc ks S pc (a0 :: a1 :: a2 :: a3 :: a4 :: a5 :: a6 :: a7 :: a8 :: a9 :: a10 :: a11 :: a12 :: a13 :: a14 :: b :: t) (vI x :: st) M := ac_istore (i := 15) C hd (by simp) (fun w hw => by cases hw; exact hp) h
theorem ac_astore15 {K : AbK} {kc ks : Nat} {cc : ByteArray} {own : String} {rm : Room} (C : Cx K cc own rm) {S : List AbS} {pc : Nat} {lv st : List AbV} {M : AbM} {a0 a1 a2 a3 a4 a5 a6 a7 a8 a9 a10 a11 a12 a13 a14 b : AbV} {t : List AbV} {x : Nat} (hp : ab_cat a14 = 1) (hd : decode cc pc = .ok (.astore 15, 2)) (h : AJc K kc ks S (pc + 2) (a0 :: a1 :: a2 :: a3 :: a4 :: a5 :: a6 :: a7 :: a8 :: a9 :: a10 :: a11 :: a12 :: a13 :: a14 :: vP x :: t) st M) : AJc K kc ks S pc (a0 :: a1 :: a2 :: a3 :: a4 :: a5 :: a6 :: a7 :: a8 :: a9 :: a10 :: a11 :: a12 :: a13 :: a14 :: b :: t) (vP x :: st) M := ac_astore (i := 15) C hd (by simp) (fun w hw => by cases hw; exact hp) h
theorem ac_iinc15 {K : AbK} {kc ks : Nat} {cc : ByteArray} {own : String} {rm : Room} (C : Cx K cc own rm) {S : List AbS} {pc : Nat} {lv st : List AbV} {M : AbM} {a0 a1 a2 a3 a4 a5 a6 a7 a8 a9 a10 a11 a12 a13 a14 : AbV} {t : List AbV} {x n : Int} (hp : ab_cat a14 = 1) (hd : decode cc pc = .ok (.iinc 15 n, 3)) (hr : inI (x + n)) (h : AJc K kc ks S (pc + 3) (a0 :: a1 :: a2 :: a3 :: a4 :: a5 :: a6 :: a7 :: a8 :: a9 :: a10 :: a11 :: a12 :: a13 :: a14 :: vI (x + n) :: t) st M) : AJc K kc ks S pc (a0 :: a1 :: a2 :: a3 :: a4 :: a5 :: a6 :: a7 :: a8 :: a9 :: a10 :: a11 :: a12 :: a13 :: a14 :: vI x :: t) st M := ac_iinc (i := 15) C hd rfl (fun w hw => by cases hw; exact hp) hr h
theorem ac_istore16 {K : AbK} {kc ks : Nat} {cc : ByteArray} {own : String} {rm : Room} (C : Cx K cc own rm) {S : List AbS} {pc : Nat} {lv st : List AbV} {M : AbM} {a0 a1 a2 a3 a4 a5 a6 a7 a8 a9 a10 a11 a12 a13 a14 a15 b : AbV} {t : List AbV} {x : Int} (hp : ab_cat a15 = 1) (hd : decode cc pc = .ok (.istore 16, 2)) (h : AJc K kc ks S (pc + 2) (a0 :: a1 :: a2 :: a3 :: a4 :: a5 :: a6 :: a7 :: a8 :: a9 :: a10 :: a11 :: a12 :: a13 :: a14 :: a15 :: vI x :: t) st M) : AJc K kc ks S pc (a0 :: a1 :: a2 :: a3 :: a4 :: a5 :: a6 :: a7 :: a8 :: a9 :: a10 :: a11 :: a12 :: a13 :: a14 :: a15 :: b :: t) (vI x :: st) M := ac_istore (i := 16) C hd (by simp) (fun w hw => by cases hw; exact hp) h
theorem ac_astore16 {K : AbK} {kc ks : Nat} {cc : ByteArray} {own : String} {rm : Room} (C : Cx K cc own rm) {S : List AbS} {pc : Nat} {lv st : List AbV} {M : AbM} {a0 a1 a2 a3 a4 a5 a6 a7 a8 a9 a10 a11 a12 a13 a14 a15 b : AbV} {t : List AbV} {x : Nat} (hp : ab_cat a15 = 1) (hd : decode cc pc = .ok (.astore 16, 2)) (h : AJc K kc ks S (pc + 2) (a0 :: a1 :: a2 :: a3 :: a4 :: a5 :: a6 :: a7 :: a8 :: a9 :: a10 :: a11 :: a12 :: a13 :: a14 :: a15 :: vP x :: t) st M) : AJc K kc ks S pc (a0 :: a1 :: a2 :: a3 :: a4 :: a5 :: a6 :: a7 :: a8 :: a9 :: a10 :: a11 :: a12 :: a13 :: a14 :: a15 :: b :: t) (vP x :: st) M := ac_astore (i := 16) C hd (by simp) (fun w hw => by cases hw; exact hp) h
theorem ac_iinc16 {K : AbK} {kc ks : Nat} {cc : ByteArray} {own : String} {rm : Room} (C : Cx K cc own rm) {S : List AbS} {pc : Nat} {lv st : List AbV} {M : AbM} {a0 a1 a2 a3 a4 a5 a6 a7 a8 a9 a10 a11 a12 a13 a14 a15 : AbV} {t : List AbV} {x n : Int} (hp : ab_cat a15 = 1) (hd : decode cc pc = .ok (.iinc 16 n, 3)) (hr : inI (x + n)) (h : AJc K kc ks S (pc + 3) (a0 :: a1 :: a2 :: a3 :: a4 :: a5 :: a6 :: a7 :: a8 :: a9 :: a10 :: a11 :: a12 :: a13 :: a14 :: a15 :: vI (x + n) :: t) st M) : AJc K kc ks S pc (a0 :: a1 :: a2 :: a3 :: a4 :: a5 :: a6 :: a7 :: a8 :: a9 :: a10 :: a11 :: a12 :: a13 :: a14 :: a15 :: vI x :: t) st M := ac_iinc (i := 16) C hd rfl (fun w hw => by cases hw; exact hp) hr h
theorem ac_istore17 {K : AbK} {kc ks : Nat} {cc : ByteArray} {own : String} {rm : Room} (C : Cx K cc own rm) {S : List AbS} {pc : Nat} {lv st : List AbV} {M : AbM} {a0 a1 a2 a3 a4 a5 a6 a7 a8 a9 a10 a11 a12 a13 a14 a15 a16 b : AbV} {t : List AbV} {x : Int} (hp : ab_cat a16 = 1) (hd : decode cc pc = .ok (.istore 17, 2)) (h : AJc K kc ks S (pc + 2) (a0 :: a1 :: a2 :: a3 :: a4 :: a5 :: a6 :: a7 :: a8 :: a9 :: a10 :: a11 :: a12 :: a13 :: a14 :: a15 :: a16 :: vI x :: t) st M) : AJc K kc ks S pc (a0 :: a1 :: a2 :: a3 :: a4 :: a5 :: a6 :: a7 :: a8 :: a9 :: a10 :: a11 :: a12 :: a13 :: a14 :: a15 :: a16 :: b :: t) (vI x :: st) M := ac_istore (i := 17) C hd (by simp) (fun w hw => by cases hw; exact hp) h
theorem ac_astore17 {K : AbK} {kc ks : Nat} {cc : ByteArray} {own : String} {rm : Room} (C : Cx K cc own rm) {S : List AbS} {pc : Nat} {lv st : List AbV} {M : AbM} {a0 a1 a2 a3 a4 a5 a6 a7 a8 a9 a10 a11 a12 a13 a14 a15 a16 b : AbV} {t : List AbV} {x : Nat} (hp : ab_cat a16 = 1) (hd : decode cc pc = .ok (.astore 17, 2)) (h : AJc K kc ks S (pc + 2) (a0 :: a1 :: a2 :: a3 :: a4 :: a5 :: a6 :: a7 :: a8 :: a9 :: a10 :: a11 :: a12 :: a13 :: a14 :: a15 :: a16 :: vP x :: t) st M) : AJc K kc ks S pc (a0 :: a1 :: a2 :: a3 :: a4 :: a5 :: a6 :: a7 :: a8 :: a9 :: a10 :: a11 :: a12 :: a13 :: a14 :: a15 :: a16 :: b :: t) (vP x :: st) M := ac_astore (i := 17) C hd (by simp) (fun w hw => by cases hw; exact hp) h
theorem ac_iinc17 {K : AbK} {kc ks : Nat} {cc : ByteArray} {own : String} {rm : Room} (C : Cx K cc own rm) {S : List AbS} {pc : Nat} {lv st : List AbV} {M : AbM} {a0 a1 a2 a3 a4 a5 a6 a7 a8 a9 a10 a11 a12 a13 a14 a15 a16 : AbV} {t : List AbV} {x n : Int} (hp : ab_cat a16 = 1) (hd : decode cc pc = .ok (.iinc 17 n, 3)) (hr : inI (x + n)) (h : AJc K kc ks S (pc + 3) (a0 :: a1 :: a2 :: a3 :: a4 :: a5 :: a6 :: a7 :: a8 :: a9 :: a10 :: a11 :: a12 :: a13 :: a14 :: a15 :: a16 :: vI (x + n) :: t) st M) : AJc K kc ks S pc (a0 :: a1 :: a2 :: a3 :: a4 :: a5 :: a6 :: a7 :: a8 :: a9 :: a10 :: a11 :: a12 :: a13 :: a14 :: a15 :: a16 :: vI x :: t) st M := ac_iinc (i := 17) C hd rfl (fun w hw => by cases hw; exact hp) hr h
theorem ac_iadd {K : AbK} {kc ks : Nat} {cc : ByteArray} {own : String} {rm : Room} (C : Cx K cc own rm) {S : List AbS} {pc : Nat} {lv st : List AbV} {M : AbM} {x y : Int} (hd : decode cc pc = .ok (.iadd, 1)) (hr : inI (x + y)) (h : AJc K kc ks S (pc + 1) lv (vI (x + y) :: st) M) : AJc K kc ks S pc lv (vI y :: vI x :: st) M := by
  obtain ⟨p, l, e, R, s, m, args, below, meth, c, Q, D, cA, A, ads, nL⟩ := K
  obtain ⟨hx, hb, hml, hown, hts, hlk, hK, hA, hR, hX⟩ := C
  intro H locs ls hP hD hO hS hL hl hs
  have h1 := h H locs ls hP hD hO hS hL hl (ab_c hr (List.forall_mem_cons.mp (List.forall_mem_cons.mp hs).2).2)
  refine lv_iadd (x := Int32.ofInt x) (y := Int32.ofInt y) hx hb hd ?_
  rw [← Int32.ofInt_add]
  exact h1
theorem ac_isub {K : AbK} {kc ks : Nat} {cc : ByteArray} {own : String} {rm : Room} (C : Cx K cc own rm) {S : List AbS} {pc : Nat} {lv st : List AbV} {M : AbM} {x y : Int} (hd : decode cc pc = .ok (.isub, 1)) (hr : inI (x - y)) (h : AJc K kc ks S (pc + 1) lv (vI (x - y) :: st) M) : AJc K kc ks S pc lv (vI y :: vI x :: st) M := by
  obtain ⟨p, l, e, R, s, m, args, below, meth, c, Q, D, cA, A, ads, nL⟩ := K
  obtain ⟨hx, hb, hml, hown, hts, hlk, hK, hA, hR, hX⟩ := C
  intro H locs ls hP hD hO hS hL hl hs
  have h1 := h H locs ls hP hD hO hS hL hl (ab_c hr (List.forall_mem_cons.mp (List.forall_mem_cons.mp hs).2).2)
  refine lv_isub (x := Int32.ofInt x) (y := Int32.ofInt y) hx hb hd ?_
  rw [← Int32.ofInt_sub]
  exact h1
theorem ac_imul {K : AbK} {kc ks : Nat} {cc : ByteArray} {own : String} {rm : Room} (C : Cx K cc own rm) {S : List AbS} {pc : Nat} {lv st : List AbV} {M : AbM} {x y : Int} (hd : decode cc pc = .ok (.imul, 1)) (hr : inI (x * y)) (h : AJc K kc ks S (pc + 1) lv (vI (x * y) :: st) M) : AJc K kc ks S pc lv (vI y :: vI x :: st) M := by
  obtain ⟨p, l, e, R, s, m, args, below, meth, c, Q, D, cA, A, ads, nL⟩ := K
  obtain ⟨hx, hb, hml, hown, hts, hlk, hK, hA, hR, hX⟩ := C
  intro H locs ls hP hD hO hS hL hl hs
  have h1 := h H locs ls hP hD hO hS hL hl (ab_c hr (List.forall_mem_cons.mp (List.forall_mem_cons.mp hs).2).2)
  refine lv_imul (x := Int32.ofInt x) (y := Int32.ofInt y) hx hb hd ?_
  rw [← Int32.ofInt_mul]
  exact h1
theorem ac_ladd {K : AbK} {kc ks : Nat} {cc : ByteArray} {own : String} {rm : Room} (C : Cx K cc own rm) {S : List AbS} {pc : Nat} {lv st : List AbV} {M : AbM} {x y : Int} (hd : decode cc pc = .ok (.ladd, 1)) (hr : inL (x + y)) (h : AJc K kc ks S (pc + 1) lv (vL (x + y) :: st) M) : AJc K kc ks S pc lv (vL y :: vL x :: st) M := by
  obtain ⟨p, l, e, R, s, m, args, below, meth, c, Q, D, cA, A, ads, nL⟩ := K
  obtain ⟨hx, hb, hml, hown, hts, hlk, hK, hA, hR, hX⟩ := C
  intro H locs ls hP hD hO hS hL hl hs
  have h1 := h H locs ls hP hD hO hS hL hl (ab_c hr (List.forall_mem_cons.mp (List.forall_mem_cons.mp hs).2).2)
  refine lv_ladd (x := Int64.ofInt x) (y := Int64.ofInt y) hx hb hd ?_
  rw [← Int64.ofInt_add]
  exact h1
theorem ac_lsub {K : AbK} {kc ks : Nat} {cc : ByteArray} {own : String} {rm : Room} (C : Cx K cc own rm) {S : List AbS} {pc : Nat} {lv st : List AbV} {M : AbM} {x y : Int} (hd : decode cc pc = .ok (.lsub, 1)) (hr : inL (x - y)) (h : AJc K kc ks S (pc + 1) lv (vL (x - y) :: st) M) : AJc K kc ks S pc lv (vL y :: vL x :: st) M := by
  obtain ⟨p, l, e, R, s, m, args, below, meth, c, Q, D, cA, A, ads, nL⟩ := K
  obtain ⟨hx, hb, hml, hown, hts, hlk, hK, hA, hR, hX⟩ := C
  intro H locs ls hP hD hO hS hL hl hs
  have h1 := h H locs ls hP hD hO hS hL hl (ab_c hr (List.forall_mem_cons.mp (List.forall_mem_cons.mp hs).2).2)
  refine lv_lsub (x := Int64.ofInt x) (y := Int64.ofInt y) hx hb hd ?_
  rw [← Int64.ofInt_sub]
  exact h1
theorem ac_lmul {K : AbK} {kc ks : Nat} {cc : ByteArray} {own : String} {rm : Room} (C : Cx K cc own rm) {S : List AbS} {pc : Nat} {lv st : List AbV} {M : AbM} {x y : Int} (hd : decode cc pc = .ok (.lmul, 1)) (hr : inL (x * y)) (h : AJc K kc ks S (pc + 1) lv (vL (x * y) :: st) M) : AJc K kc ks S pc lv (vL y :: vL x :: st) M := by
  obtain ⟨p, l, e, R, s, m, args, below, meth, c, Q, D, cA, A, ads, nL⟩ := K
  obtain ⟨hx, hb, hml, hown, hts, hlk, hK, hA, hR, hX⟩ := C
  intro H locs ls hP hD hO hS hL hl hs
  have h1 := h H locs ls hP hD hO hS hL hl (ab_c hr (List.forall_mem_cons.mp (List.forall_mem_cons.mp hs).2).2)
  refine lv_lmul (x := Int64.ofInt x) (y := Int64.ofInt y) hx hb hd ?_
  rw [← Int64.ofInt_mul]
  exact h1
theorem ac_ineg {K : AbK} {kc ks : Nat} {cc : ByteArray} {own : String} {rm : Room} (C : Cx K cc own rm) {S : List AbS} {pc : Nat} {lv st : List AbV} {M : AbM} {x : Int} (hd : decode cc pc = .ok (.ineg, 1)) (hr : inI (-x)) (h : AJc K kc ks S (pc + 1) lv (vI (-x) :: st) M) : AJc K kc ks S pc lv (vI x :: st) M := by
  obtain ⟨p, l, e, R, s, m, args, below, meth, c, Q, D, cA, A, ads, nL⟩ := K
  obtain ⟨hx, hb, hml, hown, hts, hlk, hK, hA, hR, hX⟩ := C
  intro H locs ls hP hD hO hS hL hl hs
  have h1 := h H locs ls hP hD hO hS hL hl (ab_c hr (List.forall_mem_cons.mp hs).2)
  refine lv_ineg (x := Int32.ofInt x) hx hb hd ?_
  rw [← Int32.ofInt_neg]
  exact h1
theorem ac_idiv {K : AbK} {kc ks : Nat} {cc : ByteArray} {own : String} {rm : Room} (C : Cx K cc own rm) {S : List AbS} {pc : Nat} {lv st : List AbV} {M : AbM} {x y : Int} (hd : decode cc pc = .ok (.idiv, 1)) (h0 : 0 ≤ x) (h1 : 0 < y) (h : AJc K kc ks S (pc + 1) lv (vI (x / y) :: st) M) : AJc K kc ks S pc lv (vI y :: vI x :: st) M := by
  obtain ⟨p, l, e, R, s, m, args, below, meth, c, Q, D, cA, A, ads, nL⟩ := K
  obtain ⟨hx, hb, hml, hown, hts, hlk, hK, hA, hR, hX⟩ := C
  intro H locs ls hP hD hO hS hL hl hs
  obtain ⟨hy, hs⟩ := List.forall_mem_cons.mp hs
  obtain ⟨hx2, hs⟩ := List.forall_mem_cons.mp hs
  have hq : 0 ≤ x / y := Int.ediv_nonneg h0 (by omega)
  have hq2 : x / y ≤ x := Int.ediv_le_self y h0
  have hr : inI (x / y) := ⟨by omega, by have := hx2.2; omega⟩
  have h2 := h H locs ls hP hD hO hS hL hl (ab_c hr hs)
  refine lv_idiv (x := Int32.ofInt x) (y := Int32.ofInt y) hx hb hd (fun z => ?_) ?_
  · have := (ab_eq hy (by decide)).mp (z.trans (by decide : (0 : Int32) = Int32.ofInt 0))
    omega
  · rw [ab_div hx2 hy h0 h1]
    exact h2
theorem ac_irem {K : AbK} {kc ks : Nat} {cc : ByteArray} {own : String} {rm : Room} (C : Cx K cc own rm) {S : List AbS} {pc : Nat} {lv st : List AbV} {M : AbM} {x y : Int} (hd : decode cc pc = .ok (.irem, 1)) (h0 : 0 ≤ x) (h1 : 0 < y) (h : AJc K kc ks S (pc + 1) lv (vI (x % y) :: st) M) : AJc K kc ks S pc lv (vI y :: vI x :: st) M := by
  obtain ⟨p, l, e, R, s, m, args, below, meth, c, Q, D, cA, A, ads, nL⟩ := K
  obtain ⟨hx, hb, hml, hown, hts, hlk, hK, hA, hR, hX⟩ := C
  intro H locs ls hP hD hO hS hL hl hs
  obtain ⟨hy, hs⟩ := List.forall_mem_cons.mp hs
  obtain ⟨hx2, hs⟩ := List.forall_mem_cons.mp hs
  have hq : 0 ≤ x % y := Int.emod_nonneg x (by omega)
  have hq2 : x % y < y := Int.emod_lt_of_pos x h1
  have hr : inI (x % y) := ⟨by omega, by have := hy.2; omega⟩
  have h2 := h H locs ls hP hD hO hS hL hl (ab_c hr hs)
  refine lv_irem (x := Int32.ofInt x) (y := Int32.ofInt y) hx hb hd (fun z => ?_) ?_
  · have := (ab_eq hy (by decide)).mp (z.trans (by decide : (0 : Int32) = Int32.ofInt 0))
    omega
  · rw [ab_rem hx2 hy h0 h1]
    exact h2
theorem ac_iremT {K : AbK} {kc ks : Nat} {cc : ByteArray} {own : String} {rm : Room} (C : Cx K cc own rm) {S : List AbS} {pc : Nat} {lv st : List AbV} {M : AbM} {x y : Int} (hd : decode cc pc = .ok (.irem, 1)) (h1 : 2 ≤ y) (h : AJc K kc ks S (pc + 1) lv (vI (x.tmod y) :: st) M) : AJc K kc ks S pc lv (vI y :: vI x :: st) M := by
  obtain ⟨p, l, e, R, s, m, args, below, meth, c, Q, D, cA, A, ads, nL⟩ := K
  obtain ⟨hx, hb, hml, hown, hts, hlk, hK, hA, hR, hX⟩ := C
  intro H locs ls hP hD hO hS hL hl hs
  obtain ⟨hy, hs⟩ := List.forall_mem_cons.mp hs
  obtain ⟨hx2, hs⟩ := List.forall_mem_cons.mp hs
  obtain ⟨hq2, hq⟩ := ab_tmodB (x := x) (show 0 < y by omega)
  have hr : inI (x.tmod y) := ⟨by have := hy.2; omega, by have := hy.2; omega⟩
  have h2 := h H locs ls hP hD hO hS hL hl (ab_c hr hs)
  refine lv_irem (x := Int32.ofInt x) (y := Int32.ofInt y) hx hb hd (fun z => ?_) ?_
  · have := (ab_eq hy (by decide)).mp (z.trans (by decide : (0 : Int32) = Int32.ofInt 0))
    omega
  · rw [ab_trem hx2 hy h1]
    exact h2
theorem ac_lremT {K : AbK} {kc ks : Nat} {cc : ByteArray} {own : String} {rm : Room} (C : Cx K cc own rm) {S : List AbS} {pc : Nat} {lv st : List AbV} {M : AbM} {x y : Int} (hd : decode cc pc = .ok (.lrem, 1)) (h1 : 2 ≤ y) (h : AJc K kc ks S (pc + 1) lv (vL (x.tmod y) :: st) M) : AJc K kc ks S pc lv (vL y :: vL x :: st) M := by
  obtain ⟨p, l, e, R, s, m, args, below, meth, c, Q, D, cA, A, ads, nL⟩ := K
  obtain ⟨hx, hb, hml, hown, hts, hlk, hK, hA, hR, hX⟩ := C
  intro H locs ls hP hD hO hS hL hl hs
  obtain ⟨hy, hs⟩ := List.forall_mem_cons.mp hs
  obtain ⟨hx2, hs⟩ := List.forall_mem_cons.mp hs
  obtain ⟨hq2, hq⟩ := ab_tmodB (x := x) (show 0 < y by omega)
  have hr : inL (x.tmod y) := ⟨by have := hy.2; omega, by have := hy.2; omega⟩
  have h2 := h H locs ls hP hD hO hS hL hl (ab_c hr hs)
  refine lv_lrem (x := Int64.ofInt x) (y := Int64.ofInt y) hx hb hd (fun z => ?_) ?_
  · have := (ab_eq64 hy (by decide)).mp (z.trans (by decide : (0 : Int64) = Int64.ofInt 0))
    omega
  · rw [ab_trem64 hx2 hy h1]
    exact h2
theorem ac_iand {K : AbK} {kc ks : Nat} {cc : ByteArray} {own : String} {rm : Room} (C : Cx K cc own rm) {S : List AbS} {pc : Nat} {lv st : List AbV} {M : AbM} {x y z : Int} (hd : decode cc pc = .ok (.iand, 1)) (hr : inI z) (he : Int32.ofInt x &&& Int32.ofInt y = Int32.ofInt z) (h : AJc K kc ks S (pc + 1) lv (vI z :: st) M) : AJc K kc ks S pc lv (vI y :: vI x :: st) M := by
  obtain ⟨p, l, e, R, s, m, args, below, meth, c, Q, D, cA, A, ads, nL⟩ := K
  obtain ⟨hx, hb, hml, hown, hts, hlk, hK, hA, hR, hX⟩ := C
  intro H locs ls hP hD hO hS hL hl hs
  have h1 := h H locs ls hP hD hO hS hL hl (ab_c hr (List.forall_mem_cons.mp (List.forall_mem_cons.mp hs).2).2)
  refine lv_iand (x := Int32.ofInt x) (y := Int32.ofInt y) hx hb hd ?_
  rw [he]
  exact h1
theorem ac_ishl {K : AbK} {kc ks : Nat} {cc : ByteArray} {own : String} {rm : Room} (C : Cx K cc own rm) {S : List AbS} {pc : Nat} {lv st : List AbV} {M : AbM} {x y z : Int} (hd : decode cc pc = .ok (.ishl, 1)) (hr : inI z) (he : Int32.ofInt x <<< (Int32.ofInt y &&& 31) = Int32.ofInt z) (h : AJc K kc ks S (pc + 1) lv (vI z :: st) M) : AJc K kc ks S pc lv (vI y :: vI x :: st) M := by
  obtain ⟨p, l, e, R, s, m, args, below, meth, c, Q, D, cA, A, ads, nL⟩ := K
  obtain ⟨hx, hb, hml, hown, hts, hlk, hK, hA, hR, hX⟩ := C
  intro H locs ls hP hD hO hS hL hl hs
  have h1 := h H locs ls hP hD hO hS hL hl (ab_c hr (List.forall_mem_cons.mp (List.forall_mem_cons.mp hs).2).2)
  refine lv_ishl (x := Int32.ofInt x) (y := Int32.ofInt y) hx hb hd ?_
  rw [he]
  exact h1
theorem ac_ishr {K : AbK} {kc ks : Nat} {cc : ByteArray} {own : String} {rm : Room} (C : Cx K cc own rm) {S : List AbS} {pc : Nat} {lv st : List AbV} {M : AbM} {x y z : Int} (hd : decode cc pc = .ok (.ishr, 1)) (hr : inI z) (he : Int32.ofInt x >>> (Int32.ofInt y &&& 31) = Int32.ofInt z) (h : AJc K kc ks S (pc + 1) lv (vI z :: st) M) : AJc K kc ks S pc lv (vI y :: vI x :: st) M := by
  obtain ⟨p, l, e, R, s, m, args, below, meth, c, Q, D, cA, A, ads, nL⟩ := K
  obtain ⟨hx, hb, hml, hown, hts, hlk, hK, hA, hR, hX⟩ := C
  intro H locs ls hP hD hO hS hL hl hs
  have h1 := h H locs ls hP hD hO hS hL hl (ab_c hr (List.forall_mem_cons.mp (List.forall_mem_cons.mp hs).2).2)
  refine lv_ishr (x := Int32.ofInt x) (y := Int32.ofInt y) hx hb hd ?_
  rw [he]
  exact h1
theorem ac_land {K : AbK} {kc ks : Nat} {cc : ByteArray} {own : String} {rm : Room} (C : Cx K cc own rm) {S : List AbS} {pc : Nat} {lv st : List AbV} {M : AbM} {x y z : Int} (hd : decode cc pc = .ok (.land, 1)) (hr : inL z) (he : Int64.ofInt x &&& Int64.ofInt y = Int64.ofInt z) (h : AJc K kc ks S (pc + 1) lv (vL z :: st) M) : AJc K kc ks S pc lv (vL y :: vL x :: st) M := by
  obtain ⟨p, l, e, R, s, m, args, below, meth, c, Q, D, cA, A, ads, nL⟩ := K
  obtain ⟨hx, hb, hml, hown, hts, hlk, hK, hA, hR, hX⟩ := C
  intro H locs ls hP hD hO hS hL hl hs
  have h1 := h H locs ls hP hD hO hS hL hl (ab_c hr (List.forall_mem_cons.mp (List.forall_mem_cons.mp hs).2).2)
  refine lv_land (x := Int64.ofInt x) (y := Int64.ofInt y) hx hb hd ?_
  rw [he]
  exact h1
theorem ac_lor {K : AbK} {kc ks : Nat} {cc : ByteArray} {own : String} {rm : Room} (C : Cx K cc own rm) {S : List AbS} {pc : Nat} {lv st : List AbV} {M : AbM} {x y z : Int} (hd : decode cc pc = .ok (.lor, 1)) (hr : inL z) (he : Int64.ofInt x ||| Int64.ofInt y = Int64.ofInt z) (h : AJc K kc ks S (pc + 1) lv (vL z :: st) M) : AJc K kc ks S pc lv (vL y :: vL x :: st) M := by
  obtain ⟨p, l, e, R, s, m, args, below, meth, c, Q, D, cA, A, ads, nL⟩ := K
  obtain ⟨hx, hb, hml, hown, hts, hlk, hK, hA, hR, hX⟩ := C
  intro H locs ls hP hD hO hS hL hl hs
  have h1 := h H locs ls hP hD hO hS hL hl (ab_c hr (List.forall_mem_cons.mp (List.forall_mem_cons.mp hs).2).2)
  refine lv_lor (x := Int64.ofInt x) (y := Int64.ofInt y) hx hb hd ?_
  rw [he]
  exact h1
theorem ac_lushr {K : AbK} {kc ks : Nat} {cc : ByteArray} {own : String} {rm : Room} (C : Cx K cc own rm) {S : List AbS} {pc : Nat} {lv st : List AbV} {M : AbM} {x y z : Int} (hd : decode cc pc = .ok (.lushr, 1)) (hr : inL z) (he : ((Int64.ofInt x).toUInt64 >>> ((Int32.ofInt y).toInt64.toUInt64 &&& Int64.toUInt64 63)).toInt64 = Int64.ofInt z) (h : AJc K kc ks S (pc + 1) lv (vL z :: st) M) : AJc K kc ks S pc lv (vI y :: vL x :: st) M := by
  obtain ⟨p, l, e, R, s, m, args, below, meth, c, Q, D, cA, A, ads, nL⟩ := K
  obtain ⟨hx, hb, hml, hown, hts, hlk, hK, hA, hR, hX⟩ := C
  intro H locs ls hP hD hO hS hL hl hs
  exact lv_lushr hx hb hd he (h H locs ls hP hD hO hS hL hl (ab_c hr (List.forall_mem_cons.mp (List.forall_mem_cons.mp hs).2).2))
theorem ac_lshl {K : AbK} {kc ks : Nat} {cc : ByteArray} {own : String} {rm : Room} (C : Cx K cc own rm) {S : List AbS} {pc : Nat} {lv st : List AbV} {M : AbM} {x y z : Int} (hd : decode cc pc = .ok (.lshl, 1)) (hr : inL z) (he : Int64.ofInt x <<< ((Int32.ofInt y).toInt64 &&& 63) = Int64.ofInt z) (h : AJc K kc ks S (pc + 1) lv (vL z :: st) M) : AJc K kc ks S pc lv (vI y :: vL x :: st) M := by
  obtain ⟨p, l, e, R, s, m, args, below, meth, c, Q, D, cA, A, ads, nL⟩ := K
  obtain ⟨hx, hb, hml, hown, hts, hlk, hK, hA, hR, hX⟩ := C
  intro H locs ls hP hD hO hS hL hl hs
  exact lv_lshl hx hb hd he (h H locs ls hP hD hO hS hL hl (ab_c hr (List.forall_mem_cons.mp (List.forall_mem_cons.mp hs).2).2))
theorem ac_lshr {K : AbK} {kc ks : Nat} {cc : ByteArray} {own : String} {rm : Room} (C : Cx K cc own rm) {S : List AbS} {pc : Nat} {lv st : List AbV} {M : AbM} {x y z : Int} (hd : decode cc pc = .ok (.lshr, 1)) (hr : inL z) (he : Int64.ofInt x >>> ((Int32.ofInt y).toInt64 &&& 63) = Int64.ofInt z) (h : AJc K kc ks S (pc + 1) lv (vL z :: st) M) : AJc K kc ks S pc lv (vI y :: vL x :: st) M := by
  obtain ⟨p, l, e, R, s, m, args, below, meth, c, Q, D, cA, A, ads, nL⟩ := K
  obtain ⟨hx, hb, hml, hown, hts, hlk, hK, hA, hR, hX⟩ := C
  intro H locs ls hP hD hO hS hL hl hs
  exact lv_lshr hx hb hd he (h H locs ls hP hD hO hS hL hl (ab_c hr (List.forall_mem_cons.mp (List.forall_mem_cons.mp hs).2).2))
theorem ac_i2l {K : AbK} {kc ks : Nat} {cc : ByteArray} {own : String} {rm : Room} (C : Cx K cc own rm) {S : List AbS} {pc : Nat} {lv st : List AbV} {M : AbM} {x : Int} (hd : decode cc pc = .ok (.i2l, 1)) (h : AJc K kc ks S (pc + 1) lv (vL x :: st) M) : AJc K kc ks S pc lv (vI x :: st) M := by
  obtain ⟨p, l, e, R, s, m, args, below, meth, c, Q, D, cA, A, ads, nL⟩ := K
  obtain ⟨hx, hb, hml, hown, hts, hlk, hK, hA, hR, hX⟩ := C
  intro H locs ls hP hD hO hS hL hl hs
  obtain ⟨h1, hs⟩ := List.forall_mem_cons.mp hs
  have h1 : inI x := h1
  refine lv_i2l hx hb hd ?_ (h H locs ls hP hD hO hS hL hl (ab_c (show inL x from ⟨by omega, by omega⟩) hs))
  apply ab_of64
  rw [Int32.toInt_toInt64, ab_i32 h1]
theorem ac_l2i {K : AbK} {kc ks : Nat} {cc : ByteArray} {own : String} {rm : Room} (C : Cx K cc own rm) {S : List AbS} {pc : Nat} {lv st : List AbV} {M : AbM} {x z : Int} (hd : decode cc pc = .ok (.l2i, 1)) (hr : inI z) (he : (Int64.ofInt x).toInt32 = Int32.ofInt z) (h : AJc K kc ks S (pc + 1) lv (vI z :: st) M) : AJc K kc ks S pc lv (vL x :: st) M := by
  obtain ⟨p, l, e, R, s, m, args, below, meth, c, Q, D, cA, A, ads, nL⟩ := K
  obtain ⟨hx, hb, hml, hown, hts, hlk, hK, hA, hR, hX⟩ := C
  intro H locs ls hP hD hO hS hL hl hs
  obtain ⟨h1, hs⟩ := List.forall_mem_cons.mp hs
  exact lv_l2i hx hb hd he (h H locs ls hP hD hO hS hL hl (ab_c hr hs))
theorem ac_l2iS {K : AbK} {kc ks : Nat} {cc : ByteArray} {own : String} {rm : Room} (C : Cx K cc own rm) {S : List AbS} {pc : Nat} {lv st : List AbV} {M : AbM} {x : Int} (hd : decode cc pc = .ok (.l2i, 1)) (hr : inI x) (h : AJc K kc ks S (pc + 1) lv (vI x :: st) M) : AJc K kc ks S pc lv (vL x :: st) M := by
  obtain ⟨p, l, e, R, s, m, args, below, meth, c, Q, D, cA, A, ads, nL⟩ := K
  obtain ⟨hx, hb, hml, hown, hts, hlk, hK, hA, hR, hX⟩ := C
  intro H locs ls hP hD hO hS hL hl hs
  obtain ⟨h1, hs⟩ := List.forall_mem_cons.mp hs
  refine lv_l2i hx hb hd ?_ (h H locs ls hP hD hO hS hL hl (ab_c hr hs))
  apply ab_of
  rw [Int64.toInt_toInt32, ab_i64 h1]
  exact Int.bmod_eq_of_le (by have := hr.1; omega) (by have := hr.2; omega)
theorem ac_i2b {K : AbK} {kc ks : Nat} {cc : ByteArray} {own : String} {rm : Room} (C : Cx K cc own rm) {S : List AbS} {pc : Nat} {lv st : List AbV} {M : AbM} {x z : Int} (hd : decode cc pc = .ok (.i2b, 1)) (hr : inI z) (he : (Int32.ofInt x).toInt8.toInt32 = Int32.ofInt z) (h : AJc K kc ks S (pc + 1) lv (vI z :: st) M) : AJc K kc ks S pc lv (vI x :: st) M := by
  obtain ⟨p, l, e, R, s, m, args, below, meth, c, Q, D, cA, A, ads, nL⟩ := K
  obtain ⟨hx, hb, hml, hown, hts, hlk, hK, hA, hR, hX⟩ := C
  intro H locs ls hP hD hO hS hL hl hs
  obtain ⟨h1, hs⟩ := List.forall_mem_cons.mp hs
  exact lv_i2b hx hb hd he (h H locs ls hP hD hO hS hL hl (ab_c hr hs))
theorem ac_lcmp {K : AbK} {kc ks : Nat} {cc : ByteArray} {own : String} {rm : Room} (C : Cx K cc own rm) {S : List AbS} {pc : Nat} {lv st : List AbV} {M : AbM} {x y : Int} (hd : decode cc pc = .ok (.lcmp, 1)) (kg : y < x → AJc K kc ks S (pc + 1) lv (vI 1 :: st) M) (ke : x = y → AJc K kc ks S (pc + 1) lv (vI 0 :: st) M) (kl : x < y → AJc K kc ks S (pc + 1) lv (vI (-1) :: st) M) : AJc K kc ks S pc lv (vL y :: vL x :: st) M := by
  obtain ⟨p, l, e, R, s, m, args, below, meth, c, Q, D, cA, A, ads, nL⟩ := K
  obtain ⟨hx, hb, hml, hown, hts, hlk, hK, hA, hR, hX⟩ := C
  intro H locs ls hP hD hO hS hL hl hs
  obtain ⟨hy, hs⟩ := List.forall_mem_cons.mp hs
  obtain ⟨hx2, hs⟩ := List.forall_mem_cons.mp hs
  refine W.lcmp (x := Int64.ofInt x) (y := Int64.ofInt y) hx hb hd ?_
  have e1 : Int64.ofInt x > Int64.ofInt y ↔ y < x := ab_lt64 hy hx2
  have e2 := ab_eq64 hx2 hy
  rcases Int.lt_trichotomy x y with h | h | h
  · have e : lg_cmp (Int64.ofInt x) (Int64.ofInt y) = Int32.ofInt (-1) := by
      unfold lg_cmp
      rw [if_neg (fun z => by have := e1.mp z; omega), if_neg (fun z => by have := e2.mp z; omega)]
      rfl
    rw [e]
    exact kl h H locs ls hP hD hO hS hL hl (ab_c (show inI (-1) by decide) hs)
  · have e : lg_cmp (Int64.ofInt x) (Int64.ofInt y) = Int32.ofInt 0 := by
      unfold lg_cmp
      rw [if_neg (fun z => by have := e1.mp z; omega), if_pos (e2.mpr h)]
      rfl
    rw [e]
    exact ke h H locs ls hP hD hO hS hL hl (ab_c (show inI 0 by decide) hs)
  · have e : lg_cmp (Int64.ofInt x) (Int64.ofInt y) = Int32.ofInt 1 := by
      unfold lg_cmp
      rw [if_pos (e1.mpr h)]
      rfl
    rw [e]
    exact kg h H locs ls hP hD hO hS hL hl (ab_c (show inI 1 by decide) hs)
theorem ac_dup {K : AbK} {kc ks : Nat} {cc : ByteArray} {own : String} {rm : Room} (C : Cx K cc own rm) {S : List AbS} {pc : Nat} {lv st : List AbV} {M : AbM} {v : AbV} (hd : decode cc pc = .ok (.dup, 1)) (hc : ab_cat v = 1) (h : AJc K kc ks S (pc + 1) lv (v :: v :: st) M) : AJc K kc ks S pc lv (v :: st) M := by
  obtain ⟨p, l, e, R, s, m, args, below, meth, c, Q, D, cA, A, ads, nL⟩ := K
  obtain ⟨hx, hb, hml, hown, hts, hlk, hK, hA, hR, hX⟩ := C
  intro H locs ls hP hD hO hS hL hl hs
  obtain ⟨h1, h2⟩ := List.forall_mem_cons.mp hs
  exact lv_dup hx hb hd (ab_vcat hc) (h H locs ls hP hD hO hS hL hl (ab_c h1 hs))
theorem ac_dup2 {K : AbK} {kc ks : Nat} {cc : ByteArray} {own : String} {rm : Room} (C : Cx K cc own rm) {S : List AbS} {pc : Nat} {lv st : List AbV} {M : AbM} {v w : AbV} (hd : decode cc pc = .ok (.dup2, 1)) (hc : ab_cat v = 1) (hc2 : ab_cat w = 1) (h : AJc K kc ks S (pc + 1) lv (v :: w :: v :: w :: st) M) : AJc K kc ks S pc lv (v :: w :: st) M := by
  obtain ⟨p, l, e, R, s, m, args, below, meth, c, Q, D, cA, A, ads, nL⟩ := K
  obtain ⟨hx, hb, hml, hown, hts, hlk, hK, hA, hR, hX⟩ := C
  intro H locs ls hP hD hO hS hL hl hs
  obtain ⟨h1, h2⟩ := List.forall_mem_cons.mp hs
  obtain ⟨h3, h4⟩ := List.forall_mem_cons.mp h2
  exact lv_dup2_11 hx hb hd (ab_vcat hc) (ab_vcat hc2) (h H locs ls hP hD hO hS hL hl (ab_c h1 (ab_c h3 hs)))
theorem ac_goto {K : AbK} {kc ks : Nat} {cc : ByteArray} {own : String} {rm : Room} (C : Cx K cc own rm) {S : List AbS} {pc : Nat} {lv st : List AbV} {M : AbM} {off : Int} {tgt : Nat} (hd : decode cc pc = .ok (.goto off, 3)) (ht : (pc : Int) + off = (tgt : Int)) (h : AJc K kc ks S tgt lv st M) : AJc K kc ks S pc lv st M := by
  obtain ⟨p, l, e, R, s, m, args, below, meth, c, Q, D, cA, A, ads, nL⟩ := K
  obtain ⟨hx, hb, hml, hown, hts, hlk, hK, hA, hR, hX⟩ := C
  intro H locs ls hP hD hO hS hL hl hs
  exact lv_goto hx hb hd ht (h H locs ls hP hD hO hS hL hl hs)
theorem ac_icmp_eq {K : AbK} {kc ks : Nat} {cc : ByteArray} {own : String} {rm : Room} (C : Cx K cc own rm) {S : List AbS} {pc : Nat} {lv st : List AbV} {M : AbM} {x y off : Int} {tgt : Nat} (hd : decode cc pc = .ok (.if_icmp .eq off, 3)) (ht : (pc : Int) + off = (tgt : Int)) (kt : x = y → AJc K kc ks S tgt lv st M) (kf : x ≠ y → AJc K kc ks S (pc + 3) lv st M) : AJc K kc ks S pc lv (vI y :: vI x :: st) M := by
  obtain ⟨p, l, e, R, s, m, args, below, meth, c, Q, D, cA, A, ads, nL⟩ := K
  obtain ⟨hx, hb, hml, hown, hts, hlk, hK, hA, hR, hX⟩ := C
  intro H locs ls hP hD hO hS hL hl hs
  obtain ⟨hy, hs⟩ := List.forall_mem_cons.mp hs
  obtain ⟨hx2, hs⟩ := List.forall_mem_cons.mp hs
  exact lv_icmp_eq (x := Int32.ofInt x) (y := Int32.ofInt y) hx hb hd ht (fun z => kt ((ab_eq hx2 hy).mp z) H locs ls hP hD hO hS hL hl hs) (fun z => kf (fun q => z ((ab_eq hx2 hy).mpr q)) H locs ls hP hD hO hS hL hl hs)
theorem ac_if_eq {K : AbK} {kc ks : Nat} {cc : ByteArray} {own : String} {rm : Room} (C : Cx K cc own rm) {S : List AbS} {pc : Nat} {lv st : List AbV} {M : AbM} {x off : Int} {tgt : Nat} (hd : decode cc pc = .ok (.ifCond .eq off, 3)) (ht : (pc : Int) + off = (tgt : Int)) (kt : x = 0 → AJc K kc ks S tgt lv st M) (kf : x ≠ 0 → AJc K kc ks S (pc + 3) lv st M) : AJc K kc ks S pc lv (vI x :: st) M := by
  obtain ⟨p, l, e, R, s, m, args, below, meth, c, Q, D, cA, A, ads, nL⟩ := K
  obtain ⟨hx, hb, hml, hown, hts, hlk, hK, hA, hR, hX⟩ := C
  intro H locs ls hP hD hO hS hL hl hs
  obtain ⟨hx2, hs⟩ := List.forall_mem_cons.mp hs
  have hy : inI 0 := by decide
  exact lv_if_eq (x := Int32.ofInt x) hx hb hd ht (fun z => kt ((ab_eq hx2 hy).mp z) H locs ls hP hD hO hS hL hl hs) (fun z => kf (fun q => z ((ab_eq hx2 hy).mpr q)) H locs ls hP hD hO hS hL hl hs)
theorem ac_icmp_ne {K : AbK} {kc ks : Nat} {cc : ByteArray} {own : String} {rm : Room} (C : Cx K cc own rm) {S : List AbS} {pc : Nat} {lv st : List AbV} {M : AbM} {x y off : Int} {tgt : Nat} (hd : decode cc pc = .ok (.if_icmp .ne off, 3)) (ht : (pc : Int) + off = (tgt : Int)) (kt : x ≠ y → AJc K kc ks S tgt lv st M) (kf : x = y → AJc K kc ks S (pc + 3) lv st M) : AJc K kc ks S pc lv (vI y :: vI x :: st) M := by
  obtain ⟨p, l, e, R, s, m, args, below, meth, c, Q, D, cA, A, ads, nL⟩ := K
  obtain ⟨hx, hb, hml, hown, hts, hlk, hK, hA, hR, hX⟩ := C
  intro H locs ls hP hD hO hS hL hl hs
  obtain ⟨hy, hs⟩ := List.forall_mem_cons.mp hs
  obtain ⟨hx2, hs⟩ := List.forall_mem_cons.mp hs
  exact lv_icmp_ne (x := Int32.ofInt x) (y := Int32.ofInt y) hx hb hd ht (fun z => kt (fun q => z ((ab_eq hx2 hy).mpr q)) H locs ls hP hD hO hS hL hl hs) (fun z => kf ((ab_eq hx2 hy).mp z) H locs ls hP hD hO hS hL hl hs)
theorem ac_if_ne {K : AbK} {kc ks : Nat} {cc : ByteArray} {own : String} {rm : Room} (C : Cx K cc own rm) {S : List AbS} {pc : Nat} {lv st : List AbV} {M : AbM} {x off : Int} {tgt : Nat} (hd : decode cc pc = .ok (.ifCond .ne off, 3)) (ht : (pc : Int) + off = (tgt : Int)) (kt : x ≠ 0 → AJc K kc ks S tgt lv st M) (kf : x = 0 → AJc K kc ks S (pc + 3) lv st M) : AJc K kc ks S pc lv (vI x :: st) M := by
  obtain ⟨p, l, e, R, s, m, args, below, meth, c, Q, D, cA, A, ads, nL⟩ := K
  obtain ⟨hx, hb, hml, hown, hts, hlk, hK, hA, hR, hX⟩ := C
  intro H locs ls hP hD hO hS hL hl hs
  obtain ⟨hx2, hs⟩ := List.forall_mem_cons.mp hs
  have hy : inI 0 := by decide
  exact lv_if_ne (x := Int32.ofInt x) hx hb hd ht (fun z => kt (fun q => z ((ab_eq hx2 hy).mpr q)) H locs ls hP hD hO hS hL hl hs) (fun z => kf ((ab_eq hx2 hy).mp z) H locs ls hP hD hO hS hL hl hs)
theorem ac_icmp_lt {K : AbK} {kc ks : Nat} {cc : ByteArray} {own : String} {rm : Room} (C : Cx K cc own rm) {S : List AbS} {pc : Nat} {lv st : List AbV} {M : AbM} {x y off : Int} {tgt : Nat} (hd : decode cc pc = .ok (.if_icmp .lt off, 3)) (ht : (pc : Int) + off = (tgt : Int)) (kt : x < y → AJc K kc ks S tgt lv st M) (kf : y ≤ x → AJc K kc ks S (pc + 3) lv st M) : AJc K kc ks S pc lv (vI y :: vI x :: st) M := by
  obtain ⟨p, l, e, R, s, m, args, below, meth, c, Q, D, cA, A, ads, nL⟩ := K
  obtain ⟨hx, hb, hml, hown, hts, hlk, hK, hA, hR, hX⟩ := C
  intro H locs ls hP hD hO hS hL hl hs
  obtain ⟨hy, hs⟩ := List.forall_mem_cons.mp hs
  obtain ⟨hx2, hs⟩ := List.forall_mem_cons.mp hs
  exact lv_icmp_lt (x := Int32.ofInt x) (y := Int32.ofInt y) hx hb hd ht (fun z => kt ((ab_lt hx2 hy).mp z) H locs ls hP hD hO hS hL hl hs) (fun z => kf (Int.not_lt.mp (fun q => z ((ab_lt hx2 hy).mpr q))) H locs ls hP hD hO hS hL hl hs)
theorem ac_if_lt {K : AbK} {kc ks : Nat} {cc : ByteArray} {own : String} {rm : Room} (C : Cx K cc own rm) {S : List AbS} {pc : Nat} {lv st : List AbV} {M : AbM} {x off : Int} {tgt : Nat} (hd : decode cc pc = .ok (.ifCond .lt off, 3)) (ht : (pc : Int) + off = (tgt : Int)) (kt : x < 0 → AJc K kc ks S tgt lv st M) (kf : 0 ≤ x → AJc K kc ks S (pc + 3) lv st M) : AJc K kc ks S pc lv (vI x :: st) M := by
  obtain ⟨p, l, e, R, s, m, args, below, meth, c, Q, D, cA, A, ads, nL⟩ := K
  obtain ⟨hx, hb, hml, hown, hts, hlk, hK, hA, hR, hX⟩ := C
  intro H locs ls hP hD hO hS hL hl hs
  obtain ⟨hx2, hs⟩ := List.forall_mem_cons.mp hs
  have hy : inI 0 := by decide
  exact lv_if_lt (x := Int32.ofInt x) hx hb hd ht (fun z => kt ((ab_lt hx2 hy).mp z) H locs ls hP hD hO hS hL hl hs) (fun z => kf (Int.not_lt.mp (fun q => z ((ab_lt hx2 hy).mpr q))) H locs ls hP hD hO hS hL hl hs)
theorem ac_icmp_ge {K : AbK} {kc ks : Nat} {cc : ByteArray} {own : String} {rm : Room} (C : Cx K cc own rm) {S : List AbS} {pc : Nat} {lv st : List AbV} {M : AbM} {x y off : Int} {tgt : Nat} (hd : decode cc pc = .ok (.if_icmp .ge off, 3)) (ht : (pc : Int) + off = (tgt : Int)) (kt : y ≤ x → AJc K kc ks S tgt lv st M) (kf : x < y → AJc K kc ks S (pc + 3) lv st M) : AJc K kc ks S pc lv (vI y :: vI x :: st) M := by
  obtain ⟨p, l, e, R, s, m, args, below, meth, c, Q, D, cA, A, ads, nL⟩ := K
  obtain ⟨hx, hb, hml, hown, hts, hlk, hK, hA, hR, hX⟩ := C
  intro H locs ls hP hD hO hS hL hl hs
  obtain ⟨hy, hs⟩ := List.forall_mem_cons.mp hs
  obtain ⟨hx2, hs⟩ := List.forall_mem_cons.mp hs
  exact lv_icmp_ge (x := Int32.ofInt x) (y := Int32.ofInt y) hx hb hd ht (fun z => kt ((ab_le hy hx2).mp z) H locs ls hP hD hO hS hL hl hs) (fun z => kf (Int.not_le.mp (fun q => z ((ab_le hy hx2).mpr q))) H locs ls hP hD hO hS hL hl hs)
theorem ac_if_ge {K : AbK} {kc ks : Nat} {cc : ByteArray} {own : String} {rm : Room} (C : Cx K cc own rm) {S : List AbS} {pc : Nat} {lv st : List AbV} {M : AbM} {x off : Int} {tgt : Nat} (hd : decode cc pc = .ok (.ifCond .ge off, 3)) (ht : (pc : Int) + off = (tgt : Int)) (kt : 0 ≤ x → AJc K kc ks S tgt lv st M) (kf : x < 0 → AJc K kc ks S (pc + 3) lv st M) : AJc K kc ks S pc lv (vI x :: st) M := by
  obtain ⟨p, l, e, R, s, m, args, below, meth, c, Q, D, cA, A, ads, nL⟩ := K
  obtain ⟨hx, hb, hml, hown, hts, hlk, hK, hA, hR, hX⟩ := C
  intro H locs ls hP hD hO hS hL hl hs
  obtain ⟨hx2, hs⟩ := List.forall_mem_cons.mp hs
  have hy : inI 0 := by decide
  exact lv_if_ge (x := Int32.ofInt x) hx hb hd ht (fun z => kt ((ab_le hy hx2).mp z) H locs ls hP hD hO hS hL hl hs) (fun z => kf (Int.not_le.mp (fun q => z ((ab_le hy hx2).mpr q))) H locs ls hP hD hO hS hL hl hs)
theorem ac_icmp_gt {K : AbK} {kc ks : Nat} {cc : ByteArray} {own : String} {rm : Room} (C : Cx K cc own rm) {S : List AbS} {pc : Nat} {lv st : List AbV} {M : AbM} {x y off : Int} {tgt : Nat} (hd : decode cc pc = .ok (.if_icmp .gt off, 3)) (ht : (pc : Int) + off = (tgt : Int)) (kt : y < x → AJc K kc ks S tgt lv st M) (kf : x ≤ y → AJc K kc ks S (pc + 3) lv st M) : AJc K kc ks S pc lv (vI y :: vI x :: st) M := by
  obtain ⟨p, l, e, R, s, m, args, below, meth, c, Q, D, cA, A, ads, nL⟩ := K
  obtain ⟨hx, hb, hml, hown, hts, hlk, hK, hA, hR, hX⟩ := C
  intro H locs ls hP hD hO hS hL hl hs
  obtain ⟨hy, hs⟩ := List.forall_mem_cons.mp hs
  obtain ⟨hx2, hs⟩ := List.forall_mem_cons.mp hs
  exact lv_icmp_gt (x := Int32.ofInt x) (y := Int32.ofInt y) hx hb hd ht (fun z => kt ((ab_lt hy hx2).mp z) H locs ls hP hD hO hS hL hl hs) (fun z => kf (Int.not_lt.mp (fun q => z ((ab_lt hy hx2).mpr q))) H locs ls hP hD hO hS hL hl hs)
theorem ac_if_gt {K : AbK} {kc ks : Nat} {cc : ByteArray} {own : String} {rm : Room} (C : Cx K cc own rm) {S : List AbS} {pc : Nat} {lv st : List AbV} {M : AbM} {x off : Int} {tgt : Nat} (hd : decode cc pc = .ok (.ifCond .gt off, 3)) (ht : (pc : Int) + off = (tgt : Int)) (kt : 0 < x → AJc K kc ks S tgt lv st M) (kf : x ≤ 0 → AJc K kc ks S (pc + 3) lv st M) : AJc K kc ks S pc lv (vI x :: st) M := by
  obtain ⟨p, l, e, R, s, m, args, below, meth, c, Q, D, cA, A, ads, nL⟩ := K
  obtain ⟨hx, hb, hml, hown, hts, hlk, hK, hA, hR, hX⟩ := C
  intro H locs ls hP hD hO hS hL hl hs
  obtain ⟨hx2, hs⟩ := List.forall_mem_cons.mp hs
  have hy : inI 0 := by decide
  exact lv_if_gt (x := Int32.ofInt x) hx hb hd ht (fun z => kt ((ab_lt hy hx2).mp z) H locs ls hP hD hO hS hL hl hs) (fun z => kf (Int.not_lt.mp (fun q => z ((ab_lt hy hx2).mpr q))) H locs ls hP hD hO hS hL hl hs)
theorem ac_icmp_le {K : AbK} {kc ks : Nat} {cc : ByteArray} {own : String} {rm : Room} (C : Cx K cc own rm) {S : List AbS} {pc : Nat} {lv st : List AbV} {M : AbM} {x y off : Int} {tgt : Nat} (hd : decode cc pc = .ok (.if_icmp .le off, 3)) (ht : (pc : Int) + off = (tgt : Int)) (kt : x ≤ y → AJc K kc ks S tgt lv st M) (kf : y < x → AJc K kc ks S (pc + 3) lv st M) : AJc K kc ks S pc lv (vI y :: vI x :: st) M := by
  obtain ⟨p, l, e, R, s, m, args, below, meth, c, Q, D, cA, A, ads, nL⟩ := K
  obtain ⟨hx, hb, hml, hown, hts, hlk, hK, hA, hR, hX⟩ := C
  intro H locs ls hP hD hO hS hL hl hs
  obtain ⟨hy, hs⟩ := List.forall_mem_cons.mp hs
  obtain ⟨hx2, hs⟩ := List.forall_mem_cons.mp hs
  exact lv_icmp_le (x := Int32.ofInt x) (y := Int32.ofInt y) hx hb hd ht (fun z => kt ((ab_le hx2 hy).mp z) H locs ls hP hD hO hS hL hl hs) (fun z => kf (Int.not_le.mp (fun q => z ((ab_le hx2 hy).mpr q))) H locs ls hP hD hO hS hL hl hs)
theorem ac_if_le {K : AbK} {kc ks : Nat} {cc : ByteArray} {own : String} {rm : Room} (C : Cx K cc own rm) {S : List AbS} {pc : Nat} {lv st : List AbV} {M : AbM} {x off : Int} {tgt : Nat} (hd : decode cc pc = .ok (.ifCond .le off, 3)) (ht : (pc : Int) + off = (tgt : Int)) (kt : x ≤ 0 → AJc K kc ks S tgt lv st M) (kf : 0 < x → AJc K kc ks S (pc + 3) lv st M) : AJc K kc ks S pc lv (vI x :: st) M := by
  obtain ⟨p, l, e, R, s, m, args, below, meth, c, Q, D, cA, A, ads, nL⟩ := K
  obtain ⟨hx, hb, hml, hown, hts, hlk, hK, hA, hR, hX⟩ := C
  intro H locs ls hP hD hO hS hL hl hs
  obtain ⟨hx2, hs⟩ := List.forall_mem_cons.mp hs
  have hy : inI 0 := by decide
  exact lv_if_le (x := Int32.ofInt x) hx hb hd ht (fun z => kt ((ab_le hx2 hy).mp z) H locs ls hP hD hO hS hL hl hs) (fun z => kf (Int.not_le.mp (fun q => z ((ab_le hx2 hy).mpr q))) H locs ls hP hD hO hS hL hl hs)
theorem ac_tableOut {K : AbK} {kc ks : Nat} {cc : ByteArray} {own : String} {rm : Room} (C : Cx K cc own rm) {S : List AbS} {pc : Nat} {lv st : List AbV} {M : AbM} {dflt lo hi x : Int} {offs : Array Int} {len tgt : Nat} (hd : decode cc pc = .ok (.tableswitch dflt lo hi offs, len)) (hq : x < lo ∨ hi < x) (ht : (pc : Int) + dflt = (tgt : Int)) (h : AJc K kc ks S tgt lv st M) : AJc K kc ks S pc lv (vI x :: st) M := by
  obtain ⟨p, l, e, R, s, m, args, below, meth, c, Q, D, cA, A, ads, nL⟩ := K
  obtain ⟨hx, hb, hml, hown, hts, hlk, hK, hA, hR, hX⟩ := C
  intro H locs ls hP hD hO hS hL hl hs
  obtain ⟨hx2, hs⟩ := List.forall_mem_cons.mp hs
  exact lv_tableOut (x := Int32.ofInt x) hx hb hd (by rw [ab_i32 hx2]; exact hq) ht (h H locs ls hP hD hO hS hL hl hs)
theorem ac_tableIn {K : AbK} {kc ks : Nat} {cc : ByteArray} {own : String} {rm : Room} (C : Cx K cc own rm) {S : List AbS} {pc : Nat} {lv st : List AbV} {M : AbM} {dflt lo hi x off : Int} {offs : Array Int} {len tgt : Nat} (hd : decode cc pc = .ok (.tableswitch dflt lo hi offs, len)) (h1 : lo ≤ x) (h2 : x ≤ hi) (ho : offs[(x - lo).toNat]? = some off) (ht : (pc : Int) + off = (tgt : Int)) (h : AJc K kc ks S tgt lv st M) : AJc K kc ks S pc lv (vI x :: st) M := by
  obtain ⟨p, l, e, R, s, m, args, below, meth, c, Q, D, cA, A, ads, nL⟩ := K
  obtain ⟨hx, hb, hml, hown, hts, hlk, hK, hA, hR, hX⟩ := C
  intro H locs ls hP hD hO hS hL hl hs
  obtain ⟨hx2, hs⟩ := List.forall_mem_cons.mp hs
  exact lv_tableIn (x := Int32.ofInt x) hx hb hd (by rw [ab_i32 hx2]; omega) (by rw [ab_i32 hx2]; omega) (by rw [ab_i32 hx2]; exact ho) ht (h H locs ls hP hD hO hS hL hl hs)
theorem ac_getI {K : AbK} {kc ks : Nat} {cc : ByteArray} {own : String} {rm : Room} (C : Cx K cc own rm) {S : List AbS} {pc : Nat} {lv st : List AbV} {M : AbM} {Cn : String} {T : u_T} {N ci index j k : Nat} {fs : List (Option Nat)} (hin : ∀ w ∈ u_ws Cn T N, w ∈ ab_tb) (hc : vwCl[ci]? = some (Cn, T, N)) (hj : j < N) (hw : ab_gw (.fieldLink own index (T j).1 (T j).2.1 (T j).2.2.1)) {jj : Int} (hjj : (j : Int) = jj) (hk : S[k]? = some (sO ci fs)) (hf : fs[j]? = some none) (hd : decode cc pc = .ok (.getfield index, 3)) (h : AJc K kc ks S (pc + 3) lv (vI (M k jj) :: st) M) : AJc K kc ks S pc lv (vP k :: st) M := by
  obtain ⟨p, l, e, R, s, m, args, below, meth, c, Q, D, cA, A, ads, nL⟩ := K
  obtain ⟨hx, hb, hml, hown, hts, hlk, hK, hA, hR, hX⟩ := C
  intro H locs ls hP hD hO hS hL hl hs
  subst hjj
  obtain ⟨h1, hs⟩ := List.forall_mem_cons.mp hs
  exact va_get (D := D) (C := Cn) (T := T) (N := N) hx hb hts hin hown hK hP k (ab_w_get hk) hc j hj (hts _ (ab_gw_in hw)) (fun _ z => z) (ab_e_get (cA := cA) (ci := ci) hf) hd (h H locs ls hP hD hO hS hL hl (ab_c (ab_okI hO hk _) hs))
theorem ac_getP {K : AbK} {kc ks : Nat} {cc : ByteArray} {own : String} {rm : Room} (C : Cx K cc own rm) {S : List AbS} {pc : Nat} {lv st : List AbV} {M : AbM} {Cn : String} {T : u_T} {N ci index j k : Nat} {fs : List (Option Nat)} (hin : ∀ w ∈ u_ws Cn T N, w ∈ ab_tb) (hc : vwCl[ci]? = some (Cn, T, N)) (hj : j < N) (hw : ab_gw (.fieldLink own index (T j).1 (T j).2.1 (T j).2.2.1)) {q : Nat} (hk : S[k]? = some (sO ci fs)) (hf : fs[j]? = some (some q)) (hd : decode cc pc = .ok (.getfield index, 3)) (h : AJc K kc ks S (pc + 3) lv (vP q :: st) M) : AJc K kc ks S pc lv (vP k :: st) M := by
  obtain ⟨p, l, e, R, s, m, args, below, meth, c, Q, D, cA, A, ads, nL⟩ := K
  obtain ⟨hx, hb, hml, hown, hts, hlk, hK, hA, hR, hX⟩ := C
  intro H locs ls hP hD hO hS hL hl hs
  obtain ⟨h1, hs⟩ := List.forall_mem_cons.mp hs
  exact va_get (D := D) (C := Cn) (T := T) (N := N) hx hb hts hin hown hK hP k (ab_w_get hk) hc j hj (hts _ (ab_gw_in hw)) (fun _ z => z) (ab_e_get (cA := cA) (ci := ci) hf) hd (h H locs ls hP hD hO hS hL hl (ab_c (v := vP q) trivial hs))
theorem ac_putI {K : AbK} {kc ks : Nat} {cc : ByteArray} {own : String} {rm : Room} (C : Cx K cc own rm) {S : List AbS} {pc : Nat} {lv st : List AbV} {M : AbM} {Cn : String} {T : u_T} {N ci index j k : Nat} {fs : List (Option Nat)} (hin : ∀ w ∈ u_ws Cn T N, w ∈ ab_tb) (hc : vwCl[ci]? = some (Cn, T, N)) (hj : j < N) (hw : ab_gw (.fieldLink own index (T j).1 (T j).2.1 (T j).2.2.1)) {ty0 : Nat → FieldType} (hty : ∀ k, k < N → parseFieldDescriptor (T k).2.2.1 = some (ty0 k)) (hnm : ∀ a, a < N → ∀ b, b < N → a ≠ b → (T a).2.1 ≠ (T b).2.1) {jj x : Int} (hjj : (j : Int) = jj) (hfin : (T j).2.2.2 = false) (hdd : parseFieldDescriptor (T j).2.2.1 = some .int) (hk : S[k]? = some (sO ci fs)) (hf : fs[j]? = some none) (hd : decode cc pc = .ok (.putfield index, 3)) (h : AJc K kc ks S (pc + 3) lv st (up M k jj x)) : AJc K kc ks S pc lv (vI x :: vP k :: st) M := by
  obtain ⟨p, l, e, R, s, m, args, below, meth, c, Q, D, cA, A, ads, nL⟩ := K
  obtain ⟨hx, hb, hml, hown, hts, hlk, hK, hA, hR, hX⟩ := C
  intro H locs ls hP hD hO hS hL hl hs
  subst hjj
  obtain ⟨h1, hs⟩ := List.forall_mem_cons.mp hs
  obtain ⟨h2, hs⟩ := List.forall_mem_cons.mp hs
  refine va_put (D := D) (C := Cn) (T := T) (N := N) (ty := .int) (v := .int (Int32.ofInt x)) hx hb hts hin ty0 hty hnm hown hK hP hD hS k (ab_w_get hk) hc j hj (hts _ (ab_gw_in hw)) (fun _ z => z) hfin hdd (vp_nar_int _) rfl (by rw [List.length_mapIdx]; exact (List.getElem?_eq_some_iff.mp hf).1) hd (fun H1 locs1 hP1 hD1 hS1 => ?_)
  rw [ab_w_set hk (ab_e_put hf)] at hP1 hD1
  exact h H1 locs1 ls hP1 hD1 (ab_okM_up hO hk h1) hS1 hL hl hs
theorem ac_putZ {K : AbK} {kc ks : Nat} {cc : ByteArray} {own : String} {rm : Room} (C : Cx K cc own rm) {S : List AbS} {pc : Nat} {lv st : List AbV} {M : AbM} {Cn : String} {T : u_T} {N ci index j k : Nat} {fs : List (Option Nat)} (hin : ∀ w ∈ u_ws Cn T N, w ∈ ab_tb) (hc : vwCl[ci]? = some (Cn, T, N)) (hj : j < N) (hw : ab_gw (.fieldLink own index (T j).1 (T j).2.1 (T j).2.2.1)) {ty0 : Nat → FieldType} (hty : ∀ k, k < N → parseFieldDescriptor (T k).2.2.1 = some (ty0 k)) (hnm : ∀ a, a < N → ∀ b, b < N → a ≠ b → (T a).2.1 ≠ (T b).2.1) {jj x : Int} (hjj : (j : Int) = jj) (hfin : (T j).2.2.2 = false) (hz : x = 0 ∨ x = 1) (hdd : parseFieldDescriptor (T j).2.2.1 = some .boolean) (hk : S[k]? = some (sO ci fs)) (hf : fs[j]? = some none) (hd : decode cc pc = .ok (.putfield index, 3)) (h : AJc K kc ks S (pc + 3) lv st (up M k jj x)) : AJc K kc ks S pc lv (vI x :: vP k :: st) M := by
  obtain ⟨p, l, e, R, s, m, args, below, meth, c, Q, D, cA, A, ads, nL⟩ := K
  obtain ⟨hx, hb, hml, hown, hts, hlk, hK, hA, hR, hX⟩ := C
  intro H locs ls hP hD hO hS hL hl hs
  subst hjj
  obtain ⟨h1, hs⟩ := List.forall_mem_cons.mp hs
  obtain ⟨h2, hs⟩ := List.forall_mem_cons.mp hs
  refine va_put (D := D) (C := Cn) (T := T) (N := N) (ty := .boolean) (v := .int (Int32.ofInt x)) hx hb hts hin ty0 hty hnm hown hK hP hD hS k (ab_w_get hk) hc j hj (hts _ (ab_gw_in hw)) (fun _ z => z) hfin hdd (by rcases hz with rfl | rfl <;> decide +kernel) (by rcases hz with rfl | rfl <;> decide +kernel) (by rw [List.length_mapIdx]; exact (List.getElem?_eq_some_iff.mp hf).1) hd (fun H1 locs1 hP1 hD1 hS1 => ?_)
  rw [ab_w_set hk (ab_e_put hf)] at hP1 hD1
  exact h H1 locs1 ls hP1 hD1 (ab_okM_up hO hk h1) hS1 hL hl hs
theorem ac_iaload {K : AbK} {kc ks : Nat} {cc : ByteArray} {own : String} {rm : Room} (C : Cx K cc own rm) {S : List AbS} {pc : Nat} {lv st : List AbV} {M : AbM} {k n : Nat} {i : Int} (hk : S[k]? = some (sA 0 n)) (h0 : 0 ≤ i) (h1 : i < (n : Int)) (hd : decode cc pc = .ok (.iaload, 1)) (h : AJc K kc ks S (pc + 1) lv (vI (M k i) :: st) M) : AJc K kc ks S pc lv (vI i :: vP k :: st) M := by
  obtain ⟨p, l, e, R, s, m, args, below, meth, c, Q, D, cA, A, ads, nL⟩ := K
  obtain ⟨hx, hb, hml, hown, hts, hlk, hK, hA, hR, hX⟩ := C
  intro H locs ls hP hD hO hS hL hl hs
  obtain ⟨hi, hs⟩ := List.forall_mem_cons.mp hs
  obtain ⟨h2, hs⟩ := List.forall_mem_cons.mp hs
  have hw := ab_w_get (cA := cA) (ads := ads) (M := M) hk
  rw [ab_e_i (by decide)] at hw
  refine va_iald (D := D) hx hb hK hP k 0 hw rfl (ab_in h0 h1 hi) hd ?_
  have h3 := h H locs ls hP hD hO hS hL hl (ab_c (ab_okA hO (by decide) hk _) hs)
  rw [ab_clI h0 hi]
  exact h3
theorem ac_baload {K : AbK} {kc ks : Nat} {cc : ByteArray} {own : String} {rm : Room} (C : Cx K cc own rm) {S : List AbS} {pc : Nat} {lv st : List AbV} {M : AbM} {k n : Nat} {i : Int} (hk : S[k]? = some (sA 1 n)) (h0 : 0 ≤ i) (h1 : i < (n : Int)) (hd : decode cc pc = .ok (.baload, 1)) (h : AJc K kc ks S (pc + 1) lv (vI (M k i) :: st) M) : AJc K kc ks S pc lv (vI i :: vP k :: st) M := by
  obtain ⟨p, l, e, R, s, m, args, below, meth, c, Q, D, cA, A, ads, nL⟩ := K
  obtain ⟨hx, hb, hml, hown, hts, hlk, hK, hA, hR, hX⟩ := C
  intro H locs ls hP hD hO hS hL hl hs
  obtain ⟨hi, hs⟩ := List.forall_mem_cons.mp hs
  obtain ⟨h2, hs⟩ := List.forall_mem_cons.mp hs
  have hw := ab_w_get (cA := cA) (ads := ads) (M := M) hk
  rw [ab_e_i (by decide)] at hw
  refine va_zald (D := D) hx hb hK hP k 1 hw rfl (ab_in h0 h1 hi) hd ?_
  have h3 := h H locs ls hP hD hO hS hL hl (ab_c (ab_okA hO (by decide) hk _) hs)
  rw [ab_clI h0 hi]
  exact h3
theorem ac_laload {K : AbK} {kc ks : Nat} {cc : ByteArray} {own : String} {rm : Room} (C : Cx K cc own rm) {S : List AbS} {pc : Nat} {lv st : List AbV} {M : AbM} {k n : Nat} {i : Int} (hk : S[k]? = some (sA 2 n)) (h0 : 0 ≤ i) (h1 : i < (n : Int)) (hd : decode cc pc = .ok (.laload, 1)) (h : AJc K kc ks S (pc + 1) lv (vL (M k i) :: st) M) : AJc K kc ks S pc lv (vI i :: vP k :: st) M := by
  obtain ⟨p, l, e, R, s, m, args, below, meth, c, Q, D, cA, A, ads, nL⟩ := K
  obtain ⟨hx, hb, hml, hown, hts, hlk, hK, hA, hR, hX⟩ := C
  intro H locs ls hP hD hO hS hL hl hs
  obtain ⟨hi, hs⟩ := List.forall_mem_cons.mp hs
  obtain ⟨h2, hs⟩ := List.forall_mem_cons.mp hs
  have hw := ab_w_get (cA := cA) (ads := ads) (M := M) hk
  rw [ab_e_l] at hw
  refine va_lald (D := D) hx hb hK hP k 2 hw rfl (ab_in h0 h1 hi) hd ?_
  have h3 := h H locs ls hP hD hO hS hL hl (ab_c (show inL (M k i) from ab_okAL hO hk _) hs)
  rw [ab_clI h0 hi]
  exact h3
theorem ac_iastore {K : AbK} {kc ks : Nat} {cc : ByteArray} {own : String} {rm : Room} (C : Cx K cc own rm) {S : List AbS} {pc : Nat} {lv st : List AbV} {M : AbM} {k n : Nat} {i x : Int} (hk : S[k]? = some (sA 0 n)) (h0 : 0 ≤ i) (h1 : i < (n : Int)) (hd : decode cc pc = .ok (.iastore, 1)) (h : AJc K kc ks S (pc + 1) lv st (up M k i x)) : AJc K kc ks S pc lv (vI x :: vI i :: vP k :: st) M := by
  obtain ⟨p, l, e, R, s, m, args, below, meth, c, Q, D, cA, A, ads, nL⟩ := K
  obtain ⟨hx, hb, hml, hown, hts, hlk, hK, hA, hR, hX⟩ := C
  intro H locs ls hP hD hO hS hL hl hs
  obtain ⟨hx2, hs⟩ := List.forall_mem_cons.mp hs
  obtain ⟨hi, hs⟩ := List.forall_mem_cons.mp hs
  obtain ⟨h2, hs⟩ := List.forall_mem_cons.mp hs
  have hw := ab_w_get (cA := cA) (ads := ads) (M := M) hk
  rw [ab_e_i (by decide)] at hw
  refine va_iast (D := D) hx hb hK hP hD hS k 0 hw rfl (ab_in h0 h1 hi) hd (fun H1 locs1 hP1 hD1 hS1 => ?_)
  rw [ab_w_set hk (ab_e_up (by decide) h0 hi)] at hP1 hD1
  exact h H1 locs1 ls hP1 hD1 (ab_okM_up hO hk hx2) hS1 hL hl hs
theorem ac_bastore {K : AbK} {kc ks : Nat} {cc : ByteArray} {own : String} {rm : Room} (C : Cx K cc own rm) {S : List AbS} {pc : Nat} {lv st : List AbV} {M : AbM} {k n : Nat} {i x : Int} (hk : S[k]? = some (sA 1 n)) (h0 : 0 ≤ i) (h1 : i < (n : Int)) (hz : x = 0 ∨ x = 1) (hd : decode cc pc = .ok (.bastore, 1)) (h : AJc K kc ks S (pc + 1) lv st (up M k i x)) : AJc K kc ks S pc lv (vI x :: vI i :: vP k :: st) M := by
  obtain ⟨p, l, e, R, s, m, args, below, meth, c, Q, D, cA, A, ads, nL⟩ := K
  obtain ⟨hx, hb, hml, hown, hts, hlk, hK, hA, hR, hX⟩ := C
  intro H locs ls hP hD hO hS hL hl hs
  obtain ⟨hx2, hs⟩ := List.forall_mem_cons.mp hs
  obtain ⟨hi, hs⟩ := List.forall_mem_cons.mp hs
  obtain ⟨h2, hs⟩ := List.forall_mem_cons.mp hs
  have hw := ab_w_get (cA := cA) (ads := ads) (M := M) hk
  rw [ab_e_i (by decide)] at hw
  have hn : vp_nar .boolean (Int32.ofInt x) = Int32.ofInt x := by rcases hz with rfl | rfl <;> decide +kernel
  refine va_zast (D := D) hx hb hK hP hD hS k 1 hw rfl (ab_in h0 h1 hi) hd (fun H1 locs1 hP1 hD1 hS1 => ?_)
  rw [hn, ab_w_set hk (ab_e_up (by decide) h0 hi)] at hP1 hD1
  exact h H1 locs1 ls hP1 hD1 (ab_okM_up hO hk hx2) hS1 hL hl hs
theorem ac_lastore {K : AbK} {kc ks : Nat} {cc : ByteArray} {own : String} {rm : Room} (C : Cx K cc own rm) {S : List AbS} {pc : Nat} {lv st : List AbV} {M : AbM} {k n : Nat} {i x : Int} (hk : S[k]? = some (sA 2 n)) (h0 : 0 ≤ i) (h1 : i < (n : Int)) (hd : decode cc pc = .ok (.lastore, 1)) (h : AJc K kc ks S (pc + 1) lv st (up M k i x)) : AJc K kc ks S pc lv (vL x :: vI i :: vP k :: st) M := by
  obtain ⟨p, l, e, R, s, m, args, below, meth, c, Q, D, cA, A, ads, nL⟩ := K
  obtain ⟨hx, hb, hml, hown, hts, hlk, hK, hA, hR, hX⟩ := C
  intro H locs ls hP hD hO hS hL hl hs
  obtain ⟨hx2, hs⟩ := List.forall_mem_cons.mp hs
  obtain ⟨hi, hs⟩ := List.forall_mem_cons.mp hs
  obtain ⟨h2, hs⟩ := List.forall_mem_cons.mp hs
  have hw := ab_w_get (cA := cA) (ads := ads) (M := M) hk
  rw [ab_e_l] at hw
  refine va_last (D := D) hx hb hK hP hD hS k 2 hw rfl (ab_in h0 h1 hi) hd (fun H1 locs1 hP1 hD1 hS1 => ?_)
  rw [ab_w_set hk (ab_e_upL h0 hi)] at hP1 hD1
  exact h H1 locs1 ls hP1 hD1 (ab_okM_up hO hk hx2) hS1 hL hl hs
theorem ac_aaload {K : AbK} {kc ks : Nat} {cc : ByteArray} {own : String} {rm : Room} (C : Cx K cc own rm) {S : List AbS} {pc : Nat} {lv st : List AbV} {M : AbM} {k q : Nat} {ps : List Nat} {i : Int} (hk : S[k]? = some (sR ps)) (h0 : 0 ≤ i) (hq : ps[i.toNat]? = some q) (hd : decode cc pc = .ok (.aaload, 1)) (h : AJc K kc ks S (pc + 1) lv (vP q :: st) M) : AJc K kc ks S pc lv (vI i :: vP k :: st) M := by
  obtain ⟨p, l, e, R, s, m, args, below, meth, c, Q, D, cA, A, ads, nL⟩ := K
  obtain ⟨hx, hb, hml, hown, hts, hlk, hK, hA, hR, hX⟩ := C
  intro H locs ls hP hD hO hS hL hl hs
  obtain ⟨hi, hs⟩ := List.forall_mem_cons.mp hs
  obtain ⟨h2, hs⟩ := List.forall_mem_cons.mp hs
  have hw := ab_w_get (cA := cA) (ads := ads) (M := M) hk
  have hlt : i.toNat < ps.length := (List.getElem?_eq_some_iff.mp hq).1
  refine va_aldq (D := D) hx hb hK hP k 3 hw rfl (ab_in h0 (by omega) hi) hd ?_
  have h3 := h H locs ls hP hD hO hS hL hl (ab_c (v := vP q) trivial hs)
  rw [ab_cl h0 hi, hq]
  exact h3
theorem ac_alenI {K : AbK} {kc ks : Nat} {cc : ByteArray} {own : String} {rm : Room} (C : Cx K cc own rm) {S : List AbS} {pc : Nat} {lv st : List AbV} {M : AbM} {k n : Nat} (hk : S[k]? = some (sA 0 n)) (hn : (n : Int) < 2147483648) (hd : decode cc pc = .ok (.arraylength, 1)) (h : AJc K kc ks S (pc + 1) lv (vI (n : Int) :: st) M) : AJc K kc ks S pc lv (vP k :: st) M := by
  obtain ⟨p, l, e, R, s, m, args, below, meth, c, Q, D, cA, A, ads, nL⟩ := K
  obtain ⟨hx, hb, hml, hown, hts, hlk, hK, hA, hR, hX⟩ := C
  intro H locs ls hP hD hO hS hL hl hs
  obtain ⟨h2, hs⟩ := List.forall_mem_cons.mp hs
  have hw := ab_w_get (cA := cA) (ads := ads) (M := M) hk
  rw [ab_e_i (by decide)] at hw
  exact va_alen (D := D) (v := Int32.ofInt (n : Int)) hx hb hK hP k 0 hw rfl (by rw [Int32.ofInt_eq_ofNat]) hd (h H locs ls hP hD hO hS hL hl (ab_c (show inI (n : Int) from ⟨by omega, by omega⟩) hs))
theorem ac_alenJ {K : AbK} {kc ks : Nat} {cc : ByteArray} {own : String} {rm : Room} (C : Cx K cc own rm) {S : List AbS} {pc : Nat} {lv st : List AbV} {M : AbM} {k n : Nat} (hk : S[k]? = some (sA 2 n)) (hn : (n : Int) < 2147483648) (hd : decode cc pc = .ok (.arraylength, 1)) (h : AJc K kc ks S (pc + 1) lv (vI (n : Int) :: st) M) : AJc K kc ks S pc lv (vP k :: st) M := by
  obtain ⟨p, l, e, R, s, m, args, below, meth, c, Q, D, cA, A, ads, nL⟩ := K
  obtain ⟨hx, hb, hml, hown, hts, hlk, hK, hA, hR, hX⟩ := C
  intro H locs ls hP hD hO hS hL hl hs
  obtain ⟨h2, hs⟩ := List.forall_mem_cons.mp hs
  have hw := ab_w_get (cA := cA) (ads := ads) (M := M) hk
  rw [ab_e_l] at hw
  exact va_alen (D := D) (v := Int32.ofInt (n : Int)) hx hb hK hP k 2 hw rfl (by rw [Int32.ofInt_eq_ofNat]) hd (h H locs ls hP hD hO hS hL hl (ab_c (show inI (n : Int) from ⟨by omega, by omega⟩) hs))
section ABRc
variable {p : Program} {l : Launch} {e : Env} {R : Room} {s : State} {m : MethodId} {args : Array Value} {below : List Frame} {meth : Method} {c : Code} {Q : State → Prop} {D : va_G} {cA : Nat → ClassId} {A : Nat → Prop} {ads : List Nat} {nL kc ks : Nat}
theorem ac_back {H : Heap} {locs : List Loc} {ls : Array Slot} {S : List AbS} {pc : Nat} {lv st : List AbV} {M : AbM} {Qm : List AbV → AbM → Prop} {a : Array Value} {st0 : List Value}
    (hr : va_Run p l e R s m args below meth c H locs kc ks 0 0 (F0 m pc ls st0) (st.map (ab_v ads)) (ab_Q D cA S ads (ab_A ads S H.size) Qm a) (ab_A ads S H.size)) (hD : va_D A (ab_w cA ads S M)) (hS : va_S A s.heap H locs) (hF : ∀ q, ab_A ads S H.size q → A q) (hL : ab_L ls nL ads lv) (hl : ∀ v ∈ lv, ab_ok v) (hs : ∀ v ∈ st, ab_ok v)
    (kk : ∀ (rs : List AbV) (M2 : AbM), Qm rs M2 → AJc (p, l, e, R, s, m, args, below, meth, c, Q, D, cA, A, ads, nL) kc ks S (pc + 3) lv (rs ++ st) M2) : W p l e R s m args below meth c H locs kc ks Q (F0 m pc ls st0) := by
  intro T hT X
  obtain ⟨v, st₀, t, T', L, h0, X', hL', e1, e2, ⟨⟨rs, M2, hv, hok, hlen, hq, hO2, hP2⟩, hz, hk⟩, st'⟩ := hr T hT X
  rw [h0] at hz hk
  have hv2 : v = (rs.map (ab_v ads)).head? := Outcome.returned.inj hv
  have hS2 : va_S A s.heap T'.heap (locs ++ L) := ⟨Nat.le_trans hS.1 (by rw [e1]; exact hz), fun q h1 h2 => by rw [e1, hk q (Nat.lt_of_lt_of_le h1 hS.1) (fun z => h2 (hF q z))]; exact hS.2.1 q h1 h2, fun q hq => by
      rcases List.mem_append.mp hq with h | h
      · exact hS.2.2 q h
      · exact hF _ (hL' q h)⟩
  obtain ⟨t2, a1, b1⟩ := kk rs M2 hq T'.heap (locs ++ L) ls (by rw [e1]; exact hP2) (ab_D_M hD) hO2 hS2 hL hl (fun w hw => (List.mem_append.mp hw).elim (hok w) (hs w)) T' rfl X'
  refine ⟨t2, st' t2 ?_, b1⟩
  have : v.toList ++ st.map (ab_v ads) = (rs ++ st).map (ab_v ads) := by
    rw [hv2]
    rcases rs with _ | ⟨r, _ | ⟨r2, t⟩⟩
    · rfl
    · rfl
    · simp at hlen
  rw [this]
  exact a1
end ABRc
theorem ac_callV {K : AbK} {kc ks : Nat} {cc : ByteArray} {own : String} {rm : Room} (C : Cx K cc own rm) {S : List AbS} {pc : Nat} {lv st stk : List AbV} {M : AbM} {index k ci n nL2 : Nat} {Cn : String} {y : MethodName} {cc2 : ByteArray} {ret : Option FieldType} {rc : Room} {fs : List (Option Nat)} {as : List AbV} {Qm : List AbV → AbM → Prop} {TN : u_T × Nat}
    (w : ab_cv own index Cn y cc2 nL2 ret n) (hM : Meth y cc2 nL2 ret rc (kD K) (kcA K) S (vP k :: as) M Qm) (hr : ab_rm rc rm nL2) (hc : vwCl[ci]? = some (Cn, TN)) (hk : S[k]? = some (sO ci fs)) (hn : as.length = n) (hst : stk = as.reverse ++ vP k :: st) (hcat : (st.map ab_cat).sum ≤ 8) (hroom : kc ≤ rm.cells ∧ ks ≤ rm.slots) (hd : decode cc pc = .ok (.invokevirtual index, 3)) (kk : ∀ (rs : List AbV) (M2 : AbM), Qm rs M2 → AJc K kc ks S (pc + 3) lv (rs ++ st) M2) : AJc K kc ks S pc lv stk M := by
  obtain ⟨p, l, e, R, s, m, args, below, meth, c, Q, D, cA, A, ads, nL⟩ := K
  obtain ⟨hx, hb, hml, hown, hts, hlk, hK, hA, hR, hX⟩ := C
  intro H locs ls hP hD hO hS hL hl hs
  subst hst
  subst hR
  obtain ⟨w1, w2, w3, w4, w5, w6, w7⟩ := w
  have hF := ab_AA hD hA hS
  have hsa : ∀ v ∈ as, ab_ok v := fun v hv => hs v (List.mem_append_left _ (List.mem_reverse.mpr hv))
  have hs2 : ∀ v ∈ st, ab_ok v := fun v hv => hs v (List.mem_append_right _ (List.mem_cons_of_mem _ hv))
  have hMet := hM hO (ab_c (v := vP k) trivial hsa) l ads H.size
  have hG : GoodIn ab_tb (wsV own index Cn y (.code y cc2 nL2 ret :: ab_tb)) := ab_goodIn (pre := [.methodLink own index y, .instanceMethod y, .selects Cn y y, .initialized Cn]) (by
    intro w hw
    simp only [List.mem_cons, List.not_mem_nil, or_false] at hw
    rcases hw with rfl | rfl | rfl | rfl <;> assumption) w5
  have hcw := cwV (R := R) (rm := rc) (mc := 0) (ms := 0) n hts hG rfl hr.1 hr.2.1 ⟨w6, w7⟩ hr.2.2
  refine ac_back (ls := ls) (lv := lv) (nL := nL) (A := A) (M := M) (va_runV (As := as.map (ab_v ads)) (b := ads.getD k 0) ⟨hx, hb, hml, hown, hts⟩ hMet hcw ⟨ab_blind, va_recv hK hP hc (ab_w_get hk), fun U hU hW => ⟨rfl, by rw [hU], by rw [hU]; exact hP, va_K.moved hW.alike hK, hD.weaken (fun _ _ _ _ => trivial), ab_X_at hX hS hF hU hW⟩⟩ rfl (by rw [List.length_map]; exact hn) hL.1 (by simp [ab_v]) (lv_room (by rw [ab_cats]; exact hcat)) hd hroom) hD hS hF hL hl hs2 kk
