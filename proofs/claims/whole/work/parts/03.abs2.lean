theorem ab_tmodB {x y : Int} (h : 0 < y) : -y < x.tmod y ∧ x.tmod y < y := by
  refine ⟨?_, Int.tmod_lt_of_pos x h⟩
  have h1 := Int.tmod_lt_of_pos (-x) h
  rw [Int.neg_tmod] at h1
  omega
theorem ab_c {v : AbV} {st : List AbV} (hv : ab_ok v) (h : ∀ w ∈ st, ab_ok w) : ∀ w ∈ v :: st, ab_ok w := List.forall_mem_cons.mpr ⟨hv, h⟩
theorem ab_nU {x : Int} : vI x ≠ vU := fun h => by cases h
theorem ab_nUL {x : Int} : vL x ≠ vU := fun h => by cases h
theorem ab_nUP {k : Nat} : vP k ≠ vU := fun h => by cases h
theorem ab_lok {lv : List AbV} {i : Nat} {v : AbV} (hl : ∀ w ∈ lv, ab_ok w) (h : lv[i]? = some v) : ab_ok v := hl v (List.mem_of_getElem? h)
theorem ab_lset {lv : List AbV} {i : Nat} {v : AbV} (hl : ∀ w ∈ lv, ab_ok w) (hv : ab_ok v) : ∀ w ∈ lv.set i v, ab_ok w := fun w hw => (List.mem_or_eq_of_mem_set hw).elim (hl w) (fun e => e ▸ hv)
theorem ab_okI {S : List AbS} {M : AbM} {k : Nat} {ci : Nat} {fs : List (Option Nat)} (h : ab_okM S M) (hk : S[k]? = some (sO ci fs)) (j : Int) : inI (M k j) := h k _ hk j
theorem ab_okA {S : List AbS} {M : AbM} {k t n : Nat} (h : ab_okM S M) (ht : t ≠ 2) (hk : S[k]? = some (sA t n)) (j : Int) : inI (M k j) := by
  have h1 := h k _ hk j
  have h2 : ab_okS (sA t n) (M k j) = inI (M k j) := if_neg ht
  rw [h2] at h1
  exact h1
theorem ab_okAL {S : List AbS} {M : AbM} {k n : Nat} (h : ab_okM S M) (hk : S[k]? = some (sA 2 n)) (j : Int) : inL (M k j) := h k _ hk j
theorem ab_e_get {cA : Nat → ClassId} {ads : List Nat} {r : Int → Int} {ci j : Nat} {fs : List (Option Nat)} {o : Option Nat} (h : fs[j]? = some o) : (fs.mapIdx (fun j x => ab_f ads (r (j : Int)) x))[j]? = some (ab_f ads (r (j : Int)) o) := by
  rw [List.getElem?_mapIdx, h]; rfl
theorem ab_e_put {cA : Nat → ClassId} {ads : List Nat} {M : AbM} {k ci j : Nat} {fs : List (Option Nat)} {x : Int} (h : fs[j]? = some none) : ab_e cA ads (up M k (j : Int) x k) (sO ci fs) = .inr (ci, (fs.mapIdx (fun j y => ab_f ads (M k (j : Int)) y)).set j (.int (Int32.ofInt x))) := by
  show Sum.inr (ci, _) = Sum.inr (ci, _)
  congr 2
  apply List.ext_getElem?
  intro i
  rw [List.getElem?_set, List.getElem?_mapIdx, List.getElem?_mapIdx]
  by_cases hj : j = i
  · subst hj
    have hlt : j < fs.length := (List.getElem?_eq_some_iff.mp h).1
    rw [if_pos rfl, if_pos (by rw [List.length_mapIdx]; exact hlt), h, up_s]
    rfl
  · have hne : ((i : Nat) : Int) ≠ (j : Int) := fun e => hj (by omega)
    rw [if_neg hj, up_i hne]
theorem ab_inws {C : String} {T : u_T} {N : Nat} (h1 : ∀ w ∈ u_ws C T N, w ∈ lw_tbl) (h2 : (u_ws C T N).all goodWord = true) : ∀ w ∈ u_ws C T N, w ∈ ab_tb := fun w h => List.mem_filter.mpr ⟨h1 w h, List.all_eq_true.mp h2 w h⟩
theorem ab_iconst {K : AbK} {cc : ByteArray} {own : String} {rm : Room} (C : Cx K cc own rm) {S : List AbS} {pc : Nat} {lv st : List AbV} {M : AbM} {n : Int} (hd : decode cc pc = .ok (.iconst n, 1)) (hn : inI n) (h : AJ K S (pc + 1) lv (vI n :: st) M) : AJ K S pc lv st M := by
  obtain ⟨p, l, e, R, s, m, args, below, meth, c, Q, D, cA, A, ads, nL⟩ := K
  obtain ⟨hx, hb, hml, hown, hts, hlk, hK, hA, hR, hX⟩ := C
  intro H locs ls hP hD hO hS hL hl hs
  exact lv_iconst hx hb hd rfl (h H locs ls hP hD hO hS hL hl (ab_c hn hs))
theorem ab_bipush {K : AbK} {cc : ByteArray} {own : String} {rm : Room} (C : Cx K cc own rm) {S : List AbS} {pc : Nat} {lv st : List AbV} {M : AbM} {n : Int} (hd : decode cc pc = .ok (.bipush n, 2)) (hn : inI n) (hv : (Int8.ofInt n).toInt32 = Int32.ofInt n) (h : AJ K S (pc + 2) lv (vI n :: st) M) : AJ K S pc lv st M := by
  obtain ⟨p, l, e, R, s, m, args, below, meth, c, Q, D, cA, A, ads, nL⟩ := K
  obtain ⟨hx, hb, hml, hown, hts, hlk, hK, hA, hR, hX⟩ := C
  intro H locs ls hP hD hO hS hL hl hs
  exact lv_bipush hx hb hd hv (h H locs ls hP hD hO hS hL hl (ab_c hn hs))
theorem ab_sipush {K : AbK} {cc : ByteArray} {own : String} {rm : Room} (C : Cx K cc own rm) {S : List AbS} {pc : Nat} {lv st : List AbV} {M : AbM} {n : Int} (hd : decode cc pc = .ok (.sipush n, 3)) (hn : inI n) (hv : (Int16.ofInt n).toInt32 = Int32.ofInt n) (h : AJ K S (pc + 3) lv (vI n :: st) M) : AJ K S pc lv st M := by
  obtain ⟨p, l, e, R, s, m, args, below, meth, c, Q, D, cA, A, ads, nL⟩ := K
  obtain ⟨hx, hb, hml, hown, hts, hlk, hK, hA, hR, hX⟩ := C
  intro H locs ls hP hD hO hS hL hl hs
  exact lv_sipush hx hb hd hv (h H locs ls hP hD hO hS hL hl (ab_c hn hs))
theorem ab_lconst {K : AbK} {cc : ByteArray} {own : String} {rm : Room} (C : Cx K cc own rm) {S : List AbS} {pc : Nat} {lv st : List AbV} {M : AbM} {k : Fin 2} {n : Int} (hd : decode cc pc = .ok (.lconst k, 1)) (hn : inL n) (hv : Int64.ofNat (k : Nat) = Int64.ofInt n) (h : AJ K S (pc + 1) lv (vL n :: st) M) : AJ K S pc lv st M := by
  obtain ⟨p, l, e, R, s, m, args, below, meth, c, Q, D, cA, A, ads, nL⟩ := K
  obtain ⟨hx, hb, hml, hown, hts, hlk, hK, hA, hR, hX⟩ := C
  intro H locs ls hP hD hO hS hL hl hs
  exact lv_lconst hx hb hd hv (h H locs ls hP hD hO hS hL hl (ab_c hn hs))
theorem ab_ldc {K : AbK} {cc : ByteArray} {own : String} {rm : Room} (C : Cx K cc own rm) {S : List AbS} {pc : Nat} {lv st : List AbV} {M : AbM} {index : Nat} {v : Int32} {n : Int} (hw : ab_gw (.constant own index v)) (hd : decode cc pc = .ok (.ldc index, 2)) (hn : inI n) (hv : v = Int32.ofInt n) (h : AJ K S (pc + 2) lv (vI n :: st) M) : AJ K S pc lv st M := by
  obtain ⟨p, l, e, R, s, m, args, below, meth, c, Q, D, cA, A, ads, nL⟩ := K
  obtain ⟨hx, hb, hml, hown, hts, hlk, hK, hA, hR, hX⟩ := C
  intro H locs ls hP hD hO hS hL hl hs
  subst hv
  exact lv_ldc hx hb hown (hts _ (ab_gw_in hw)) hd (h H locs ls hP hD hO hS hL hl (ab_c hn hs))
theorem ab_ldc2 {K : AbK} {cc : ByteArray} {own : String} {rm : Room} (C : Cx K cc own rm) {S : List AbS} {pc : Nat} {lv st : List AbV} {M : AbM} {index : Nat} {v : Int64} {n : Int} (hw : ab_gw (.constantLong own index v)) (hd : decode cc pc = .ok (.ldc2_w index, 3)) (hn : inL n) (hv : v = Int64.ofInt n) (h : AJ K S (pc + 3) lv (vL n :: st) M) : AJ K S pc lv st M := by
  obtain ⟨p, l, e, R, s, m, args, below, meth, c, Q, D, cA, A, ads, nL⟩ := K
  obtain ⟨hx, hb, hml, hown, hts, hlk, hK, hA, hR, hX⟩ := C
  intro H locs ls hP hD hO hS hL hl hs
  subst hv
  exact lv_ldc2 hx hb hown (hts _ (ab_gw_in hw)) hd (h H locs ls hP hD hO hS hL hl (ab_c hn hs))
theorem ab_iload_n {K : AbK} {cc : ByteArray} {own : String} {rm : Room} (C : Cx K cc own rm) {S : List AbS} {pc : Nat} {lv st : List AbV} {M : AbM} {k : Fin 4} {i : Nat} {x : Int} (hd : decode cc pc = .ok (.iload_n k, 1)) (hi : (k : Nat) = i) (hv : lv[i]? = some (vI x)) (h : AJ K S (pc + 1) lv (vI x :: st) M) : AJ K S pc lv st M := by
  obtain ⟨p, l, e, R, s, m, args, below, meth, c, Q, D, cA, A, ads, nL⟩ := K
  obtain ⟨hx, hb, hml, hown, hts, hlk, hK, hA, hR, hX⟩ := C
  intro H locs ls hP hD hO hS hL hl hs
  exact lv_iload_n hx hb hd hi (hL.2.2.2 i _ hv ab_nU) (h H locs ls hP hD hO hS hL hl (ab_c (ab_lok hl hv) hs))
theorem ab_iload {K : AbK} {cc : ByteArray} {own : String} {rm : Room} (C : Cx K cc own rm) {S : List AbS} {pc : Nat} {lv st : List AbV} {M : AbM} {i : Nat} {x : Int} (hd : decode cc pc = .ok (.iload i, 2)) (hv : lv[i]? = some (vI x)) (h : AJ K S (pc + 2) lv (vI x :: st) M) : AJ K S pc lv st M := by
  obtain ⟨p, l, e, R, s, m, args, below, meth, c, Q, D, cA, A, ads, nL⟩ := K
  obtain ⟨hx, hb, hml, hown, hts, hlk, hK, hA, hR, hX⟩ := C
  intro H locs ls hP hD hO hS hL hl hs
  exact lv_iload hx hb hd (hL.2.2.2 i _ hv ab_nU) (h H locs ls hP hD hO hS hL hl (ab_c (ab_lok hl hv) hs))
theorem ab_lload_n {K : AbK} {cc : ByteArray} {own : String} {rm : Room} (C : Cx K cc own rm) {S : List AbS} {pc : Nat} {lv st : List AbV} {M : AbM} {k : Fin 4} {i : Nat} {x : Int} (hd : decode cc pc = .ok (.lload_n k, 1)) (hi : (k : Nat) = i) (hv : lv[i]? = some (vL x)) (h : AJ K S (pc + 1) lv (vL x :: st) M) : AJ K S pc lv st M := by
  obtain ⟨p, l, e, R, s, m, args, below, meth, c, Q, D, cA, A, ads, nL⟩ := K
  obtain ⟨hx, hb, hml, hown, hts, hlk, hK, hA, hR, hX⟩ := C
  intro H locs ls hP hD hO hS hL hl hs
  exact lv_lload_n hx hb hd hi (hL.2.2.2 i _ hv ab_nUL) (h H locs ls hP hD hO hS hL hl (ab_c (ab_lok hl hv) hs))
theorem ab_lload {K : AbK} {cc : ByteArray} {own : String} {rm : Room} (C : Cx K cc own rm) {S : List AbS} {pc : Nat} {lv st : List AbV} {M : AbM} {i : Nat} {x : Int} (hd : decode cc pc = .ok (.lload i, 2)) (hv : lv[i]? = some (vL x)) (h : AJ K S (pc + 2) lv (vL x :: st) M) : AJ K S pc lv st M := by
  obtain ⟨p, l, e, R, s, m, args, below, meth, c, Q, D, cA, A, ads, nL⟩ := K
  obtain ⟨hx, hb, hml, hown, hts, hlk, hK, hA, hR, hX⟩ := C
  intro H locs ls hP hD hO hS hL hl hs
  exact lv_lload hx hb hd (hL.2.2.2 i _ hv ab_nUL) (h H locs ls hP hD hO hS hL hl (ab_c (ab_lok hl hv) hs))
theorem ab_aload_n {K : AbK} {cc : ByteArray} {own : String} {rm : Room} (C : Cx K cc own rm) {S : List AbS} {pc : Nat} {lv st : List AbV} {M : AbM} {k : Fin 4} {i : Nat} {x : Nat} (hd : decode cc pc = .ok (.aload_n k, 1)) (hi : (k : Nat) = i) (hv : lv[i]? = some (vP x)) (h : AJ K S (pc + 1) lv (vP x :: st) M) : AJ K S pc lv st M := by
  obtain ⟨p, l, e, R, s, m, args, below, meth, c, Q, D, cA, A, ads, nL⟩ := K
  obtain ⟨hx, hb, hml, hown, hts, hlk, hK, hA, hR, hX⟩ := C
  intro H locs ls hP hD hO hS hL hl hs
  exact lv_aload_n hx hb hd hi (hL.2.2.2 i _ hv ab_nUP) (h H locs ls hP hD hO hS hL hl (ab_c (ab_lok hl hv) hs))
theorem ab_aload {K : AbK} {cc : ByteArray} {own : String} {rm : Room} (C : Cx K cc own rm) {S : List AbS} {pc : Nat} {lv st : List AbV} {M : AbM} {i : Nat} {x : Nat} (hd : decode cc pc = .ok (.aload i, 2)) (hv : lv[i]? = some (vP x)) (h : AJ K S (pc + 2) lv (vP x :: st) M) : AJ K S pc lv st M := by
  obtain ⟨p, l, e, R, s, m, args, below, meth, c, Q, D, cA, A, ads, nL⟩ := K
  obtain ⟨hx, hb, hml, hown, hts, hlk, hK, hA, hR, hX⟩ := C
  intro H locs ls hP hD hO hS hL hl hs
  exact lv_aload hx hb hd (hL.2.2.2 i _ hv ab_nUP) (h H locs ls hP hD hO hS hL hl (ab_c (ab_lok hl hv) hs))
theorem ab_istore_n {K : AbK} {cc : ByteArray} {own : String} {rm : Room} (C : Cx K cc own rm) {S : List AbS} {pc : Nat} {lv st : List AbV} {M : AbM} {k : Fin 4} {i : Nat} {x : Int} (hd : decode cc pc = .ok (.istore_n k, 1)) (hi : (k : Nat) = i) (hn : i < lv.length) (hp : ∀ w, lv[i - 1]? = some w → ab_cat w = 1) (h : AJ K S (pc + 1) (lv.set i (vI x)) st M) : AJ K S pc lv (vI x :: st) M := by
  obtain ⟨p, l, e, R, s, m, args, below, meth, c, Q, D, cA, A, ads, nL⟩ := K
  obtain ⟨hx, hb, hml, hown, hts, hlk, hK, hA, hR, hX⟩ := C
  intro H locs ls hP hD hO hS hL hl hs
  have hn2 : i < nL := by rw [← hL.2.1]; exact hn
  obtain ⟨h1, h2⟩ := List.forall_mem_cons.mp hs
  exact lv_istore_n hx hb hd hi (ab_L_has hL) hn2 rfl (fun ls2 hl2 => h H locs ls2 hP hD hO hS (ab_L_set hL hn2 hp hl2) (ab_lset hl h1) h2)
theorem ab_istore {K : AbK} {cc : ByteArray} {own : String} {rm : Room} (C : Cx K cc own rm) {S : List AbS} {pc : Nat} {lv st : List AbV} {M : AbM} {i : Nat} {x : Int} (hd : decode cc pc = .ok (.istore i, 2)) (hn : i < lv.length) (hp : ∀ w, lv[i - 1]? = some w → ab_cat w = 1) (h : AJ K S (pc + 2) (lv.set i (vI x)) st M) : AJ K S pc lv (vI x :: st) M := by
  obtain ⟨p, l, e, R, s, m, args, below, meth, c, Q, D, cA, A, ads, nL⟩ := K
  obtain ⟨hx, hb, hml, hown, hts, hlk, hK, hA, hR, hX⟩ := C
  intro H locs ls hP hD hO hS hL hl hs
  have hn2 : i < nL := by rw [← hL.2.1]; exact hn
  obtain ⟨h1, h2⟩ := List.forall_mem_cons.mp hs
  exact lv_istore hx hb hd (ab_L_has hL) hn2 rfl (fun ls2 hl2 => h H locs ls2 hP hD hO hS (ab_L_set hL hn2 hp hl2) (ab_lset hl h1) h2)
theorem ab_astore_n {K : AbK} {cc : ByteArray} {own : String} {rm : Room} (C : Cx K cc own rm) {S : List AbS} {pc : Nat} {lv st : List AbV} {M : AbM} {k : Fin 4} {i : Nat} {x : Nat} (hd : decode cc pc = .ok (.astore_n k, 1)) (hi : (k : Nat) = i) (hn : i < lv.length) (hp : ∀ w, lv[i - 1]? = some w → ab_cat w = 1) (h : AJ K S (pc + 1) (lv.set i (vP x)) st M) : AJ K S pc lv (vP x :: st) M := by
  obtain ⟨p, l, e, R, s, m, args, below, meth, c, Q, D, cA, A, ads, nL⟩ := K
  obtain ⟨hx, hb, hml, hown, hts, hlk, hK, hA, hR, hX⟩ := C
  intro H locs ls hP hD hO hS hL hl hs
  have hn2 : i < nL := by rw [← hL.2.1]; exact hn
  obtain ⟨h1, h2⟩ := List.forall_mem_cons.mp hs
  exact lv_astore_n hx hb hd hi (ab_L_has hL) hn2 rfl (fun ls2 hl2 => h H locs ls2 hP hD hO hS (ab_L_set hL hn2 hp hl2) (ab_lset hl h1) h2)
theorem ab_astore {K : AbK} {cc : ByteArray} {own : String} {rm : Room} (C : Cx K cc own rm) {S : List AbS} {pc : Nat} {lv st : List AbV} {M : AbM} {i : Nat} {x : Nat} (hd : decode cc pc = .ok (.astore i, 2)) (hn : i < lv.length) (hp : ∀ w, lv[i - 1]? = some w → ab_cat w = 1) (h : AJ K S (pc + 2) (lv.set i (vP x)) st M) : AJ K S pc lv (vP x :: st) M := by
  obtain ⟨p, l, e, R, s, m, args, below, meth, c, Q, D, cA, A, ads, nL⟩ := K
  obtain ⟨hx, hb, hml, hown, hts, hlk, hK, hA, hR, hX⟩ := C
  intro H locs ls hP hD hO hS hL hl hs
  have hn2 : i < nL := by rw [← hL.2.1]; exact hn
  obtain ⟨h1, h2⟩ := List.forall_mem_cons.mp hs
  exact lv_astore hx hb hd (ab_L_has hL) hn2 rfl (fun ls2 hl2 => h H locs ls2 hP hD hO hS (ab_L_set hL hn2 hp hl2) (ab_lset hl h1) h2)
theorem ab_iinc {K : AbK} {cc : ByteArray} {own : String} {rm : Room} (C : Cx K cc own rm) {S : List AbS} {pc : Nat} {lv st : List AbV} {M : AbM} {i : Nat} {n x : Int} (hd : decode cc pc = .ok (.iinc i n, 3)) (hv : lv[i]? = some (vI x)) (hp : ∀ w, lv[i - 1]? = some w → ab_cat w = 1) (hr : inI (x + n)) (h : AJ K S (pc + 3) (lv.set i (vI (x + n))) st M) : AJ K S pc lv st M := by
  obtain ⟨p, l, e, R, s, m, args, below, meth, c, Q, D, cA, A, ads, nL⟩ := K
  obtain ⟨hx, hb, hml, hown, hts, hlk, hK, hA, hR, hX⟩ := C
  intro H locs ls hP hD hO hS hL hl hs
  have hn2 : i < nL := by rw [← hL.2.1]; exact (List.getElem?_eq_some_iff.mp hv).1
  obtain ⟨kk, hkk⟩ := List.getElem?_of_mem (ab_lvl_in (ads := ads) hv ab_nU)
  exact lv_iinc (v := Int32.ofInt (x + n)) hx hb hd (ab_L_has hL) hkk (Int32.ofInt_add x n).symm hn2 rfl (fun ls2 hl2 => h H locs ls2 hP hD hO hS (ab_L_set (v := vI (x + n)) hL hn2 hp hl2) (ab_lset hl hr) hs)
theorem ab_istore0 {K : AbK} {cc : ByteArray} {own : String} {rm : Room} (C : Cx K cc own rm) {S : List AbS} {pc : Nat} {lv st : List AbV} {M : AbM} {b : AbV} {t : List AbV} {x : Int} (hp : ab_cat b = 1) (hd : decode cc pc = .ok (.istore_n 0, 1)) (h : AJ K S (pc + 1) (vI x :: t) st M) : AJ K S pc (b :: t) (vI x :: st) M := ab_istore_n (i := 0) C hd rfl (by simp) (fun w hw => by cases hw; exact hp) h
theorem ab_astore0 {K : AbK} {cc : ByteArray} {own : String} {rm : Room} (C : Cx K cc own rm) {S : List AbS} {pc : Nat} {lv st : List AbV} {M : AbM} {b : AbV} {t : List AbV} {x : Nat} (hp : ab_cat b = 1) (hd : decode cc pc = .ok (.astore_n 0, 1)) (h : AJ K S (pc + 1) (vP x :: t) st M) : AJ K S pc (b :: t) (vP x :: st) M := ab_astore_n (i := 0) C hd rfl (by simp) (fun w hw => by cases hw; exact hp) h
theorem ab_iinc0 {K : AbK} {cc : ByteArray} {own : String} {rm : Room} (C : Cx K cc own rm) {S : List AbS} {pc : Nat} {lv st : List AbV} {M : AbM}  {t : List AbV} {x n : Int}  (hd : decode cc pc = .ok (.iinc 0 n, 3)) (hr : inI (x + n)) (h : AJ K S (pc + 3) (vI (x + n) :: t) st M) : AJ K S pc (vI x :: t) st M := ab_iinc (i := 0) C hd rfl (fun w hw => by cases hw; exact rfl) hr h
theorem ab_istore1 {K : AbK} {cc : ByteArray} {own : String} {rm : Room} (C : Cx K cc own rm) {S : List AbS} {pc : Nat} {lv st : List AbV} {M : AbM} {a0 b : AbV} {t : List AbV} {x : Int} (hp : ab_cat a0 = 1) (hd : decode cc pc = .ok (.istore_n 1, 1)) (h : AJ K S (pc + 1) (a0 :: vI x :: t) st M) : AJ K S pc (a0 :: b :: t) (vI x :: st) M := ab_istore_n (i := 1) C hd rfl (by simp) (fun w hw => by cases hw; exact hp) h
theorem ab_astore1 {K : AbK} {cc : ByteArray} {own : String} {rm : Room} (C : Cx K cc own rm) {S : List AbS} {pc : Nat} {lv st : List AbV} {M : AbM} {a0 b : AbV} {t : List AbV} {x : Nat} (hp : ab_cat a0 = 1) (hd : decode cc pc = .ok (.astore_n 1, 1)) (h : AJ K S (pc + 1) (a0 :: vP x :: t) st M) : AJ K S pc (a0 :: b :: t) (vP x :: st) M := ab_astore_n (i := 1) C hd rfl (by simp) (fun w hw => by cases hw; exact hp) h
theorem ab_iinc1 {K : AbK} {cc : ByteArray} {own : String} {rm : Room} (C : Cx K cc own rm) {S : List AbS} {pc : Nat} {lv st : List AbV} {M : AbM} {a0 : AbV} {t : List AbV} {x n : Int} (hp : ab_cat a0 = 1) (hd : decode cc pc = .ok (.iinc 1 n, 3)) (hr : inI (x + n)) (h : AJ K S (pc + 3) (a0 :: vI (x + n) :: t) st M) : AJ K S pc (a0 :: vI x :: t) st M := ab_iinc (i := 1) C hd rfl (fun w hw => by cases hw; exact hp) hr h
theorem ab_istore2 {K : AbK} {cc : ByteArray} {own : String} {rm : Room} (C : Cx K cc own rm) {S : List AbS} {pc : Nat} {lv st : List AbV} {M : AbM} {a0 a1 b : AbV} {t : List AbV} {x : Int} (hp : ab_cat a1 = 1) (hd : decode cc pc = .ok (.istore_n 2, 1)) (h : AJ K S (pc + 1) (a0 :: a1 :: vI x :: t) st M) : AJ K S pc (a0 :: a1 :: b :: t) (vI x :: st) M := ab_istore_n (i := 2) C hd rfl (by simp) (fun w hw => by cases hw; exact hp) h
theorem ab_astore2 {K : AbK} {cc : ByteArray} {own : String} {rm : Room} (C : Cx K cc own rm) {S : List AbS} {pc : Nat} {lv st : List AbV} {M : AbM} {a0 a1 b : AbV} {t : List AbV} {x : Nat} (hp : ab_cat a1 = 1) (hd : decode cc pc = .ok (.astore_n 2, 1)) (h : AJ K S (pc + 1) (a0 :: a1 :: vP x :: t) st M) : AJ K S pc (a0 :: a1 :: b :: t) (vP x :: st) M := ab_astore_n (i := 2) C hd rfl (by simp) (fun w hw => by cases hw; exact hp) h
theorem ab_iinc2 {K : AbK} {cc : ByteArray} {own : String} {rm : Room} (C : Cx K cc own rm) {S : List AbS} {pc : Nat} {lv st : List AbV} {M : AbM} {a0 a1 : AbV} {t : List AbV} {x n : Int} (hp : ab_cat a1 = 1) (hd : decode cc pc = .ok (.iinc 2 n, 3)) (hr : inI (x + n)) (h : AJ K S (pc + 3) (a0 :: a1 :: vI (x + n) :: t) st M) : AJ K S pc (a0 :: a1 :: vI x :: t) st M := ab_iinc (i := 2) C hd rfl (fun w hw => by cases hw; exact hp) hr h
theorem ab_istore3 {K : AbK} {cc : ByteArray} {own : String} {rm : Room} (C : Cx K cc own rm) {S : List AbS} {pc : Nat} {lv st : List AbV} {M : AbM} {a0 a1 a2 b : AbV} {t : List AbV} {x : Int} (hp : ab_cat a2 = 1) (hd : decode cc pc = .ok (.istore_n 3, 1)) (h : AJ K S (pc + 1) (a0 :: a1 :: a2 :: vI x :: t) st M) : AJ K S pc (a0 :: a1 :: a2 :: b :: t) (vI x :: st) M := ab_istore_n (i := 3) C hd rfl (by simp) (fun w hw => by cases hw; exact hp) h
theorem ab_astore3 {K : AbK} {cc : ByteArray} {own : String} {rm : Room} (C : Cx K cc own rm) {S : List AbS} {pc : Nat} {lv st : List AbV} {M : AbM} {a0 a1 a2 b : AbV} {t : List AbV} {x : Nat} (hp : ab_cat a2 = 1) (hd : decode cc pc = .ok (.astore_n 3, 1)) (h : AJ K S (pc + 1) (a0 :: a1 :: a2 :: vP x :: t) st M) : AJ K S pc (a0 :: a1 :: a2 :: b :: t) (vP x :: st) M := ab_astore_n (i := 3) C hd rfl (by simp) (fun w hw => by cases hw; exact hp) h
theorem ab_iinc3 {K : AbK} {cc : ByteArray} {own : String} {rm : Room} (C : Cx K cc own rm) {S : List AbS} {pc : Nat} {lv st : List AbV} {M : AbM} {a0 a1 a2 : AbV} {t : List AbV} {x n : Int} (hp : ab_cat a2 = 1) (hd : decode cc pc = .ok (.iinc 3 n, 3)) (hr : inI (x + n)) (h : AJ K S (pc + 3) (a0 :: a1 :: a2 :: vI (x + n) :: t) st M) : AJ K S pc (a0 :: a1 :: a2 :: vI x :: t) st M := ab_iinc (i := 3) C hd rfl (fun w hw => by cases hw; exact hp) hr h
theorem ab_istore4 {K : AbK} {cc : ByteArray} {own : String} {rm : Room} (C : Cx K cc own rm) {S : List AbS} {pc : Nat} {lv st : List AbV} {M : AbM} {a0 a1 a2 a3 b : AbV} {t : List AbV} {x : Int} (hp : ab_cat a3 = 1) (hd : decode cc pc = .ok (.istore 4, 2)) (h : AJ K S (pc + 2) (a0 :: a1 :: a2 :: a3 :: vI x :: t) st M) : AJ K S pc (a0 :: a1 :: a2 :: a3 :: b :: t) (vI x :: st) M := ab_istore (i := 4) C hd (by simp) (fun w hw => by cases hw; exact hp) h
theorem ab_astore4 {K : AbK} {cc : ByteArray} {own : String} {rm : Room} (C : Cx K cc own rm) {S : List AbS} {pc : Nat} {lv st : List AbV} {M : AbM} {a0 a1 a2 a3 b : AbV} {t : List AbV} {x : Nat} (hp : ab_cat a3 = 1) (hd : decode cc pc = .ok (.astore 4, 2)) (h : AJ K S (pc + 2) (a0 :: a1 :: a2 :: a3 :: vP x :: t) st M) : AJ K S pc (a0 :: a1 :: a2 :: a3 :: b :: t) (vP x :: st) M := ab_astore (i := 4) C hd (by simp) (fun w hw => by cases hw; exact hp) h
theorem ab_iinc4 {K : AbK} {cc : ByteArray} {own : String} {rm : Room} (C : Cx K cc own rm) {S : List AbS} {pc : Nat} {lv st : List AbV} {M : AbM} {a0 a1 a2 a3 : AbV} {t : List AbV} {x n : Int} (hp : ab_cat a3 = 1) (hd : decode cc pc = .ok (.iinc 4 n, 3)) (hr : inI (x + n)) (h : AJ K S (pc + 3) (a0 :: a1 :: a2 :: a3 :: vI (x + n) :: t) st M) : AJ K S pc (a0 :: a1 :: a2 :: a3 :: vI x :: t) st M := ab_iinc (i := 4) C hd rfl (fun w hw => by cases hw; exact hp) hr h
theorem ab_istore5 {K : AbK} {cc : ByteArray} {own : String} {rm : Room} (C : Cx K cc own rm) {S : List AbS} {pc : Nat} {lv st : List AbV} {M : AbM} {a0 a1 a2 a3 a4 b : AbV} {t : List AbV} {x : Int} (hp : ab_cat a4 = 1) (hd : decode cc pc = .ok (.istore 5, 2)) (h : AJ K S (pc + 2) (a0 :: a1 :: a2 :: a3 :: a4 :: vI x :: t) st M) : AJ K S pc (a0 :: a1 :: a2 :: a3 :: a4 :: b :: t) (vI x :: st) M := ab_istore (i := 5) C hd (by simp) (fun w hw => by cases hw; exact hp) h
theorem ab_astore5 {K : AbK} {cc : ByteArray} {own : String} {rm : Room} (C : Cx K cc own rm) {S : List AbS} {pc : Nat} {lv st : List AbV} {M : AbM} {a0 a1 a2 a3 a4 b : AbV} {t : List AbV} {x : Nat} (hp : ab_cat a4 = 1) (hd : decode cc pc = .ok (.astore 5, 2)) (h : AJ K S (pc + 2) (a0 :: a1 :: a2 :: a3 :: a4 :: vP x :: t) st M) : AJ K S pc (a0 :: a1 :: a2 :: a3 :: a4 :: b :: t) (vP x :: st) M := ab_astore (i := 5) C hd (by simp) (fun w hw => by cases hw; exact hp) h
theorem ab_iinc5 {K : AbK} {cc : ByteArray} {own : String} {rm : Room} (C : Cx K cc own rm) {S : List AbS} {pc : Nat} {lv st : List AbV} {M : AbM} {a0 a1 a2 a3 a4 : AbV} {t : List AbV} {x n : Int} (hp : ab_cat a4 = 1) (hd : decode cc pc = .ok (.iinc 5 n, 3)) (hr : inI (x + n)) (h : AJ K S (pc + 3) (a0 :: a1 :: a2 :: a3 :: a4 :: vI (x + n) :: t) st M) : AJ K S pc (a0 :: a1 :: a2 :: a3 :: a4 :: vI x :: t) st M := ab_iinc (i := 5) C hd rfl (fun w hw => by cases hw; exact hp) hr h
theorem ab_istore6 {K : AbK} {cc : ByteArray} {own : String} {rm : Room} (C : Cx K cc own rm) {S : List AbS} {pc : Nat} {lv st : List AbV} {M : AbM} {a0 a1 a2 a3 a4 a5 b : AbV} {t : List AbV} {x : Int} (hp : ab_cat a5 = 1) (hd : decode cc pc = .ok (.istore 6, 2)) (h : AJ K S (pc + 2) (a0 :: a1 :: a2 :: a3 :: a4 :: a5 :: vI x :: t) st M) : AJ K S pc (a0 :: a1 :: a2 :: a3 :: a4 :: a5 :: b :: t) (vI x :: st) M := ab_istore (i := 6) C hd (by simp) (fun w hw => by cases hw; exact hp) h
theorem ab_astore6 {K : AbK} {cc : ByteArray} {own : String} {rm : Room} (C : Cx K cc own rm) {S : List AbS} {pc : Nat} {lv st : List AbV} {M : AbM} {a0 a1 a2 a3 a4 a5 b : AbV} {t : List AbV} {x : Nat} (hp : ab_cat a5 = 1) (hd : decode cc pc = .ok (.astore 6, 2)) (h : AJ K S (pc + 2) (a0 :: a1 :: a2 :: a3 :: a4 :: a5 :: vP x :: t) st M) : AJ K S pc (a0 :: a1 :: a2 :: a3 :: a4 :: a5 :: b :: t) (vP x :: st) M := ab_astore (i := 6) C hd (by simp) (fun w hw => by cases hw; exact hp) h
theorem ab_iinc6 {K : AbK} {cc : ByteArray} {own : String} {rm : Room} (C : Cx K cc own rm) {S : List AbS} {pc : Nat} {lv st : List AbV} {M : AbM} {a0 a1 a2 a3 a4 a5 : AbV} {t : List AbV} {x n : Int} (hp : ab_cat a5 = 1) (hd : decode cc pc = .ok (.iinc 6 n, 3)) (hr : inI (x + n)) (h : AJ K S (pc + 3) (a0 :: a1 :: a2 :: a3 :: a4 :: a5 :: vI (x + n) :: t) st M) : AJ K S pc (a0 :: a1 :: a2 :: a3 :: a4 :: a5 :: vI x :: t) st M := ab_iinc (i := 6) C hd rfl (fun w hw => by cases hw; exact hp) hr h
theorem ab_istore7 {K : AbK} {cc : ByteArray} {own : String} {rm : Room} (C : Cx K cc own rm) {S : List AbS} {pc : Nat} {lv st : List AbV} {M : AbM} {a0 a1 a2 a3 a4 a5 a6 b : AbV} {t : List AbV} {x : Int} (hp : ab_cat a6 = 1) (hd : decode cc pc = .ok (.istore 7, 2)) (h : AJ K S (pc + 2) (a0 :: a1 :: a2 :: a3 :: a4 :: a5 :: a6 :: vI x :: t) st M) : AJ K S pc (a0 :: a1 :: a2 :: a3 :: a4 :: a5 :: a6 :: b :: t) (vI x :: st) M := ab_istore (i := 7) C hd (by simp) (fun w hw => by cases hw; exact hp) h
theorem ab_astore7 {K : AbK} {cc : ByteArray} {own : String} {rm : Room} (C : Cx K cc own rm) {S : List AbS} {pc : Nat} {lv st : List AbV} {M : AbM} {a0 a1 a2 a3 a4 a5 a6 b : AbV} {t : List AbV} {x : Nat} (hp : ab_cat a6 = 1) (hd : decode cc pc = .ok (.astore 7, 2)) (h : AJ K S (pc + 2) (a0 :: a1 :: a2 :: a3 :: a4 :: a5 :: a6 :: vP x :: t) st M) : AJ K S pc (a0 :: a1 :: a2 :: a3 :: a4 :: a5 :: a6 :: b :: t) (vP x :: st) M := ab_astore (i := 7) C hd (by simp) (fun w hw => by cases hw; exact hp) h
theorem ab_iinc7 {K : AbK} {cc : ByteArray} {own : String} {rm : Room} (C : Cx K cc own rm) {S : List AbS} {pc : Nat} {lv st : List AbV} {M : AbM} {a0 a1 a2 a3 a4 a5 a6 : AbV} {t : List AbV} {x n : Int} (hp : ab_cat a6 = 1) (hd : decode cc pc = .ok (.iinc 7 n, 3)) (hr : inI (x + n)) (h : AJ K S (pc + 3) (a0 :: a1 :: a2 :: a3 :: a4 :: a5 :: a6 :: vI (x + n) :: t) st M) : AJ K S pc (a0 :: a1 :: a2 :: a3 :: a4 :: a5 :: a6 :: vI x :: t) st M := ab_iinc (i := 7) C hd rfl (fun w hw => by cases hw; exact hp) hr h
theorem ab_istore8 {K : AbK} {cc : ByteArray} {own : String} {rm : Room} (C : Cx K cc own rm) {S : List AbS} {pc : Nat} {lv st : List AbV} {M : AbM} {a0 a1 a2 a3 a4 a5 a6 a7 b : AbV} {t : List AbV} {x : Int} (hp : ab_cat a7 = 1) (hd : decode cc pc = .ok (.istore 8, 2)) (h : AJ K S (pc + 2) (a0 :: a1 :: a2 :: a3 :: a4 :: a5 :: a6 :: a7 :: vI x :: t) st M) : AJ K S pc (a0 :: a1 :: a2 :: a3 :: a4 :: a5 :: a6 :: a7 :: b :: t) (vI x :: st) M := ab_istore (i := 8) C hd (by simp) (fun w hw => by cases hw; exact hp) h
theorem ab_astore8 {K : AbK} {cc : ByteArray} {own : String} {rm : Room} (C : Cx K cc own rm) {S : List AbS} {pc : Nat} {lv st : List AbV} {M : AbM} {a0 a1 a2 a3 a4 a5 a6 a7 b : AbV} {t : List AbV} {x : Nat} (hp : ab_cat a7 = 1) (hd : decode cc pc = .ok (.astore 8, 2)) (h : AJ K S (pc + 2) (a0 :: a1 :: a2 :: a3 :: a4 :: a5 :: a6 :: a7 :: vP x :: t) st M) : AJ K S pc (a0 :: a1 :: a2 :: a3 :: a4 :: a5 :: a6 :: a7 :: b :: t) (vP x :: st) M := ab_astore (i := 8) C hd (by simp) (fun w hw => by cases hw; exact hp) h
theorem ab_iinc8 {K : AbK} {cc : ByteArray} {own : String} {rm : Room} (C : Cx K cc own rm) {S : List AbS} {pc : Nat} {lv st : List AbV} {M : AbM} {a0 a1 a2 a3 a4 a5 a6 a7 : AbV} {t : List AbV} {x n : Int} (hp : ab_cat a7 = 1) (hd : decode cc pc = .ok (.iinc 8 n, 3)) (hr : inI (x + n)) (h : AJ K S (pc + 3) (a0 :: a1 :: a2 :: a3 :: a4 :: a5 :: a6 :: a7 :: vI (x + n) :: t) st M) : AJ K S pc (a0 :: a1 :: a2 :: a3 :: a4 :: a5 :: a6 :: a7 :: vI x :: t) st M := ab_iinc (i := 8) C hd rfl (fun w hw => by cases hw; exact hp) hr h
theorem ab_istore9 {K : AbK} {cc : ByteArray} {own : String} {rm : Room} (C : Cx K cc own rm) {S : List AbS} {pc : Nat} {lv st : List AbV} {M : AbM} {a0 a1 a2 a3 a4 a5 a6 a7 a8 b : AbV} {t : List AbV} {x : Int} (hp : ab_cat a8 = 1) (hd : decode cc pc = .ok (.istore 9, 2)) (h : AJ K S (pc + 2) (a0 :: a1 :: a2 :: a3 :: a4 :: a5 :: a6 :: a7 :: a8 :: vI x :: t) st M) : AJ K S pc (a0 :: a1 :: a2 :: a3 :: a4 :: a5 :: a6 :: a7 :: a8 :: b :: t) (vI x :: st) M := ab_istore (i := 9) C hd (by simp) (fun w hw => by cases hw; exact hp) h
theorem ab_astore9 {K : AbK} {cc : ByteArray} {own : String} {rm : Room} (C : Cx K cc own rm) {S : List AbS} {pc : Nat} {lv st : List AbV} {M : AbM} {a0 a1 a2 a3 a4 a5 a6 a7 a8 b : AbV} {t : List AbV} {x : Nat} (hp : ab_cat a8 = 1) (hd : decode cc pc = .ok (.astore 9, 2)) (h : AJ K S (pc + 2) (a0 :: a1 :: a2 :: a3 :: a4 :: a5 :: a6 :: a7 :: a8 :: vP x :: t) st M) : AJ K S pc (a0 :: a1 :: a2 :: a3 :: a4 :: a5 :: a6 :: a7 :: a8 :: b :: t) (vP x :: st) M := ab_astore (i := 9) C hd (by simp) (fun w hw => by cases hw; exact hp) h
theorem ab_iinc9 {K : AbK} {cc : ByteArray} {own : String} {rm : Room} (C : Cx K cc own rm) {S : List AbS} {pc : Nat} {lv st : List AbV} {M : AbM} {a0 a1 a2 a3 a4 a5 a6 a7 a8 : AbV} {t : List AbV} {x n : Int} (hp : ab_cat a8 = 1) (hd : decode cc pc = .ok (.iinc 9 n, 3)) (hr : inI (x + n)) (h : AJ K S (pc + 3) (a0 :: a1 :: a2 :: a3 :: a4 :: a5 :: a6 :: a7 :: a8 :: vI (x + n) :: t) st M) : AJ K S pc (a0 :: a1 :: a2 :: a3 :: a4 :: a5 :: a6 :: a7 :: a8 :: vI x :: t) st M := ab_iinc (i := 9) C hd rfl (fun w hw => by cases hw; exact hp) hr h
theorem ab_istore10 {K : AbK} {cc : ByteArray} {own : String} {rm : Room} (C : Cx K cc own rm) {S : List AbS} {pc : Nat} {lv st : List AbV} {M : AbM} {a0 a1 a2 a3 a4 a5 a6 a7 a8 a9 b : AbV} {t : List AbV} {x : Int} (hp : ab_cat a9 = 1) (hd : decode cc pc = .ok (.istore 10, 2)) (h : AJ K S (pc + 2) (a0 :: a1 :: a2 :: a3 :: a4 :: a5 :: a6 :: a7 :: a8 :: a9 :: vI x :: t) st M) : AJ K S pc (a0 :: a1 :: a2 :: a3 :: a4 :: a5 :: a6 :: a7 :: a8 :: a9 :: b :: t) (vI x :: st) M := ab_istore (i := 10) C hd (by simp) (fun w hw => by cases hw; exact hp) h
theorem ab_astore10 {K : AbK} {cc : ByteArray} {own : String} {rm : Room} (C : Cx K cc own rm) {S : List AbS} {pc : Nat} {lv st : List AbV} {M : AbM} {a0 a1 a2 a3 a4 a5 a6 a7 a8 a9 b : AbV} {t : List AbV} {x : Nat} (hp : ab_cat a9 = 1) (hd : decode cc pc = .ok (.astore 10, 2)) (h : AJ K S (pc + 2) (a0 :: a1 :: a2 :: a3 :: a4 :: a5 :: a6 :: a7 :: a8 :: a9 :: vP x :: t) st M) : AJ K S pc (a0 :: a1 :: a2 :: a3 :: a4 :: a5 :: a6 :: a7 :: a8 :: a9 :: b :: t) (vP x :: st) M := ab_astore (i := 10) C hd (by simp) (fun w hw => by cases hw; exact hp) h
theorem ab_iinc10 {K : AbK} {cc : ByteArray} {own : String} {rm : Room} (C : Cx K cc own rm) {S : List AbS} {pc : Nat} {lv st : List AbV} {M : AbM} {a0 a1 a2 a3 a4 a5 a6 a7 a8 a9 : AbV} {t : List AbV} {x n : Int} (hp : ab_cat a9 = 1) (hd : decode cc pc = .ok (.iinc 10 n, 3)) (hr : inI (x + n)) (h : AJ K S (pc + 3) (a0 :: a1 :: a2 :: a3 :: a4 :: a5 :: a6 :: a7 :: a8 :: a9 :: vI (x + n) :: t) st M) : AJ K S pc (a0 :: a1 :: a2 :: a3 :: a4 :: a5 :: a6 :: a7 :: a8 :: a9 :: vI x :: t) st M := ab_iinc (i := 10) C hd rfl (fun w hw => by cases hw; exact hp) hr h
theorem ab_istore11 {K : AbK} {cc : ByteArray} {own : String} {rm : Room} (C : Cx K cc own rm) {S : List AbS} {pc : Nat} {lv st : List AbV} {M : AbM} {a0 a1 a2 a3 a4 a5 a6 a7 a8 a9 a10 b : AbV} {t : List AbV} {x : Int} (hp : ab_cat a10 = 1) (hd : decode cc pc = .ok (.istore 11, 2)) (h : AJ K S (pc + 2) (a0 :: a1 :: a2 :: a3 :: a4 :: a5 :: a6 :: a7 :: a8 :: a9 :: a10 :: vI x :: t) st M) : AJ K S pc (a0 :: a1 :: a2 :: a3 :: a4 :: a5 :: a6 :: a7 :: a8 :: a9 :: a10 :: b :: t) (vI x :: st) M := ab_istore (i := 11) C hd (by simp) (fun w hw => by cases hw; exact hp) h
theorem ab_astore11 {K : AbK} {cc : ByteArray} {own : String} {rm : Room} (C : Cx K cc own rm) {S : List AbS} {pc : Nat} {lv st : List AbV} {M : AbM} {a0 a1 a2 a3 a4 a5 a6 a7 a8 a9 a10 b : AbV} {t : List AbV} {x : Nat} (hp : ab_cat a10 = 1) (hd : decode cc pc = .ok (.astore 11, 2)) (h : AJ K S (pc + 2) (a0 :: a1 :: a2 :: a3 :: a4 :: a5 :: a6 :: a7 :: a8 :: a9 :: a10 :: vP x :: t) st M) : AJ K S pc (a0 :: a1 :: a2 :: a3 :: a4 :: a5 :: a6 :: a7 :: a8 :: a9 :: a10 :: b :: t) (vP x :: st) M := ab_astore (i := 11) C hd (by simp) (fun w hw => by cases hw; exact hp) h
theorem ab_iinc11 {K : AbK} {cc : ByteArray} {own : String} {rm : Room} (C : Cx K cc own rm) {S : List AbS} {pc : Nat} {lv st : List AbV} {M : AbM} {a0 a1 a2 a3 a4 a5 a6 a7 a8 a9 a10 : AbV} {t : List AbV} {x n : Int} (hp : ab_cat a10 = 1) (hd : decode cc pc = .ok (.iinc 11 n, 3)) (hr : inI (x + n)) (h : AJ K S (pc + 3) (a0 :: a1 :: a2 :: a3 :: a4 :: a5 :: a6 :: a7 :: a8 :: a9 :: a10 :: vI (x + n) :: t) st M) : AJ K S pc (a0 :: a1 :: a2 :: a3 :: a4 :: a5 :: a6 :: a7 :: a8 :: a9 :: a10 :: vI x :: t) st M := ab_iinc (i := 11) C hd rfl (fun w hw => by cases hw; exact hp) hr h
theorem ab_istore12 {K : AbK} {cc : ByteArray} {own : String} {rm : Room} (C : Cx K cc own rm) {S : List AbS} {pc : Nat} {lv st : List AbV} {M : AbM} {a0 a1 a2 a3 a4 a5 a6 a7 a8 a9 a10 a11 b : AbV} {t : List AbV} {x : Int} (hp : ab_cat a11 = 1) (hd : decode cc pc = .ok (.istore 12, 2)) (h : AJ K S (pc + 2) (a0 :: a1 :: a2 :: a3 :: a4 :: a5 :: a6 :: a7 :: a8 :: a9 :: a10 :: a11 :: vI x :: t) st M) : AJ K S pc (a0 :: a1 :: a2 :: a3 :: a4 :: a5 :: a6 :: a7 :: a8 :: a9 :: a10 :: a11 :: b :: t) (vI x :: st) M := ab_istore (i := 12) C hd (by simp) (fun w hw => by cases hw; exact hp) h
theorem ab_astore12 {K : AbK} {cc : ByteArray} {own : String} {rm : Room} (C : Cx K cc own rm) {S : List AbS} {pc : Nat} {lv st : List AbV} {M : AbM} {a0 a1 a2 a3 a4 a5 a6 a7 a8 a9 a10 a11 b : AbV} {t : List AbV} {x : Nat} (hp : ab_cat a11 = 1) (hd : decode cc pc = .ok (.astore 12, 2)) (h : AJ K S (pc + 2) (a0 :: a1 :: a2 :: a3 :: a4 :: a5 :: a6 :: a7 :: a8 :: a9 :: a10 :: a11 :: vP x :: t) st M) : AJ K S pc (a0 :: a1 :: a2 :: a3 :: a4 :: a5 :: a6 :: a7 :: a8 :: a9 :: a10 :: a11 :: b :: t) (vP x :: st) M := ab_astore (i := 12) C hd (by simp) (fun w hw => by cases hw; exact hp) h
theorem ab_iinc12 {K : AbK} {cc : ByteArray} {own : String} {rm : Room} (C : Cx K cc own rm) {S : List AbS} {pc : Nat} {lv st : List AbV} {M : AbM} {a0 a1 a2 a3 a4 a5 a6 a7 a8 a9 a10 a11 : AbV} {t : List AbV} {x n : Int} (hp : ab_cat a11 = 1) (hd : decode cc pc = .ok (.iinc 12 n, 3)) (hr : inI (x + n)) (h : AJ K S (pc + 3) (a0 :: a1 :: a2 :: a3 :: a4 :: a5 :: a6 :: a7 :: a8 :: a9 :: a10 :: a11 :: vI (x + n) :: t) st M) : AJ K S pc (a0 :: a1 :: a2 :: a3 :: a4 :: a5 :: a6 :: a7 :: a8 :: a9 :: a10 :: a11 :: vI x :: t) st M := ab_iinc (i := 12) C hd rfl (fun w hw => by cases hw; exact hp) hr h
theorem ab_istore13 {K : AbK} {cc : ByteArray} {own : String} {rm : Room} (C : Cx K cc own rm) {S : List AbS} {pc : Nat} {lv st : List AbV} {M : AbM} {a0 a1 a2 a3 a4 a5 a6 a7 a8 a9 a10 a11 a12 b : AbV} {t : List AbV} {x : Int} (hp : ab_cat a12 = 1) (hd : decode cc pc = .ok (.istore 13, 2)) (h : AJ K S (pc + 2) (a0 :: a1 :: a2 :: a3 :: a4 :: a5 :: a6 :: a7 :: a8 :: a9 :: a10 :: a11 :: a12 :: vI x :: t) st M) : AJ K S pc (a0 :: a1 :: a2 :: a3 :: a4 :: a5 :: a6 :: a7 :: a8 :: a9 :: a10 :: a11 :: a12 :: b :: t) (vI x :: st) M := ab_istore (i := 13) C hd (by simp) (fun w hw => by cases hw; exact hp) h
theorem ab_astore13 {K : AbK} {cc : ByteArray} {own : String} {rm : Room} (C : Cx K cc own rm) {S : List AbS} {pc : Nat} {lv st : List AbV} {M : AbM} {a0 a1 a2 a3 a4 a5 a6 a7 a8 a9 a10 a11 a12 b : AbV} {t : List AbV} {x : Nat} (hp : ab_cat a12 = 1) (hd : decode cc pc = .ok (.astore 13, 2)) (h : AJ K S (pc + 2) (a0 :: a1 :: a2 :: a3 :: a4 :: a5 :: a6 :: a7 :: a8 :: a9 :: a10 :: a11 :: a12 :: vP x :: t) st M) : AJ K S pc (a0 :: a1 :: a2 :: a3 :: a4 :: a5 :: a6 :: a7 :: a8 :: a9 :: a10 :: a11 :: a12 :: b :: t) (vP x :: st) M := ab_astore (i := 13) C hd (by simp) (fun w hw => by cases hw; exact hp) h
theorem ab_iinc13 {K : AbK} {cc : ByteArray} {own : String} {rm : Room} (C : Cx K cc own rm) {S : List AbS} {pc : Nat} {lv st : List AbV} {M : AbM} {a0 a1 a2 a3 a4 a5 a6 a7 a8 a9 a10 a11 a12 : AbV} {t : List AbV} {x n : Int} (hp : ab_cat a12 = 1) (hd : decode cc pc = .ok (.iinc 13 n, 3)) (hr : inI (x + n)) (h : AJ K S (pc + 3) (a0 :: a1 :: a2 :: a3 :: a4 :: a5 :: a6 :: a7 :: a8 :: a9 :: a10 :: a11 :: a12 :: vI (x + n) :: t) st M) : AJ K S pc (a0 :: a1 :: a2 :: a3 :: a4 :: a5 :: a6 :: a7 :: a8 :: a9 :: a10 :: a11 :: a12 :: vI x :: t) st M := ab_iinc (i := 13) C hd rfl (fun w hw => by cases hw; exact hp) hr h
theorem ab_istore14 {K : AbK} {cc : ByteArray} {own : String} {rm : Room} (C : Cx K cc own rm) {S : List AbS} {pc : Nat} {lv st : List AbV} {M : AbM} {a0 a1 a2 a3 a4 a5 a6 a7 a8 a9 a10 a11 a12 a13 b : AbV} {t : List AbV} {x : Int} (hp : ab_cat a13 = 1) (hd : decode cc pc = .ok (.istore 14, 2)) (h : AJ K S (pc + 2) (a0 :: a1 :: a2 :: a3 :: a4 :: a5 :: a6 :: a7 :: a8 :: a9 :: a10 :: a11 :: a12 :: a13 :: vI x :: t) st M) : AJ K S pc (a0 :: a1 :: a2 :: a3 :: a4 :: a5 :: a6 :: a7 :: a8 :: a9 :: a10 :: a11 :: a12 :: a13 :: b :: t) (vI x :: st) M := ab_istore (i := 14) C hd (by simp) (fun w hw => by cases hw; exact hp) h
theorem ab_astore14 {K : AbK} {cc : ByteArray} {own : String} {rm : Room} (C : Cx K cc own rm) {S : List AbS} {pc : Nat} {lv st : List AbV} {M : AbM} {a0 a1 a2 a3 a4 a5 a6 a7 a8 a9 a10 a11 a12 a13 b : AbV} {t : List AbV} {x : Nat} (hp : ab_cat a13 = 1) (hd : decode cc pc = .ok (.astore 14, 2)) (h : AJ K S (pc + 2) (a0 :: a1 :: a2 :: a3 :: a4 :: a5 :: a6 :: a7 :: a8 :: a9 :: a10 :: a11 :: a12 :: a13 :: vP x :: t) st M) : AJ K S pc (a0 :: a1 :: a2 :: a3 :: a4 :: a5 :: a6 :: a7 :: a8 :: a9 :: a10 :: a11 :: a12 :: a13 :: b :: t) (vP x :: st) M := ab_astore (i := 14) C hd (by simp) (fun w hw => by cases hw; exact hp) h
theorem ab_iinc14 {K : AbK} {cc : ByteArray} {own : String} {rm : Room} (C : Cx K cc own rm) {S : List AbS} {pc : Nat} {lv st : List AbV} {M : AbM} {a0 a1 a2 a3 a4 a5 a6 a7 a8 a9 a10 a11 a12 a13 : AbV} {t : List AbV} {x n : Int} (hp : ab_cat a13 = 1) (hd : decode cc pc = .ok (.iinc 14 n, 3)) (hr : inI (x + n)) (h : AJ K S (pc + 3) (a0 :: a1 :: a2 :: a3 :: a4 :: a5 :: a6 :: a7 :: a8 :: a9 :: a10 :: a11 :: a12 :: a13 :: vI (x + n) :: t) st M) : AJ K S pc (a0 :: a1 :: a2 :: a3 :: a4 :: a5 :: a6 :: a7 :: a8 :: a9 :: a10 :: a11 :: a12 :: a13 :: vI x :: t) st M := ab_iinc (i := 14) C hd rfl (fun w hw => by cases hw; exact hp) hr h
theorem ab_istore15 {K : AbK} {cc : ByteArray} {own : String} {rm : Room} (C : Cx K cc own rm) {S : List AbS} {pc : Nat} {lv st : List AbV} {M : AbM} {a0 a1 a2 a3 a4 a5 a6 a7 a8 a9 a10 a11 a12 a13 a14 b : AbV} {t : List AbV} {x : Int} (hp : ab_cat a14 = 1) (hd : decode cc pc = .ok (.istore 15, 2)) (h : AJ K S (pc + 2) (a0 :: a1 :: a2 :: a3 :: a4 :: a5 :: a6 :: a7 :: a8 :: a9 :: a10 :: a11 :: a12 :: a13 :: a14 :: vI x :: t) st M) : AJ K S pc (a0 :: a1 :: a2 :: a3 :: a4 :: a5 :: a6 :: a7 :: a8 :: a9 :: a10 :: a11 :: a12 :: a13 :: a14 :: b :: t) (vI x :: st) M := ab_istore (i := 15) C hd (by simp) (fun w hw => by cases hw; exact hp) h
theorem ab_astore15 {K : AbK} {cc : ByteArray} {own : String} {rm : Room} (C : Cx K cc own rm) {S : List AbS} {pc : Nat} {lv st : List AbV} {M : AbM} {a0 a1 a2 a3 a4 a5 a6 a7 a8 a9 a10 a11 a12 a13 a14 b : AbV} {t : List AbV} {x : Nat} (hp : ab_cat a14 = 1) (hd : decode cc pc = .ok (.astore 15, 2)) (h : AJ K S (pc + 2) (a0 :: a1 :: a2 :: a3 :: a4 :: a5 :: a6 :: a7 :: a8 :: a9 :: a10 :: a11 :: a12 :: a13 :: a14 :: vP x :: t) st M) : AJ K S pc (a0 :: a1 :: a2 :: a3 :: a4 :: a5 :: a6 :: a7 :: a8 :: a9 :: a10 :: a11 :: a12 :: a13 :: a14 :: b :: t) (vP x :: st) M := ab_astore (i := 15) C hd (by simp) (fun w hw => by cases hw; exact hp) h
theorem ab_iinc15 {K : AbK} {cc : ByteArray} {own : String} {rm : Room} (C : Cx K cc own rm) {S : List AbS} {pc : Nat} {lv st : List AbV} {M : AbM} {a0 a1 a2 a3 a4 a5 a6 a7 a8 a9 a10 a11 a12 a13 a14 : AbV} {t : List AbV} {x n : Int} (hp : ab_cat a14 = 1) (hd : decode cc pc = .ok (.iinc 15 n, 3)) (hr : inI (x + n)) (h : AJ K S (pc + 3) (a0 :: a1 :: a2 :: a3 :: a4 :: a5 :: a6 :: a7 :: a8 :: a9 :: a10 :: a11 :: a12 :: a13 :: a14 :: vI (x + n) :: t) st M) : AJ K S pc (a0 :: a1 :: a2 :: a3 :: a4 :: a5 :: a6 :: a7 :: a8 :: a9 :: a10 :: a11 :: a12 :: a13 :: a14 :: vI x :: t) st M := ab_iinc (i := 15) C hd rfl (fun w hw => by cases hw; exact hp) hr h
theorem ab_istore16 {K : AbK} {cc : ByteArray} {own : String} {rm : Room} (C : Cx K cc own rm) {S : List AbS} {pc : Nat} {lv st : List AbV} {M : AbM} {a0 a1 a2 a3 a4 a5 a6 a7 a8 a9 a10 a11 a12 a13 a14 a15 b : AbV} {t : List AbV} {x : Int} (hp : ab_cat a15 = 1) (hd : decode cc pc = .ok (.istore 16, 2)) (h : AJ K S (pc + 2) (a0 :: a1 :: a2 :: a3 :: a4 :: a5 :: a6 :: a7 :: a8 :: a9 :: a10 :: a11 :: a12 :: a13 :: a14 :: a15 :: vI x :: t) st M) : AJ K S pc (a0 :: a1 :: a2 :: a3 :: a4 :: a5 :: a6 :: a7 :: a8 :: a9 :: a10 :: a11 :: a12 :: a13 :: a14 :: a15 :: b :: t) (vI x :: st) M := ab_istore (i := 16) C hd (by simp) (fun w hw => by cases hw; exact hp) h
theorem ab_astore16 {K : AbK} {cc : ByteArray} {own : String} {rm : Room} (C : Cx K cc own rm) {S : List AbS} {pc : Nat} {lv st : List AbV} {M : AbM} {a0 a1 a2 a3 a4 a5 a6 a7 a8 a9 a10 a11 a12 a13 a14 a15 b : AbV} {t : List AbV} {x : Nat} (hp : ab_cat a15 = 1) (hd : decode cc pc = .ok (.astore 16, 2)) (h : AJ K S (pc + 2) (a0 :: a1 :: a2 :: a3 :: a4 :: a5 :: a6 :: a7 :: a8 :: a9 :: a10 :: a11 :: a12 :: a13 :: a14 :: a15 :: vP x :: t) st M) : AJ K S pc (a0 :: a1 :: a2 :: a3 :: a4 :: a5 :: a6 :: a7 :: a8 :: a9 :: a10 :: a11 :: a12 :: a13 :: a14 :: a15 :: b :: t) (vP x :: st) M := ab_astore (i := 16) C hd (by simp) (fun w hw => by cases hw; exact hp) h
theorem ab_iinc16 {K : AbK} {cc : ByteArray} {own : String} {rm : Room} (C : Cx K cc own rm) {S : List AbS} {pc : Nat} {lv st : List AbV} {M : AbM} {a0 a1 a2 a3 a4 a5 a6 a7 a8 a9 a10 a11 a12 a13 a14 a15 : AbV} {t : List AbV} {x n : Int} (hp : ab_cat a15 = 1) (hd : decode cc pc = .ok (.iinc 16 n, 3)) (hr : inI (x + n)) (h : AJ K S (pc + 3) (a0 :: a1 :: a2 :: a3 :: a4 :: a5 :: a6 :: a7 :: a8 :: a9 :: a10 :: a11 :: a12 :: a13 :: a14 :: a15 :: vI (x + n) :: t) st M) : AJ K S pc (a0 :: a1 :: a2 :: a3 :: a4 :: a5 :: a6 :: a7 :: a8 :: a9 :: a10 :: a11 :: a12 :: a13 :: a14 :: a15 :: vI x :: t) st M := ab_iinc (i := 16) C hd rfl (fun w hw => by cases hw; exact hp) hr h
theorem ab_istore17 {K : AbK} {cc : ByteArray} {own : String} {rm : Room} (C : Cx K cc own rm) {S : List AbS} {pc : Nat} {lv st : List AbV} {M : AbM} {a0 a1 a2 a3 a4 a5 a6 a7 a8 a9 a10 a11 a12 a13 a14 a15 a16 b : AbV} {t : List AbV} {x : Int} (hp : ab_cat a16 = 1) (hd : decode cc pc = .ok (.istore 17, 2)) (h : AJ K S (pc + 2) (a0 :: a1 :: a2 :: a3 :: a4 :: a5 :: a6 :: a7 :: a8 :: a9 :: a10 :: a11 :: a12 :: a13 :: a14 :: a15 :: a16 :: vI x :: t) st M) : AJ K S pc (a0 :: a1 :: a2 :: a3 :: a4 :: a5 :: a6 :: a7 :: a8 :: a9 :: a10 :: a11 :: a12 :: a13 :: a14 :: a15 :: a16 :: b :: t) (vI x :: st) M := ab_istore (i := 17) C hd (by simp) (fun w hw => by cases hw; exact hp) h
theorem ab_astore17 {K : AbK} {cc : ByteArray} {own : String} {rm : Room} (C : Cx K cc own rm) {S : List AbS} {pc : Nat} {lv st : List AbV} {M : AbM} {a0 a1 a2 a3 a4 a5 a6 a7 a8 a9 a10 a11 a12 a13 a14 a15 a16 b : AbV} {t : List AbV} {x : Nat} (hp : ab_cat a16 = 1) (hd : decode cc pc = .ok (.astore 17, 2)) (h : AJ K S (pc + 2) (a0 :: a1 :: a2 :: a3 :: a4 :: a5 :: a6 :: a7 :: a8 :: a9 :: a10 :: a11 :: a12 :: a13 :: a14 :: a15 :: a16 :: vP x :: t) st M) : AJ K S pc (a0 :: a1 :: a2 :: a3 :: a4 :: a5 :: a6 :: a7 :: a8 :: a9 :: a10 :: a11 :: a12 :: a13 :: a14 :: a15 :: a16 :: b :: t) (vP x :: st) M := ab_astore (i := 17) C hd (by simp) (fun w hw => by cases hw; exact hp) h
theorem ab_iinc17 {K : AbK} {cc : ByteArray} {own : String} {rm : Room} (C : Cx K cc own rm) {S : List AbS} {pc : Nat} {lv st : List AbV} {M : AbM} {a0 a1 a2 a3 a4 a5 a6 a7 a8 a9 a10 a11 a12 a13 a14 a15 a16 : AbV} {t : List AbV} {x n : Int} (hp : ab_cat a16 = 1) (hd : decode cc pc = .ok (.iinc 17 n, 3)) (hr : inI (x + n)) (h : AJ K S (pc + 3) (a0 :: a1 :: a2 :: a3 :: a4 :: a5 :: a6 :: a7 :: a8 :: a9 :: a10 :: a11 :: a12 :: a13 :: a14 :: a15 :: a16 :: vI (x + n) :: t) st M) : AJ K S pc (a0 :: a1 :: a2 :: a3 :: a4 :: a5 :: a6 :: a7 :: a8 :: a9 :: a10 :: a11 :: a12 :: a13 :: a14 :: a15 :: a16 :: vI x :: t) st M := ab_iinc (i := 17) C hd rfl (fun w hw => by cases hw; exact hp) hr h
theorem ab_iadd {K : AbK} {cc : ByteArray} {own : String} {rm : Room} (C : Cx K cc own rm) {S : List AbS} {pc : Nat} {lv st : List AbV} {M : AbM} {x y : Int} (hd : decode cc pc = .ok (.iadd, 1)) (hr : inI (x + y)) (h : AJ K S (pc + 1) lv (vI (x + y) :: st) M) : AJ K S pc lv (vI y :: vI x :: st) M := by
  obtain ⟨p, l, e, R, s, m, args, below, meth, c, Q, D, cA, A, ads, nL⟩ := K
  obtain ⟨hx, hb, hml, hown, hts, hlk, hK, hA, hR, hX⟩ := C
  intro H locs ls hP hD hO hS hL hl hs
  have h1 := h H locs ls hP hD hO hS hL hl (ab_c hr (List.forall_mem_cons.mp (List.forall_mem_cons.mp hs).2).2)
  refine lv_iadd (x := Int32.ofInt x) (y := Int32.ofInt y) hx hb hd ?_
  rw [← Int32.ofInt_add]
  exact h1
theorem ab_isub {K : AbK} {cc : ByteArray} {own : String} {rm : Room} (C : Cx K cc own rm) {S : List AbS} {pc : Nat} {lv st : List AbV} {M : AbM} {x y : Int} (hd : decode cc pc = .ok (.isub, 1)) (hr : inI (x - y)) (h : AJ K S (pc + 1) lv (vI (x - y) :: st) M) : AJ K S pc lv (vI y :: vI x :: st) M := by
  obtain ⟨p, l, e, R, s, m, args, below, meth, c, Q, D, cA, A, ads, nL⟩ := K
  obtain ⟨hx, hb, hml, hown, hts, hlk, hK, hA, hR, hX⟩ := C
  intro H locs ls hP hD hO hS hL hl hs
  have h1 := h H locs ls hP hD hO hS hL hl (ab_c hr (List.forall_mem_cons.mp (List.forall_mem_cons.mp hs).2).2)
  refine lv_isub (x := Int32.ofInt x) (y := Int32.ofInt y) hx hb hd ?_
  rw [← Int32.ofInt_sub]
  exact h1
theorem ab_imul {K : AbK} {cc : ByteArray} {own : String} {rm : Room} (C : Cx K cc own rm) {S : List AbS} {pc : Nat} {lv st : List AbV} {M : AbM} {x y : Int} (hd : decode cc pc = .ok (.imul, 1)) (hr : inI (x * y)) (h : AJ K S (pc + 1) lv (vI (x * y) :: st) M) : AJ K S pc lv (vI y :: vI x :: st) M := by
  obtain ⟨p, l, e, R, s, m, args, below, meth, c, Q, D, cA, A, ads, nL⟩ := K
  obtain ⟨hx, hb, hml, hown, hts, hlk, hK, hA, hR, hX⟩ := C
  intro H locs ls hP hD hO hS hL hl hs
  have h1 := h H locs ls hP hD hO hS hL hl (ab_c hr (List.forall_mem_cons.mp (List.forall_mem_cons.mp hs).2).2)
  refine lv_imul (x := Int32.ofInt x) (y := Int32.ofInt y) hx hb hd ?_
  rw [← Int32.ofInt_mul]
  exact h1
theorem ab_ladd {K : AbK} {cc : ByteArray} {own : String} {rm : Room} (C : Cx K cc own rm) {S : List AbS} {pc : Nat} {lv st : List AbV} {M : AbM} {x y : Int} (hd : decode cc pc = .ok (.ladd, 1)) (hr : inL (x + y)) (h : AJ K S (pc + 1) lv (vL (x + y) :: st) M) : AJ K S pc lv (vL y :: vL x :: st) M := by
  obtain ⟨p, l, e, R, s, m, args, below, meth, c, Q, D, cA, A, ads, nL⟩ := K
  obtain ⟨hx, hb, hml, hown, hts, hlk, hK, hA, hR, hX⟩ := C
  intro H locs ls hP hD hO hS hL hl hs
  have h1 := h H locs ls hP hD hO hS hL hl (ab_c hr (List.forall_mem_cons.mp (List.forall_mem_cons.mp hs).2).2)
  refine lv_ladd (x := Int64.ofInt x) (y := Int64.ofInt y) hx hb hd ?_
  rw [← Int64.ofInt_add]
  exact h1
theorem ab_lsub {K : AbK} {cc : ByteArray} {own : String} {rm : Room} (C : Cx K cc own rm) {S : List AbS} {pc : Nat} {lv st : List AbV} {M : AbM} {x y : Int} (hd : decode cc pc = .ok (.lsub, 1)) (hr : inL (x - y)) (h : AJ K S (pc + 1) lv (vL (x - y) :: st) M) : AJ K S pc lv (vL y :: vL x :: st) M := by
  obtain ⟨p, l, e, R, s, m, args, below, meth, c, Q, D, cA, A, ads, nL⟩ := K
  obtain ⟨hx, hb, hml, hown, hts, hlk, hK, hA, hR, hX⟩ := C
  intro H locs ls hP hD hO hS hL hl hs
  have h1 := h H locs ls hP hD hO hS hL hl (ab_c hr (List.forall_mem_cons.mp (List.forall_mem_cons.mp hs).2).2)
  refine lv_lsub (x := Int64.ofInt x) (y := Int64.ofInt y) hx hb hd ?_
  rw [← Int64.ofInt_sub]
  exact h1
theorem ab_lmul {K : AbK} {cc : ByteArray} {own : String} {rm : Room} (C : Cx K cc own rm) {S : List AbS} {pc : Nat} {lv st : List AbV} {M : AbM} {x y : Int} (hd : decode cc pc = .ok (.lmul, 1)) (hr : inL (x * y)) (h : AJ K S (pc + 1) lv (vL (x * y) :: st) M) : AJ K S pc lv (vL y :: vL x :: st) M := by
  obtain ⟨p, l, e, R, s, m, args, below, meth, c, Q, D, cA, A, ads, nL⟩ := K
  obtain ⟨hx, hb, hml, hown, hts, hlk, hK, hA, hR, hX⟩ := C
  intro H locs ls hP hD hO hS hL hl hs
  have h1 := h H locs ls hP hD hO hS hL hl (ab_c hr (List.forall_mem_cons.mp (List.forall_mem_cons.mp hs).2).2)
  refine lv_lmul (x := Int64.ofInt x) (y := Int64.ofInt y) hx hb hd ?_
  rw [← Int64.ofInt_mul]
  exact h1
theorem ab_ineg {K : AbK} {cc : ByteArray} {own : String} {rm : Room} (C : Cx K cc own rm) {S : List AbS} {pc : Nat} {lv st : List AbV} {M : AbM} {x : Int} (hd : decode cc pc = .ok (.ineg, 1)) (hr : inI (-x)) (h : AJ K S (pc + 1) lv (vI (-x) :: st) M) : AJ K S pc lv (vI x :: st) M := by
  obtain ⟨p, l, e, R, s, m, args, below, meth, c, Q, D, cA, A, ads, nL⟩ := K
  obtain ⟨hx, hb, hml, hown, hts, hlk, hK, hA, hR, hX⟩ := C
  intro H locs ls hP hD hO hS hL hl hs
  have h1 := h H locs ls hP hD hO hS hL hl (ab_c hr (List.forall_mem_cons.mp hs).2)
  refine lv_ineg (x := Int32.ofInt x) hx hb hd ?_
  rw [← Int32.ofInt_neg]
  exact h1
theorem ab_idiv {K : AbK} {cc : ByteArray} {own : String} {rm : Room} (C : Cx K cc own rm) {S : List AbS} {pc : Nat} {lv st : List AbV} {M : AbM} {x y : Int} (hd : decode cc pc = .ok (.idiv, 1)) (h0 : 0 ≤ x) (h1 : 0 < y) (h : AJ K S (pc + 1) lv (vI (x / y) :: st) M) : AJ K S pc lv (vI y :: vI x :: st) M := by
  obtain ⟨p, l, e, R, s, m, args, below, meth, c, Q, D, cA, A, ads, nL⟩ := K
  obtain ⟨hx, hb, hml, hown, hts, hlk, hK, hA, hR, hX⟩ := C
  intro H locs ls hP hD hO hS hL hl hs
  obtain ⟨hy, hs⟩ := List.forall_mem_cons.mp hs
  obtain ⟨hx2, hs⟩ := List.forall_mem_cons.mp hs
  have hq : 0 ≤ x / y := Int.ediv_nonneg h0 (by omega)
  have hq2 : x / y ≤ x := Int.ediv_le_self y h0
  have hr : inI (x / y) := ⟨by omega, by have := hx2.2; omega⟩
  have h2 := h H locs ls hP hD hO hS hL hl (ab_c hr hs)
  refine lv_idiv (x := Int32.ofInt x) (y := Int32.ofInt y) hx hb hd (fun z => ?_) ?_
  · have := (ab_eq hy (by decide)).mp (z.trans (by decide : (0 : Int32) = Int32.ofInt 0))
    omega
  · rw [ab_div hx2 hy h0 h1]
    exact h2
theorem ab_irem {K : AbK} {cc : ByteArray} {own : String} {rm : Room} (C : Cx K cc own rm) {S : List AbS} {pc : Nat} {lv st : List AbV} {M : AbM} {x y : Int} (hd : decode cc pc = .ok (.irem, 1)) (h0 : 0 ≤ x) (h1 : 0 < y) (h : AJ K S (pc + 1) lv (vI (x % y) :: st) M) : AJ K S pc lv (vI y :: vI x :: st) M := by
  obtain ⟨p, l, e, R, s, m, args, below, meth, c, Q, D, cA, A, ads, nL⟩ := K
  obtain ⟨hx, hb, hml, hown, hts, hlk, hK, hA, hR, hX⟩ := C
  intro H locs ls hP hD hO hS hL hl hs
  obtain ⟨hy, hs⟩ := List.forall_mem_cons.mp hs
  obtain ⟨hx2, hs⟩ := List.forall_mem_cons.mp hs
  have hq : 0 ≤ x % y := Int.emod_nonneg x (by omega)
  have hq2 : x % y < y := Int.emod_lt_of_pos x h1
  have hr : inI (x % y) := ⟨by omega, by have := hy.2; omega⟩
  have h2 := h H locs ls hP hD hO hS hL hl (ab_c hr hs)
  refine lv_irem (x := Int32.ofInt x) (y := Int32.ofInt y) hx hb hd (fun z => ?_) ?_
  · have := (ab_eq hy (by decide)).mp (z.trans (by decide : (0 : Int32) = Int32.ofInt 0))
    omega
  · rw [ab_rem hx2 hy h0 h1]
    exact h2
theorem ab_iremT {K : AbK} {cc : ByteArray} {own : String} {rm : Room} (C : Cx K cc own rm) {S : List AbS} {pc : Nat} {lv st : List AbV} {M : AbM} {x y : Int} (hd : decode cc pc = .ok (.irem, 1)) (h1 : 2 ≤ y) (h : AJ K S (pc + 1) lv (vI (x.tmod y) :: st) M) : AJ K S pc lv (vI y :: vI x :: st) M := by
  obtain ⟨p, l, e, R, s, m, args, below, meth, c, Q, D, cA, A, ads, nL⟩ := K
  obtain ⟨hx, hb, hml, hown, hts, hlk, hK, hA, hR, hX⟩ := C
  intro H locs ls hP hD hO hS hL hl hs
  obtain ⟨hy, hs⟩ := List.forall_mem_cons.mp hs
  obtain ⟨hx2, hs⟩ := List.forall_mem_cons.mp hs
  obtain ⟨hq2, hq⟩ := ab_tmodB (x := x) (show 0 < y by omega)
  have hr : inI (x.tmod y) := ⟨by have := hy.2; omega, by have := hy.2; omega⟩
  have h2 := h H locs ls hP hD hO hS hL hl (ab_c hr hs)
  refine lv_irem (x := Int32.ofInt x) (y := Int32.ofInt y) hx hb hd (fun z => ?_) ?_
  · have := (ab_eq hy (by decide)).mp (z.trans (by decide : (0 : Int32) = Int32.ofInt 0))
    omega
  · rw [ab_trem hx2 hy h1]
    exact h2
theorem ab_lremT {K : AbK} {cc : ByteArray} {own : String} {rm : Room} (C : Cx K cc own rm) {S : List AbS} {pc : Nat} {lv st : List AbV} {M : AbM} {x y : Int} (hd : decode cc pc = .ok (.lrem, 1)) (h1 : 2 ≤ y) (h : AJ K S (pc + 1) lv (vL (x.tmod y) :: st) M) : AJ K S pc lv (vL y :: vL x :: st) M := by
  obtain ⟨p, l, e, R, s, m, args, below, meth, c, Q, D, cA, A, ads, nL⟩ := K
  obtain ⟨hx, hb, hml, hown, hts, hlk, hK, hA, hR, hX⟩ := C
  intro H locs ls hP hD hO hS hL hl hs
  obtain ⟨hy, hs⟩ := List.forall_mem_cons.mp hs
  obtain ⟨hx2, hs⟩ := List.forall_mem_cons.mp hs
  obtain ⟨hq2, hq⟩ := ab_tmodB (x := x) (show 0 < y by omega)
  have hr : inL (x.tmod y) := ⟨by have := hy.2; omega, by have := hy.2; omega⟩
  have h2 := h H locs ls hP hD hO hS hL hl (ab_c hr hs)
  refine lv_lrem (x := Int64.ofInt x) (y := Int64.ofInt y) hx hb hd (fun z => ?_) ?_
  · have := (ab_eq64 hy (by decide)).mp (z.trans (by decide : (0 : Int64) = Int64.ofInt 0))
    omega
  · rw [ab_trem64 hx2 hy h1]
    exact h2
theorem ab_iand {K : AbK} {cc : ByteArray} {own : String} {rm : Room} (C : Cx K cc own rm) {S : List AbS} {pc : Nat} {lv st : List AbV} {M : AbM} {x y z : Int} (hd : decode cc pc = .ok (.iand, 1)) (hr : inI z) (he : Int32.ofInt x &&& Int32.ofInt y = Int32.ofInt z) (h : AJ K S (pc + 1) lv (vI z :: st) M) : AJ K S pc lv (vI y :: vI x :: st) M := by
  obtain ⟨p, l, e, R, s, m, args, below, meth, c, Q, D, cA, A, ads, nL⟩ := K
  obtain ⟨hx, hb, hml, hown, hts, hlk, hK, hA, hR, hX⟩ := C
  intro H locs ls hP hD hO hS hL hl hs
  have h1 := h H locs ls hP hD hO hS hL hl (ab_c hr (List.forall_mem_cons.mp (List.forall_mem_cons.mp hs).2).2)
  refine lv_iand (x := Int32.ofInt x) (y := Int32.ofInt y) hx hb hd ?_
  rw [he]
  exact h1
theorem ab_ishl {K : AbK} {cc : ByteArray} {own : String} {rm : Room} (C : Cx K cc own rm) {S : List AbS} {pc : Nat} {lv st : List AbV} {M : AbM} {x y z : Int} (hd : decode cc pc = .ok (.ishl, 1)) (hr : inI z) (he : Int32.ofInt x <<< (Int32.ofInt y &&& 31) = Int32.ofInt z) (h : AJ K S (pc + 1) lv (vI z :: st) M) : AJ K S pc lv (vI y :: vI x :: st) M := by
  obtain ⟨p, l, e, R, s, m, args, below, meth, c, Q, D, cA, A, ads, nL⟩ := K
  obtain ⟨hx, hb, hml, hown, hts, hlk, hK, hA, hR, hX⟩ := C
  intro H locs ls hP hD hO hS hL hl hs
  have h1 := h H locs ls hP hD hO hS hL hl (ab_c hr (List.forall_mem_cons.mp (List.forall_mem_cons.mp hs).2).2)
  refine lv_ishl (x := Int32.ofInt x) (y := Int32.ofInt y) hx hb hd ?_
  rw [he]
  exact h1
theorem ab_ishr {K : AbK} {cc : ByteArray} {own : String} {rm : Room} (C : Cx K cc own rm) {S : List AbS} {pc : Nat} {lv st : List AbV} {M : AbM} {x y z : Int} (hd : decode cc pc = .ok (.ishr, 1)) (hr : inI z) (he : Int32.ofInt x >>> (Int32.ofInt y &&& 31) = Int32.ofInt z) (h : AJ K S (pc + 1) lv (vI z :: st) M) : AJ K S pc lv (vI y :: vI x :: st) M := by
  obtain ⟨p, l, e, R, s, m, args, below, meth, c, Q, D, cA, A, ads, nL⟩ := K
  obtain ⟨hx, hb, hml, hown, hts, hlk, hK, hA, hR, hX⟩ := C
  intro H locs ls hP hD hO hS hL hl hs
  have h1 := h H locs ls hP hD hO hS hL hl (ab_c hr (List.forall_mem_cons.mp (List.forall_mem_cons.mp hs).2).2)
  refine lv_ishr (x := Int32.ofInt x) (y := Int32.ofInt y) hx hb hd ?_
  rw [he]
  exact h1
theorem ab_land {K : AbK} {cc : ByteArray} {own : String} {rm : Room} (C : Cx K cc own rm) {S : List AbS} {pc : Nat} {lv st : List AbV} {M : AbM} {x y z : Int} (hd : decode cc pc = .ok (.land, 1)) (hr : inL z) (he : Int64.ofInt x &&& Int64.ofInt y = Int64.ofInt z) (h : AJ K S (pc + 1) lv (vL z :: st) M) : AJ K S pc lv (vL y :: vL x :: st) M := by
  obtain ⟨p, l, e, R, s, m, args, below, meth, c, Q, D, cA, A, ads, nL⟩ := K
  obtain ⟨hx, hb, hml, hown, hts, hlk, hK, hA, hR, hX⟩ := C
  intro H locs ls hP hD hO hS hL hl hs
  have h1 := h H locs ls hP hD hO hS hL hl (ab_c hr (List.forall_mem_cons.mp (List.forall_mem_cons.mp hs).2).2)
  refine lv_land (x := Int64.ofInt x) (y := Int64.ofInt y) hx hb hd ?_
  rw [he]
  exact h1
theorem ab_lor {K : AbK} {cc : ByteArray} {own : String} {rm : Room} (C : Cx K cc own rm) {S : List AbS} {pc : Nat} {lv st : List AbV} {M : AbM} {x y z : Int} (hd : decode cc pc = .ok (.lor, 1)) (hr : inL z) (he : Int64.ofInt x ||| Int64.ofInt y = Int64.ofInt z) (h : AJ K S (pc + 1) lv (vL z :: st) M) : AJ K S pc lv (vL y :: vL x :: st) M := by
  obtain ⟨p, l, e, R, s, m, args, below, meth, c, Q, D, cA, A, ads, nL⟩ := K
  obtain ⟨hx, hb, hml, hown, hts, hlk, hK, hA, hR, hX⟩ := C
  intro H locs ls hP hD hO hS hL hl hs
  have h1 := h H locs ls hP hD hO hS hL hl (ab_c hr (List.forall_mem_cons.mp (List.forall_mem_cons.mp hs).2).2)
  refine lv_lor (x := Int64.ofInt x) (y := Int64.ofInt y) hx hb hd ?_
  rw [he]
  exact h1
theorem ab_lushr {K : AbK} {cc : ByteArray} {own : String} {rm : Room} (C : Cx K cc own rm) {S : List AbS} {pc : Nat} {lv st : List AbV} {M : AbM} {x y z : Int} (hd : decode cc pc = .ok (.lushr, 1)) (hr : inL z) (he : ((Int64.ofInt x).toUInt64 >>> ((Int32.ofInt y).toInt64.toUInt64 &&& Int64.toUInt64 63)).toInt64 = Int64.ofInt z) (h : AJ K S (pc + 1) lv (vL z :: st) M) : AJ K S pc lv (vI y :: vL x :: st) M := by
  obtain ⟨p, l, e, R, s, m, args, below, meth, c, Q, D, cA, A, ads, nL⟩ := K
  obtain ⟨hx, hb, hml, hown, hts, hlk, hK, hA, hR, hX⟩ := C
  intro H locs ls hP hD hO hS hL hl hs
  exact lv_lushr hx hb hd he (h H locs ls hP hD hO hS hL hl (ab_c hr (List.forall_mem_cons.mp (List.forall_mem_cons.mp hs).2).2))
theorem ab_lshl {K : AbK} {cc : ByteArray} {own : String} {rm : Room} (C : Cx K cc own rm) {S : List AbS} {pc : Nat} {lv st : List AbV} {M : AbM} {x y z : Int} (hd : decode cc pc = .ok (.lshl, 1)) (hr : inL z) (he : Int64.ofInt x <<< ((Int32.ofInt y).toInt64 &&& 63) = Int64.ofInt z) (h : AJ K S (pc + 1) lv (vL z :: st) M) : AJ K S pc lv (vI y :: vL x :: st) M := by
  obtain ⟨p, l, e, R, s, m, args, below, meth, c, Q, D, cA, A, ads, nL⟩ := K
  obtain ⟨hx, hb, hml, hown, hts, hlk, hK, hA, hR, hX⟩ := C
  intro H locs ls hP hD hO hS hL hl hs
  exact lv_lshl hx hb hd he (h H locs ls hP hD hO hS hL hl (ab_c hr (List.forall_mem_cons.mp (List.forall_mem_cons.mp hs).2).2))
theorem ab_lshr {K : AbK} {cc : ByteArray} {own : String} {rm : Room} (C : Cx K cc own rm) {S : List AbS} {pc : Nat} {lv st : List AbV} {M : AbM} {x y z : Int} (hd : decode cc pc = .ok (.lshr, 1)) (hr : inL z) (he : Int64.ofInt x >>> ((Int32.ofInt y).toInt64 &&& 63) = Int64.ofInt z) (h : AJ K S (pc + 1) lv (vL z :: st) M) : AJ K S pc lv (vI y :: vL x :: st) M := by
  obtain ⟨p, l, e, R, s, m, args, below, meth, c, Q, D, cA, A, ads, nL⟩ := K
  obtain ⟨hx, hb, hml, hown, hts, hlk, hK, hA, hR, hX⟩ := C
  intro H locs ls hP hD hO hS hL hl hs
  exact lv_lshr hx hb hd he (h H locs ls hP hD hO hS hL hl (ab_c hr (List.forall_mem_cons.mp (List.forall_mem_cons.mp hs).2).2))
theorem ab_i2l {K : AbK} {cc : ByteArray} {own : String} {rm : Room} (C : Cx K cc own rm) {S : List AbS} {pc : Nat} {lv st : List AbV} {M : AbM} {x : Int} (hd : decode cc pc = .ok (.i2l, 1)) (h : AJ K S (pc + 1) lv (vL x :: st) M) : AJ K S pc lv (vI x :: st) M := by
  obtain ⟨p, l, e, R, s, m, args, below, meth, c, Q, D, cA, A, ads, nL⟩ := K
  obtain ⟨hx, hb, hml, hown, hts, hlk, hK, hA, hR, hX⟩ := C
  intro H locs ls hP hD hO hS hL hl hs
  obtain ⟨h1, hs⟩ := List.forall_mem_cons.mp hs
  have h1 : inI x := h1
  refine lv_i2l hx hb hd ?_ (h H locs ls hP hD hO hS hL hl (ab_c (show inL x from ⟨by omega, by omega⟩) hs))
  apply ab_of64
  rw [Int32.toInt_toInt64, ab_i32 h1]
theorem ab_l2i {K : AbK} {cc : ByteArray} {own : String} {rm : Room} (C : Cx K cc own rm) {S : List AbS} {pc : Nat} {lv st : List AbV} {M : AbM} {x z : Int} (hd : decode cc pc = .ok (.l2i, 1)) (hr : inI z) (he : (Int64.ofInt x).toInt32 = Int32.ofInt z) (h : AJ K S (pc + 1) lv (vI z :: st) M) : AJ K S pc lv (vL x :: st) M := by
  obtain ⟨p, l, e, R, s, m, args, below, meth, c, Q, D, cA, A, ads, nL⟩ := K
  obtain ⟨hx, hb, hml, hown, hts, hlk, hK, hA, hR, hX⟩ := C
  intro H locs ls hP hD hO hS hL hl hs
  obtain ⟨h1, hs⟩ := List.forall_mem_cons.mp hs
  exact lv_l2i hx hb hd he (h H locs ls hP hD hO hS hL hl (ab_c hr hs))
theorem ab_l2iS {K : AbK} {cc : ByteArray} {own : String} {rm : Room} (C : Cx K cc own rm) {S : List AbS} {pc : Nat} {lv st : List AbV} {M : AbM} {x : Int} (hd : decode cc pc = .ok (.l2i, 1)) (hr : inI x) (h : AJ K S (pc + 1) lv (vI x :: st) M) : AJ K S pc lv (vL x :: st) M := by
  obtain ⟨p, l, e, R, s, m, args, below, meth, c, Q, D, cA, A, ads, nL⟩ := K
  obtain ⟨hx, hb, hml, hown, hts, hlk, hK, hA, hR, hX⟩ := C
  intro H locs ls hP hD hO hS hL hl hs
  obtain ⟨h1, hs⟩ := List.forall_mem_cons.mp hs
  refine lv_l2i hx hb hd ?_ (h H locs ls hP hD hO hS hL hl (ab_c hr hs))
  apply ab_of
  rw [Int64.toInt_toInt32, ab_i64 h1]
  exact Int.bmod_eq_of_le (by have := hr.1; omega) (by have := hr.2; omega)
theorem ab_i2b {K : AbK} {cc : ByteArray} {own : String} {rm : Room} (C : Cx K cc own rm) {S : List AbS} {pc : Nat} {lv st : List AbV} {M : AbM} {x z : Int} (hd : decode cc pc = .ok (.i2b, 1)) (hr : inI z) (he : (Int32.ofInt x).toInt8.toInt32 = Int32.ofInt z) (h : AJ K S (pc + 1) lv (vI z :: st) M) : AJ K S pc lv (vI x :: st) M := by
  obtain ⟨p, l, e, R, s, m, args, below, meth, c, Q, D, cA, A, ads, nL⟩ := K
  obtain ⟨hx, hb, hml, hown, hts, hlk, hK, hA, hR, hX⟩ := C
  intro H locs ls hP hD hO hS hL hl hs
  obtain ⟨h1, hs⟩ := List.forall_mem_cons.mp hs
  exact lv_i2b hx hb hd he (h H locs ls hP hD hO hS hL hl (ab_c hr hs))
theorem ab_lcmp {K : AbK} {cc : ByteArray} {own : String} {rm : Room} (C : Cx K cc own rm) {S : List AbS} {pc : Nat} {lv st : List AbV} {M : AbM} {x y : Int} (hd : decode cc pc = .ok (.lcmp, 1)) (kg : y < x → AJ K S (pc + 1) lv (vI 1 :: st) M) (ke : x = y → AJ K S (pc + 1) lv (vI 0 :: st) M) (kl : x < y → AJ K S (pc + 1) lv (vI (-1) :: st) M) : AJ K S pc lv (vL y :: vL x :: st) M := by
  obtain ⟨p, l, e, R, s, m, args, below, meth, c, Q, D, cA, A, ads, nL⟩ := K
  obtain ⟨hx, hb, hml, hown, hts, hlk, hK, hA, hR, hX⟩ := C
  intro H locs ls hP hD hO hS hL hl hs
  obtain ⟨hy, hs⟩ := List.forall_mem_cons.mp hs
  obtain ⟨hx2, hs⟩ := List.forall_mem_cons.mp hs
  refine W.lcmp (x := Int64.ofInt x) (y := Int64.ofInt y) hx hb hd ?_
  have e1 : Int64.ofInt x > Int64.ofInt y ↔ y < x := ab_lt64 hy hx2
  have e2 := ab_eq64 hx2 hy
  rcases Int.lt_trichotomy x y with h | h | h
  · have e : lg_cmp (Int64.ofInt x) (Int64.ofInt y) = Int32.ofInt (-1) := by
      unfold lg_cmp
      rw [if_neg (fun z => by have := e1.mp z; omega), if_neg (fun z => by have := e2.mp z; omega)]
      rfl
    rw [e]
    exact kl h H locs ls hP hD hO hS hL hl (ab_c (show inI (-1) by decide) hs)
  · have e : lg_cmp (Int64.ofInt x) (Int64.ofInt y) = Int32.ofInt 0 := by
      unfold lg_cmp
      rw [if_neg (fun z => by have := e1.mp z; omega), if_pos (e2.mpr h)]
      rfl
    rw [e]
    exact ke h H locs ls hP hD hO hS hL hl (ab_c (show inI 0 by decide) hs)
  · have e : lg_cmp (Int64.ofInt x) (Int64.ofInt y) = Int32.ofInt 1 := by
      unfold lg_cmp
      rw [if_pos (e1.mpr h)]
      rfl
    rw [e]
    exact kg h H locs ls hP hD hO hS hL hl (ab_c (show inI 1 by decide) hs)
theorem ab_dup {K : AbK} {cc : ByteArray} {own : String} {rm : Room} (C : Cx K cc own rm) {S : List AbS} {pc : Nat} {lv st : List AbV} {M : AbM} {v : AbV} (hd : decode cc pc = .ok (.dup, 1)) (hc : ab_cat v = 1) (h : AJ K S (pc + 1) lv (v :: v :: st) M) : AJ K S pc lv (v :: st) M := by
  obtain ⟨p, l, e, R, s, m, args, below, meth, c, Q, D, cA, A, ads, nL⟩ := K
  obtain ⟨hx, hb, hml, hown, hts, hlk, hK, hA, hR, hX⟩ := C
  intro H locs ls hP hD hO hS hL hl hs
  obtain ⟨h1, h2⟩ := List.forall_mem_cons.mp hs
  exact lv_dup hx hb hd (ab_vcat hc) (h H locs ls hP hD hO hS hL hl (ab_c h1 hs))
theorem ab_dup2 {K : AbK} {cc : ByteArray} {own : String} {rm : Room} (C : Cx K cc own rm) {S : List AbS} {pc : Nat} {lv st : List AbV} {M : AbM} {v w : AbV} (hd : decode cc pc = .ok (.dup2, 1)) (hc : ab_cat v = 1) (hc2 : ab_cat w = 1) (h : AJ K S (pc + 1) lv (v :: w :: v :: w :: st) M) : AJ K S pc lv (v :: w :: st) M := by
  obtain ⟨p, l, e, R, s, m, args, below, meth, c, Q, D, cA, A, ads, nL⟩ := K
  obtain ⟨hx, hb, hml, hown, hts, hlk, hK, hA, hR, hX⟩ := C
  intro H locs ls hP hD hO hS hL hl hs
  obtain ⟨h1, h2⟩ := List.forall_mem_cons.mp hs
  obtain ⟨h3, h4⟩ := List.forall_mem_cons.mp h2
  exact lv_dup2_11 hx hb hd (ab_vcat hc) (ab_vcat hc2) (h H locs ls hP hD hO hS hL hl (ab_c h1 (ab_c h3 hs)))
theorem ab_goto {K : AbK} {cc : ByteArray} {own : String} {rm : Room} (C : Cx K cc own rm) {S : List AbS} {pc : Nat} {lv st : List AbV} {M : AbM} {off : Int} {tgt : Nat} (hd : decode cc pc = .ok (.goto off, 3)) (ht : (pc : Int) + off = (tgt : Int)) (h : AJ K S tgt lv st M) : AJ K S pc lv st M := by
  obtain ⟨p, l, e, R, s, m, args, below, meth, c, Q, D, cA, A, ads, nL⟩ := K
  obtain ⟨hx, hb, hml, hown, hts, hlk, hK, hA, hR, hX⟩ := C
  intro H locs ls hP hD hO hS hL hl hs
  exact lv_goto hx hb hd ht (h H locs ls hP hD hO hS hL hl hs)
theorem ab_icmp_eq {K : AbK} {cc : ByteArray} {own : String} {rm : Room} (C : Cx K cc own rm) {S : List AbS} {pc : Nat} {lv st : List AbV} {M : AbM} {x y off : Int} {tgt : Nat} (hd : decode cc pc = .ok (.if_icmp .eq off, 3)) (ht : (pc : Int) + off = (tgt : Int)) (kt : x = y → AJ K S tgt lv st M) (kf : x ≠ y → AJ K S (pc + 3) lv st M) : AJ K S pc lv (vI y :: vI x :: st) M := by
  obtain ⟨p, l, e, R, s, m, args, below, meth, c, Q, D, cA, A, ads, nL⟩ := K
  obtain ⟨hx, hb, hml, hown, hts, hlk, hK, hA, hR, hX⟩ := C
  intro H locs ls hP hD hO hS hL hl hs
  obtain ⟨hy, hs⟩ := List.forall_mem_cons.mp hs
  obtain ⟨hx2, hs⟩ := List.forall_mem_cons.mp hs
  exact lv_icmp_eq (x := Int32.ofInt x) (y := Int32.ofInt y) hx hb hd ht (fun z => kt ((ab_eq hx2 hy).mp z) H locs ls hP hD hO hS hL hl hs) (fun z => kf (fun q => z ((ab_eq hx2 hy).mpr q)) H locs ls hP hD hO hS hL hl hs)
theorem ab_if_eq {K : AbK} {cc : ByteArray} {own : String} {rm : Room} (C : Cx K cc own rm) {S : List AbS} {pc : Nat} {lv st : List AbV} {M : AbM} {x off : Int} {tgt : Nat} (hd : decode cc pc = .ok (.ifCond .eq off, 3)) (ht : (pc : Int) + off = (tgt : Int)) (kt : x = 0 → AJ K S tgt lv st M) (kf : x ≠ 0 → AJ K S (pc + 3) lv st M) : AJ K S pc lv (vI x :: st) M := by
  obtain ⟨p, l, e, R, s, m, args, below, meth, c, Q, D, cA, A, ads, nL⟩ := K
  obtain ⟨hx, hb, hml, hown, hts, hlk, hK, hA, hR, hX⟩ := C
  intro H locs ls hP hD hO hS hL hl hs
  obtain ⟨hx2, hs⟩ := List.forall_mem_cons.mp hs
  have hy : inI 0 := by decide
  exact lv_if_eq (x := Int32.ofInt x) hx hb hd ht (fun z => kt ((ab_eq hx2 hy).mp z) H locs ls hP hD hO hS hL hl hs) (fun z => kf (fun q => z ((ab_eq hx2 hy).mpr q)) H locs ls hP hD hO hS hL hl hs)
theorem ab_icmp_ne {K : AbK} {cc : ByteArray} {own : String} {rm : Room} (C : Cx K cc own rm) {S : List AbS} {pc : Nat} {lv st : List AbV} {M : AbM} {x y off : Int} {tgt : Nat} (hd : decode cc pc = .ok (.if_icmp .ne off, 3)) (ht : (pc : Int) + off = (tgt : Int)) (kt : x ≠ y → AJ K S tgt lv st M) (kf : x = y → AJ K S (pc + 3) lv st M) : AJ K S pc lv (vI y :: vI x :: st) M := by
  obtain ⟨p, l, e, R, s, m, args, below, meth, c, Q, D, cA, A, ads, nL⟩ := K
  obtain ⟨hx, hb, hml, hown, hts, hlk, hK, hA, hR, hX⟩ := C
  intro H locs ls hP hD hO hS hL hl hs
  obtain ⟨hy, hs⟩ := List.forall_mem_cons.mp hs
  obtain ⟨hx2, hs⟩ := List.forall_mem_cons.mp hs
  exact lv_icmp_ne (x := Int32.ofInt x) (y := Int32.ofInt y) hx hb hd ht (fun z => kt (fun q => z ((ab_eq hx2 hy).mpr q)) H locs ls hP hD hO hS hL hl hs) (fun z => kf ((ab_eq hx2 hy).mp z) H locs ls hP hD hO hS hL hl hs)
theorem ab_if_ne {K : AbK} {cc : ByteArray} {own : String} {rm : Room} (C : Cx K cc own rm) {S : List AbS} {pc : Nat} {lv st : List AbV} {M : AbM} {x off : Int} {tgt : Nat} (hd : decode cc pc = .ok (.ifCond .ne off, 3)) (ht : (pc : Int) + off = (tgt : Int)) (kt : x ≠ 0 → AJ K S tgt lv st M) (kf : x = 0 → AJ K S (pc + 3) lv st M) : AJ K S pc lv (vI x :: st) M := by
  obtain ⟨p, l, e, R, s, m, args, below, meth, c, Q, D, cA, A, ads, nL⟩ := K
  obtain ⟨hx, hb, hml, hown, hts, hlk, hK, hA, hR, hX⟩ := C
  intro H locs ls hP hD hO hS hL hl hs
  obtain ⟨hx2, hs⟩ := List.forall_mem_cons.mp hs
  have hy : inI 0 := by decide
  exact lv_if_ne (x := Int32.ofInt x) hx hb hd ht (fun z => kt (fun q => z ((ab_eq hx2 hy).mpr q)) H locs ls hP hD hO hS hL hl hs) (fun z => kf ((ab_eq hx2 hy).mp z) H locs ls hP hD hO hS hL hl hs)
theorem ab_icmp_lt {K : AbK} {cc : ByteArray} {own : String} {rm : Room} (C : Cx K cc own rm) {S : List AbS} {pc : Nat} {lv st : List AbV} {M : AbM} {x y off : Int} {tgt : Nat} (hd : decode cc pc = .ok (.if_icmp .lt off, 3)) (ht : (pc : Int) + off = (tgt : Int)) (kt : x < y → AJ K S tgt lv st M) (kf : y ≤ x → AJ K S (pc + 3) lv st M) : AJ K S pc lv (vI y :: vI x :: st) M := by
  obtain ⟨p, l, e, R, s, m, args, below, meth, c, Q, D, cA, A, ads, nL⟩ := K
  obtain ⟨hx, hb, hml, hown, hts, hlk, hK, hA, hR, hX⟩ := C
  intro H locs ls hP hD hO hS hL hl hs
  obtain ⟨hy, hs⟩ := List.forall_mem_cons.mp hs
  obtain ⟨hx2, hs⟩ := List.forall_mem_cons.mp hs
  exact lv_icmp_lt (x := Int32.ofInt x) (y := Int32.ofInt y) hx hb hd ht (fun z => kt ((ab_lt hx2 hy).mp z) H locs ls hP hD hO hS hL hl hs) (fun z => kf (Int.not_lt.mp (fun q => z ((ab_lt hx2 hy).mpr q))) H locs ls hP hD hO hS hL hl hs)
theorem ab_if_lt {K : AbK} {cc : ByteArray} {own : String} {rm : Room} (C : Cx K cc own rm) {S : List AbS} {pc : Nat} {lv st : List AbV} {M : AbM} {x off : Int} {tgt : Nat} (hd : decode cc pc = .ok (.ifCond .lt off, 3)) (ht : (pc : Int) + off = (tgt : Int)) (kt : x < 0 → AJ K S tgt lv st M) (kf : 0 ≤ x → AJ K S (pc + 3) lv st M) : AJ K S pc lv (vI x :: st) M := by
  obtain ⟨p, l, e, R, s, m, args, below, meth, c, Q, D, cA, A, ads, nL⟩ := K
  obtain ⟨hx, hb, hml, hown, hts, hlk, hK, hA, hR, hX⟩ := C
  intro H locs ls hP hD hO hS hL hl hs
  obtain ⟨hx2, hs⟩ := List.forall_mem_cons.mp hs
  have hy : inI 0 := by decide
  exact lv_if_lt (x := Int32.ofInt x) hx hb hd ht (fun z => kt ((ab_lt hx2 hy).mp z) H locs ls hP hD hO hS hL hl hs) (fun z => kf (Int.not_lt.mp (fun q => z ((ab_lt hx2 hy).mpr q))) H locs ls hP hD hO hS hL hl hs)
theorem ab_icmp_ge {K : AbK} {cc : ByteArray} {own : String} {rm : Room} (C : Cx K cc own rm) {S : List AbS} {pc : Nat} {lv st : List AbV} {M : AbM} {x y off : Int} {tgt : Nat} (hd : decode cc pc = .ok (.if_icmp .ge off, 3)) (ht : (pc : Int) + off = (tgt : Int)) (kt : y ≤ x → AJ K S tgt lv st M) (kf : x < y → AJ K S (pc + 3) lv st M) : AJ K S pc lv (vI y :: vI x :: st) M := by
  obtain ⟨p, l, e, R, s, m, args, below, meth, c, Q, D, cA, A, ads, nL⟩ := K
  obtain ⟨hx, hb, hml, hown, hts, hlk, hK, hA, hR, hX⟩ := C
  intro H locs ls hP hD hO hS hL hl hs
  obtain ⟨hy, hs⟩ := List.forall_mem_cons.mp hs
  obtain ⟨hx2, hs⟩ := List.forall_mem_cons.mp hs
  exact lv_icmp_ge (x := Int32.ofInt x) (y := Int32.ofInt y) hx hb hd ht (fun z => kt ((ab_le hy hx2).mp z) H locs ls hP hD hO hS hL hl hs) (fun z => kf (Int.not_le.mp (fun q => z ((ab_le hy hx2).mpr q))) H locs ls hP hD hO hS hL hl hs)
theorem ab_if_ge {K : AbK} {cc : ByteArray} {own : String} {rm : Room} (C : Cx K cc own rm) {S : List AbS} {pc : Nat} {lv st : List AbV} {M : AbM} {x off : Int} {tgt : Nat} (hd : decode cc pc = .ok (.ifCond .ge off, 3)) (ht : (pc : Int) + off = (tgt : Int)) (kt : 0 ≤ x → AJ K S tgt lv st M) (kf : x < 0 → AJ K S (pc + 3) lv st M) : AJ K S pc lv (vI x :: st) M := by
  obtain ⟨p, l, e, R, s, m, args, below, meth, c, Q, D, cA, A, ads, nL⟩ := K
  obtain ⟨hx, hb, hml, hown, hts, hlk, hK, hA, hR, hX⟩ := C
  intro H locs ls hP hD hO hS hL hl hs
  obtain ⟨hx2, hs⟩ := List.forall_mem_cons.mp hs
  have hy : inI 0 := by decide
  exact lv_if_ge (x := Int32.ofInt x) hx hb hd ht (fun z => kt ((ab_le hy hx2).mp z) H locs ls hP hD hO hS hL hl hs) (fun z => kf (Int.not_le.mp (fun q => z ((ab_le hy hx2).mpr q))) H locs ls hP hD hO hS hL hl hs)
theorem ab_icmp_gt {K : AbK} {cc : ByteArray} {own : String} {rm : Room} (C : Cx K cc own rm) {S : List AbS} {pc : Nat} {lv st : List AbV} {M : AbM} {x y off : Int} {tgt : Nat} (hd : decode cc pc = .ok (.if_icmp .gt off, 3)) (ht : (pc : Int) + off = (tgt : Int)) (kt : y < x → AJ K S tgt lv st M) (kf : x ≤ y → AJ K S (pc + 3) lv st M) : AJ K S pc lv (vI y :: vI x :: st) M := by
  obtain ⟨p, l, e, R, s, m, args, below, meth, c, Q, D, cA, A, ads, nL⟩ := K
  obtain ⟨hx, hb, hml, hown, hts, hlk, hK, hA, hR, hX⟩ := C
  intro H locs ls hP hD hO hS hL hl hs
  obtain ⟨hy, hs⟩ := List.forall_mem_cons.mp hs
  obtain ⟨hx2, hs⟩ := List.forall_mem_cons.mp hs
  exact lv_icmp_gt (x := Int32.ofInt x) (y := Int32.ofInt y) hx hb hd ht (fun z => kt ((ab_lt hy hx2).mp z) H locs ls hP hD hO hS hL hl hs) (fun z => kf (Int.not_lt.mp (fun q => z ((ab_lt hy hx2).mpr q))) H locs ls hP hD hO hS hL hl hs)
theorem ab_if_gt {K : AbK} {cc : ByteArray} {own : String} {rm : Room} (C : Cx K cc own rm) {S : List AbS} {pc : Nat} {lv st : List AbV} {M : AbM} {x off : Int} {tgt : Nat} (hd : decode cc pc = .ok (.ifCond .gt off, 3)) (ht : (pc : Int) + off = (tgt : Int)) (kt : 0 < x → AJ K S tgt lv st M) (kf : x ≤ 0 → AJ K S (pc + 3) lv st M) : AJ K S pc lv (vI x :: st) M := by
  obtain ⟨p, l, e, R, s, m, args, below, meth, c, Q, D, cA, A, ads, nL⟩ := K
  obtain ⟨hx, hb, hml, hown, hts, hlk, hK, hA, hR, hX⟩ := C
  intro H locs ls hP hD hO hS hL hl hs
  obtain ⟨hx2, hs⟩ := List.forall_mem_cons.mp hs
  have hy : inI 0 := by decide
  exact lv_if_gt (x := Int32.ofInt x) hx hb hd ht (fun z => kt ((ab_lt hy hx2).mp z) H locs ls hP hD hO hS hL hl hs) (fun z => kf (Int.not_lt.mp (fun q => z ((ab_lt hy hx2).mpr q))) H locs ls hP hD hO hS hL hl hs)
theorem ab_icmp_le {K : AbK} {cc : ByteArray} {own : String} {rm : Room} (C : Cx K cc own rm) {S : List AbS} {pc : Nat} {lv st : List AbV} {M : AbM} {x y off : Int} {tgt : Nat} (hd : decode cc pc = .ok (.if_icmp .le off, 3)) (ht : (pc : Int) + off = (tgt : Int)) (kt : x ≤ y → AJ K S tgt lv st M) (kf : y < x → AJ K S (pc + 3) lv st M) : AJ K S pc lv (vI y :: vI x :: st) M := by
  obtain ⟨p, l, e, R, s, m, args, below, meth, c, Q, D, cA, A, ads, nL⟩ := K
  obtain ⟨hx, hb, hml, hown, hts, hlk, hK, hA, hR, hX⟩ := C
  intro H locs ls hP hD hO hS hL hl hs
  obtain ⟨hy, hs⟩ := List.forall_mem_cons.mp hs
  obtain ⟨hx2, hs⟩ := List.forall_mem_cons.mp hs
  exact lv_icmp_le (x := Int32.ofInt x) (y := Int32.ofInt y) hx hb hd ht (fun z => kt ((ab_le hx2 hy).mp z) H locs ls hP hD hO hS hL hl hs) (fun z => kf (Int.not_le.mp (fun q => z ((ab_le hx2 hy).mpr q))) H locs ls hP hD hO hS hL hl hs)
theorem ab_if_le {K : AbK} {cc : ByteArray} {own : String} {rm : Room} (C : Cx K cc own rm) {S : List AbS} {pc : Nat} {lv st : List AbV} {M : AbM} {x off : Int} {tgt : Nat} (hd : decode cc pc = .ok (.ifCond .le off, 3)) (ht : (pc : Int) + off = (tgt : Int)) (kt : x ≤ 0 → AJ K S tgt lv st M) (kf : 0 < x → AJ K S (pc + 3) lv st M) : AJ K S pc lv (vI x :: st) M := by
  obtain ⟨p, l, e, R, s, m, args, below, meth, c, Q, D, cA, A, ads, nL⟩ := K
  obtain ⟨hx, hb, hml, hown, hts, hlk, hK, hA, hR, hX⟩ := C
  intro H locs ls hP hD hO hS hL hl hs
  obtain ⟨hx2, hs⟩ := List.forall_mem_cons.mp hs
  have hy : inI 0 := by decide
  exact lv_if_le (x := Int32.ofInt x) hx hb hd ht (fun z => kt ((ab_le hx2 hy).mp z) H locs ls hP hD hO hS hL hl hs) (fun z => kf (Int.not_le.mp (fun q => z ((ab_le hx2 hy).mpr q))) H locs ls hP hD hO hS hL hl hs)
theorem ab_tableOut {K : AbK} {cc : ByteArray} {own : String} {rm : Room} (C : Cx K cc own rm) {S : List AbS} {pc : Nat} {lv st : List AbV} {M : AbM} {dflt lo hi x : Int} {offs : Array Int} {len tgt : Nat} (hd : decode cc pc = .ok (.tableswitch dflt lo hi offs, len)) (hq : x < lo ∨ hi < x) (ht : (pc : Int) + dflt = (tgt : Int)) (h : AJ K S tgt lv st M) : AJ K S pc lv (vI x :: st) M := by
  obtain ⟨p, l, e, R, s, m, args, below, meth, c, Q, D, cA, A, ads, nL⟩ := K
  obtain ⟨hx, hb, hml, hown, hts, hlk, hK, hA, hR, hX⟩ := C
  intro H locs ls hP hD hO hS hL hl hs
  obtain ⟨hx2, hs⟩ := List.forall_mem_cons.mp hs
  exact lv_tableOut (x := Int32.ofInt x) hx hb hd (by rw [ab_i32 hx2]; exact hq) ht (h H locs ls hP hD hO hS hL hl hs)
theorem ab_tableIn {K : AbK} {cc : ByteArray} {own : String} {rm : Room} (C : Cx K cc own rm) {S : List AbS} {pc : Nat} {lv st : List AbV} {M : AbM} {dflt lo hi x off : Int} {offs : Array Int} {len tgt : Nat} (hd : decode cc pc = .ok (.tableswitch dflt lo hi offs, len)) (h1 : lo ≤ x) (h2 : x ≤ hi) (ho : offs[(x - lo).toNat]? = some off) (ht : (pc : Int) + off = (tgt : Int)) (h : AJ K S tgt lv st M) : AJ K S pc lv (vI x :: st) M := by
  obtain ⟨p, l, e, R, s, m, args, below, meth, c, Q, D, cA, A, ads, nL⟩ := K
  obtain ⟨hx, hb, hml, hown, hts, hlk, hK, hA, hR, hX⟩ := C
  intro H locs ls hP hD hO hS hL hl hs
  obtain ⟨hx2, hs⟩ := List.forall_mem_cons.mp hs
  exact lv_tableIn (x := Int32.ofInt x) hx hb hd (by rw [ab_i32 hx2]; omega) (by rw [ab_i32 hx2]; omega) (by rw [ab_i32 hx2]; exact ho) ht (h H locs ls hP hD hO hS hL hl hs)
theorem ab_getI {K : AbK} {cc : ByteArray} {own : String} {rm : Room} (C : Cx K cc own rm) {S : List AbS} {pc : Nat} {lv st : List AbV} {M : AbM} {Cn : String} {T : u_T} {N ci index j k : Nat} {fs : List (Option Nat)} (hin : ∀ w ∈ u_ws Cn T N, w ∈ ab_tb) (hc : vwCl[ci]? = some (Cn, T, N)) (hj : j < N) (hw : ab_gw (.fieldLink own index (T j).1 (T j).2.1 (T j).2.2.1)) {jj : Int} (hjj : (j : Int) = jj) (hk : S[k]? = some (sO ci fs)) (hf : fs[j]? = some none) (hd : decode cc pc = .ok (.getfield index, 3)) (h : AJ K S (pc + 3) lv (vI (M k jj) :: st) M) : AJ K S pc lv (vP k :: st) M := by
  obtain ⟨p, l, e, R, s, m, args, below, meth, c, Q, D, cA, A, ads, nL⟩ := K
  obtain ⟨hx, hb, hml, hown, hts, hlk, hK, hA, hR, hX⟩ := C
  intro H locs ls hP hD hO hS hL hl hs
  subst hjj
  obtain ⟨h1, hs⟩ := List.forall_mem_cons.mp hs
  exact va_get (D := D) (C := Cn) (T := T) (N := N) hx hb hts hin hown hK hP k (ab_w_get hk) hc j hj (hts _ (ab_gw_in hw)) (fun _ z => z) (ab_e_get (cA := cA) (ci := ci) hf) hd (h H locs ls hP hD hO hS hL hl (ab_c (ab_okI hO hk _) hs))
theorem ab_getP {K : AbK} {cc : ByteArray} {own : String} {rm : Room} (C : Cx K cc own rm) {S : List AbS} {pc : Nat} {lv st : List AbV} {M : AbM} {Cn : String} {T : u_T} {N ci index j k : Nat} {fs : List (Option Nat)} (hin : ∀ w ∈ u_ws Cn T N, w ∈ ab_tb) (hc : vwCl[ci]? = some (Cn, T, N)) (hj : j < N) (hw : ab_gw (.fieldLink own index (T j).1 (T j).2.1 (T j).2.2.1)) {q : Nat} (hk : S[k]? = some (sO ci fs)) (hf : fs[j]? = some (some q)) (hd : decode cc pc = .ok (.getfield index, 3)) (h : AJ K S (pc + 3) lv (vP q :: st) M) : AJ K S pc lv (vP k :: st) M := by
  obtain ⟨p, l, e, R, s, m, args, below, meth, c, Q, D, cA, A, ads, nL⟩ := K
  obtain ⟨hx, hb, hml, hown, hts, hlk, hK, hA, hR, hX⟩ := C
  intro H locs ls hP hD hO hS hL hl hs
  obtain ⟨h1, hs⟩ := List.forall_mem_cons.mp hs
  exact va_get (D := D) (C := Cn) (T := T) (N := N) hx hb hts hin hown hK hP k (ab_w_get hk) hc j hj (hts _ (ab_gw_in hw)) (fun _ z => z) (ab_e_get (cA := cA) (ci := ci) hf) hd (h H locs ls hP hD hO hS hL hl (ab_c (v := vP q) trivial hs))
theorem ab_putI {K : AbK} {cc : ByteArray} {own : String} {rm : Room} (C : Cx K cc own rm) {S : List AbS} {pc : Nat} {lv st : List AbV} {M : AbM} {Cn : String} {T : u_T} {N ci index j k : Nat} {fs : List (Option Nat)} (hin : ∀ w ∈ u_ws Cn T N, w ∈ ab_tb) (hc : vwCl[ci]? = some (Cn, T, N)) (hj : j < N) (hw : ab_gw (.fieldLink own index (T j).1 (T j).2.1 (T j).2.2.1)) {ty0 : Nat → FieldType} (hty : ∀ k, k < N → parseFieldDescriptor (T k).2.2.1 = some (ty0 k)) (hnm : ∀ a, a < N → ∀ b, b < N → a ≠ b → (T a).2.1 ≠ (T b).2.1) {jj x : Int} (hjj : (j : Int) = jj) (hfin : (T j).2.2.2 = false) (hdd : parseFieldDescriptor (T j).2.2.1 = some .int) (hk : S[k]? = some (sO ci fs)) (hf : fs[j]? = some none) (hd : decode cc pc = .ok (.putfield index, 3)) (h : AJ K S (pc + 3) lv st (up M k jj x)) : AJ K S pc lv (vI x :: vP k :: st) M := by
  obtain ⟨p, l, e, R, s, m, args, below, meth, c, Q, D, cA, A, ads, nL⟩ := K
  obtain ⟨hx, hb, hml, hown, hts, hlk, hK, hA, hR, hX⟩ := C
  intro H locs ls hP hD hO hS hL hl hs
  subst hjj
  obtain ⟨h1, hs⟩ := List.forall_mem_cons.mp hs
  obtain ⟨h2, hs⟩ := List.forall_mem_cons.mp hs
  refine va_put (D := D) (C := Cn) (T := T) (N := N) (ty := .int) (v := .int (Int32.ofInt x)) hx hb hts hin ty0 hty hnm hown hK hP hD hS k (ab_w_get hk) hc j hj (hts _ (ab_gw_in hw)) (fun _ z => z) hfin hdd (vp_nar_int _) rfl (by rw [List.length_mapIdx]; exact (List.getElem?_eq_some_iff.mp hf).1) hd (fun H1 locs1 hP1 hD1 hS1 => ?_)
  rw [ab_w_set hk (ab_e_put hf)] at hP1 hD1
  exact h H1 locs1 ls hP1 hD1 (ab_okM_up hO hk h1) hS1 hL hl hs
theorem ab_putZ {K : AbK} {cc : ByteArray} {own : String} {rm : Room} (C : Cx K cc own rm) {S : List AbS} {pc : Nat} {lv st : List AbV} {M : AbM} {Cn : String} {T : u_T} {N ci index j k : Nat} {fs : List (Option Nat)} (hin : ∀ w ∈ u_ws Cn T N, w ∈ ab_tb) (hc : vwCl[ci]? = some (Cn, T, N)) (hj : j < N) (hw : ab_gw (.fieldLink own index (T j).1 (T j).2.1 (T j).2.2.1)) {ty0 : Nat → FieldType} (hty : ∀ k, k < N → parseFieldDescriptor (T k).2.2.1 = some (ty0 k)) (hnm : ∀ a, a < N → ∀ b, b < N → a ≠ b → (T a).2.1 ≠ (T b).2.1) {jj x : Int} (hjj : (j : Int) = jj) (hfin : (T j).2.2.2 = false) (hz : x = 0 ∨ x = 1) (hdd : parseFieldDescriptor (T j).2.2.1 = some .boolean) (hk : S[k]? = some (sO ci fs)) (hf : fs[j]? = some none) (hd : decode cc pc = .ok (.putfield index, 3)) (h : AJ K S (pc + 3) lv st (up M k jj x)) : AJ K S pc lv (vI x :: vP k :: st) M := by
  obtain ⟨p, l, e, R, s, m, args, below, meth, c, Q, D, cA, A, ads, nL⟩ := K
  obtain ⟨hx, hb, hml, hown, hts, hlk, hK, hA, hR, hX⟩ := C
  intro H locs ls hP hD hO hS hL hl hs
  subst hjj
  obtain ⟨h1, hs⟩ := List.forall_mem_cons.mp hs
  obtain ⟨h2, hs⟩ := List.forall_mem_cons.mp hs
  refine va_put (D := D) (C := Cn) (T := T) (N := N) (ty := .boolean) (v := .int (Int32.ofInt x)) hx hb hts hin ty0 hty hnm hown hK hP hD hS k (ab_w_get hk) hc j hj (hts _ (ab_gw_in hw)) (fun _ z => z) hfin hdd (by rcases hz with rfl | rfl <;> decide +kernel) (by rcases hz with rfl | rfl <;> decide +kernel) (by rw [List.length_mapIdx]; exact (List.getElem?_eq_some_iff.mp hf).1) hd (fun H1 locs1 hP1 hD1 hS1 => ?_)
  rw [ab_w_set hk (ab_e_put hf)] at hP1 hD1
  exact h H1 locs1 ls hP1 hD1 (ab_okM_up hO hk h1) hS1 hL hl hs
theorem ab_iaload {K : AbK} {cc : ByteArray} {own : String} {rm : Room} (C : Cx K cc own rm) {S : List AbS} {pc : Nat} {lv st : List AbV} {M : AbM} {k n : Nat} {i : Int} (hk : S[k]? = some (sA 0 n)) (h0 : 0 ≤ i) (h1 : i < (n : Int)) (hd : decode cc pc = .ok (.iaload, 1)) (h : AJ K S (pc + 1) lv (vI (M k i) :: st) M) : AJ K S pc lv (vI i :: vP k :: st) M := by
  obtain ⟨p, l, e, R, s, m, args, below, meth, c, Q, D, cA, A, ads, nL⟩ := K
  obtain ⟨hx, hb, hml, hown, hts, hlk, hK, hA, hR, hX⟩ := C
  intro H locs ls hP hD hO hS hL hl hs
  obtain ⟨hi, hs⟩ := List.forall_mem_cons.mp hs
  obtain ⟨h2, hs⟩ := List.forall_mem_cons.mp hs
  have hw := ab_w_get (cA := cA) (ads := ads) (M := M) hk
  rw [ab_e_i (by decide)] at hw
  refine va_iald (D := D) hx hb hK hP k 0 hw rfl (ab_in h0 h1 hi) hd ?_
  have h3 := h H locs ls hP hD hO hS hL hl (ab_c (ab_okA hO (by decide) hk _) hs)
  rw [ab_clI h0 hi]
  exact h3
theorem ab_baload {K : AbK} {cc : ByteArray} {own : String} {rm : Room} (C : Cx K cc own rm) {S : List AbS} {pc : Nat} {lv st : List AbV} {M : AbM} {k n : Nat} {i : Int} (hk : S[k]? = some (sA 1 n)) (h0 : 0 ≤ i) (h1 : i < (n : Int)) (hd : decode cc pc = .ok (.baload, 1)) (h : AJ K S (pc + 1) lv (vI (M k i) :: st) M) : AJ K S pc lv (vI i :: vP k :: st) M := by
  obtain ⟨p, l, e, R, s, m, args, below, meth, c, Q, D, cA, A, ads, nL⟩ := K
  obtain ⟨hx, hb, hml, hown, hts, hlk, hK, hA, hR, hX⟩ := C
  intro H locs ls hP hD hO hS hL hl hs
  obtain ⟨hi, hs⟩ := List.forall_mem_cons.mp hs
  obtain ⟨h2, hs⟩ := List.forall_mem_cons.mp hs
  have hw := ab_w_get (cA := cA) (ads := ads) (M := M) hk
  rw [ab_e_i (by decide)] at hw
  refine va_zald (D := D) hx hb hK hP k 1 hw rfl (ab_in h0 h1 hi) hd ?_
  have h3 := h H locs ls hP hD hO hS hL hl (ab_c (ab_okA hO (by decide) hk _) hs)
  rw [ab_clI h0 hi]
  exact h3
theorem ab_laload {K : AbK} {cc : ByteArray} {own : String} {rm : Room} (C : Cx K cc own rm) {S : List AbS} {pc : Nat} {lv st : List AbV} {M : AbM} {k n : Nat} {i : Int} (hk : S[k]? = some (sA 2 n)) (h0 : 0 ≤ i) (h1 : i < (n : Int)) (hd : decode cc pc = .ok (.laload, 1)) (h : AJ K S (pc + 1) lv (vL (M k i) :: st) M) : AJ K S pc lv (vI i :: vP k :: st) M := by
  obtain ⟨p, l, e, R, s, m, args, below, meth, c, Q, D, cA, A, ads, nL⟩ := K
  obtain ⟨hx, hb, hml, hown, hts, hlk, hK, hA, hR, hX⟩ := C
  intro H locs ls hP hD hO hS hL hl hs
  obtain ⟨hi, hs⟩ := List.forall_mem_cons.mp hs
  obtain ⟨h2, hs⟩ := List.forall_mem_cons.mp hs
  have hw := ab_w_get (cA := cA) (ads := ads) (M := M) hk
  rw [ab_e_l] at hw
  refine va_lald (D := D) hx hb hK hP k 2 hw rfl (ab_in h0 h1 hi) hd ?_
  have h3 := h H locs ls hP hD hO hS hL hl (ab_c (show inL (M k i) from ab_okAL hO hk _) hs)
  rw [ab_clI h0 hi]
  exact h3
theorem ab_iastore {K : AbK} {cc : ByteArray} {own : String} {rm : Room} (C : Cx K cc own rm) {S : List AbS} {pc : Nat} {lv st : List AbV} {M : AbM} {k n : Nat} {i x : Int} (hk : S[k]? = some (sA 0 n)) (h0 : 0 ≤ i) (h1 : i < (n : Int)) (hd : decode cc pc = .ok (.iastore, 1)) (h : AJ K S (pc + 1) lv st (up M k i x)) : AJ K S pc lv (vI x :: vI i :: vP k :: st) M := by
  obtain ⟨p, l, e, R, s, m, args, below, meth, c, Q, D, cA, A, ads, nL⟩ := K
  obtain ⟨hx, hb, hml, hown, hts, hlk, hK, hA, hR, hX⟩ := C
  intro H locs ls hP hD hO hS hL hl hs
  obtain ⟨hx2, hs⟩ := List.forall_mem_cons.mp hs
  obtain ⟨hi, hs⟩ := List.forall_mem_cons.mp hs
  obtain ⟨h2, hs⟩ := List.forall_mem_cons.mp hs
  have hw := ab_w_get (cA := cA) (ads := ads) (M := M) hk
  rw [ab_e_i (by decide)] at hw
  refine va_iast (D := D) hx hb hK hP hD hS k 0 hw rfl (ab_in h0 h1 hi) hd (fun H1 locs1 hP1 hD1 hS1 => ?_)
  rw [ab_w_set hk (ab_e_up (by decide) h0 hi)] at hP1 hD1
  exact h H1 locs1 ls hP1 hD1 (ab_okM_up hO hk hx2) hS1 hL hl hs
theorem ab_bastore {K : AbK} {cc : ByteArray} {own : String} {rm : Room} (C : Cx K cc own rm) {S : List AbS} {pc : Nat} {lv st : List AbV} {M : AbM} {k n : Nat} {i x : Int} (hk : S[k]? = some (sA 1 n)) (h0 : 0 ≤ i) (h1 : i < (n : Int)) (hz : x = 0 ∨ x = 1) (hd : decode cc pc = .ok (.bastore, 1)) (h : AJ K S (pc + 1) lv st (up M k i x)) : AJ K S pc lv (vI x :: vI i :: vP k :: st) M := by
  obtain ⟨p, l, e, R, s, m, args, below, meth, c, Q, D, cA, A, ads, nL⟩ := K
  obtain ⟨hx, hb, hml, hown, hts, hlk, hK, hA, hR, hX⟩ := C
  intro H locs ls hP hD hO hS hL hl hs
  obtain ⟨hx2, hs⟩ := List.forall_mem_cons.mp hs
  obtain ⟨hi, hs⟩ := List.forall_mem_cons.mp hs
  obtain ⟨h2, hs⟩ := List.forall_mem_cons.mp hs
  have hw := ab_w_get (cA := cA) (ads := ads) (M := M) hk
  rw [ab_e_i (by decide)] at hw
  have hn : vp_nar .boolean (Int32.ofInt x) = Int32.ofInt x := by rcases hz with rfl | rfl <;> decide +kernel
  refine va_zast (D := D) hx hb hK hP hD hS k 1 hw rfl (ab_in h0 h1 hi) hd (fun H1 locs1 hP1 hD1 hS1 => ?_)
  rw [hn, ab_w_set hk (ab_e_up (by decide) h0 hi)] at hP1 hD1
  exact h H1 locs1 ls hP1 hD1 (ab_okM_up hO hk hx2) hS1 hL hl hs
theorem ab_lastore {K : AbK} {cc : ByteArray} {own : String} {rm : Room} (C : Cx K cc own rm) {S : List AbS} {pc : Nat} {lv st : List AbV} {M : AbM} {k n : Nat} {i x : Int} (hk : S[k]? = some (sA 2 n)) (h0 : 0 ≤ i) (h1 : i < (n : Int)) (hd : decode cc pc = .ok (.lastore, 1)) (h : AJ K S (pc + 1) lv st (up M k i x)) : AJ K S pc lv (vL x :: vI i :: vP k :: st) M := by
  obtain ⟨p, l, e, R, s, m, args, below, meth, c, Q, D, cA, A, ads, nL⟩ := K
  obtain ⟨hx, hb, hml, hown, hts, hlk, hK, hA, hR, hX⟩ := C
  intro H locs ls hP hD hO hS hL hl hs
  obtain ⟨hx2, hs⟩ := List.forall_mem_cons.mp hs
  obtain ⟨hi, hs⟩ := List.forall_mem_cons.mp hs
  obtain ⟨h2, hs⟩ := List.forall_mem_cons.mp hs
  have hw := ab_w_get (cA := cA) (ads := ads) (M := M) hk
  rw [ab_e_l] at hw
  refine va_last (D := D) hx hb hK hP hD hS k 2 hw rfl (ab_in h0 h1 hi) hd (fun H1 locs1 hP1 hD1 hS1 => ?_)
  rw [ab_w_set hk (ab_e_upL h0 hi)] at hP1 hD1
  exact h H1 locs1 ls hP1 hD1 (ab_okM_up hO hk hx2) hS1 hL hl hs
theorem ab_aaload {K : AbK} {cc : ByteArray} {own : String} {rm : Room} (C : Cx K cc own rm) {S : List AbS} {pc : Nat} {lv st : List AbV} {M : AbM} {k q : Nat} {ps : List Nat} {i : Int} (hk : S[k]? = some (sR ps)) (h0 : 0 ≤ i) (hq : ps[i.toNat]? = some q) (hd : decode cc pc = .ok (.aaload, 1)) (h : AJ K S (pc + 1) lv (vP q :: st) M) : AJ K S pc lv (vI i :: vP k :: st) M := by
  obtain ⟨p, l, e, R, s, m, args, below, meth, c, Q, D, cA, A, ads, nL⟩ := K
  obtain ⟨hx, hb, hml, hown, hts, hlk, hK, hA, hR, hX⟩ := C
  intro H locs ls hP hD hO hS hL hl hs
  obtain ⟨hi, hs⟩ := List.forall_mem_cons.mp hs
  obtain ⟨h2, hs⟩ := List.forall_mem_cons.mp hs
  have hw := ab_w_get (cA := cA) (ads := ads) (M := M) hk
  have hlt : i.toNat < ps.length := (List.getElem?_eq_some_iff.mp hq).1
  refine va_aldq (D := D) hx hb hK hP k 3 hw rfl (ab_in h0 (by omega) hi) hd ?_
  have h3 := h H locs ls hP hD hO hS hL hl (ab_c (v := vP q) trivial hs)
  rw [ab_cl h0 hi, hq]
  exact h3
theorem ab_alenI {K : AbK} {cc : ByteArray} {own : String} {rm : Room} (C : Cx K cc own rm) {S : List AbS} {pc : Nat} {lv st : List AbV} {M : AbM} {k n : Nat} (hk : S[k]? = some (sA 0 n)) (hn : (n : Int) < 2147483648) (hd : decode cc pc = .ok (.arraylength, 1)) (h : AJ K S (pc + 1) lv (vI (n : Int) :: st) M) : AJ K S pc lv (vP k :: st) M := by
  obtain ⟨p, l, e, R, s, m, args, below, meth, c, Q, D, cA, A, ads, nL⟩ := K
  obtain ⟨hx, hb, hml, hown, hts, hlk, hK, hA, hR, hX⟩ := C
  intro H locs ls hP hD hO hS hL hl hs
  obtain ⟨h2, hs⟩ := List.forall_mem_cons.mp hs
  have hw := ab_w_get (cA := cA) (ads := ads) (M := M) hk
  rw [ab_e_i (by decide)] at hw
  exact va_alen (D := D) (v := Int32.ofInt (n : Int)) hx hb hK hP k 0 hw rfl (by rw [Int32.ofInt_eq_ofNat]) hd (h H locs ls hP hD hO hS hL hl (ab_c (show inI (n : Int) from ⟨by omega, by omega⟩) hs))
theorem ab_alenJ {K : AbK} {cc : ByteArray} {own : String} {rm : Room} (C : Cx K cc own rm) {S : List AbS} {pc : Nat} {lv st : List AbV} {M : AbM} {k n : Nat} (hk : S[k]? = some (sA 2 n)) (hn : (n : Int) < 2147483648) (hd : decode cc pc = .ok (.arraylength, 1)) (h : AJ K S (pc + 1) lv (vI (n : Int) :: st) M) : AJ K S pc lv (vP k :: st) M := by
  obtain ⟨p, l, e, R, s, m, args, below, meth, c, Q, D, cA, A, ads, nL⟩ := K
  obtain ⟨hx, hb, hml, hown, hts, hlk, hK, hA, hR, hX⟩ := C
  intro H locs ls hP hD hO hS hL hl hs
  obtain ⟨h2, hs⟩ := List.forall_mem_cons.mp hs
  have hw := ab_w_get (cA := cA) (ads := ads) (M := M) hk
  rw [ab_e_l] at hw
  exact va_alen (D := D) (v := Int32.ofInt (n : Int)) hx hb hK hP k 2 hw rfl (by rw [Int32.ofInt_eq_ofNat]) hd (h H locs ls hP hD hO hS hL hl (ab_c (show inI (n : Int) from ⟨by omega, by omega⟩) hs))
theorem ab_lblV {n : Int} (h0 : 0 ≤ n) (h1 : n < 4) : ab_lbl n.toNat = Int32.ofInt (if n = 1 then 8 else if n = 2 then 7 else if n = 3 then 5 else 0) := by
  have : n = 0 ∨ n = 1 ∨ n = 2 ∨ n = 3 := by omega
  rcases this with rfl | rfl | rfl | rfl <;> rfl
theorem ab_stat {K : AbK} {cc : ByteArray} {rm : Room} (C : Cx K cc "WordLaws$Alphabet" rm) {S : List AbS} {pc : Nat} {lv st : List AbV} {M : AbM} {n : Int} (hv : lv[1]? = some (vI n)) (h0 : 0 ≤ n) (h1 : n < 4) (hnest : decode cc pc = .ok (.getstatic ab_nestI, 3)) (hd2 : decode cc (pc + 3) = .ok (.iload_n 1, 1)) (hd3 : decode cc (pc + 3 + 1) = .ok (.iaload, 1)) (h : AJ K S (pc + 5) lv (vI (if n = 1 then 8 else if n = 2 then 7 else if n = 3 then 5 else 0) :: st) M) : AJ K S pc lv st M := by
  obtain ⟨p, l, e, R, s, m, args, below, meth, c, Q, D, cA, A, ads, nL⟩ := K
  obtain ⟨hx, hb, hml, hown, hts, hlk, hK, hA, hR, hX⟩ := C
  intro H locs ls hP hD hO hS hL hl hs
  obtain ⟨hN, sa, hZ, hT⟩ := hX
  refine va_getsN (C := "WordLaws") (n := "LONGEST_BY_LETTERS") (d := "[I") hx hb hZ hS hown (va_Nw.use rfl hN) (fun _ z => z) hnest ?_
  refine lv_iload_n (i := 1) hx hb hd2 rfl (hL.2.2.2 1 _ hv ab_nU) ?_
  have hn : inI n := ⟨by omega, by omega⟩
  refine va_ti hx hb hT hS (ab_in h0 (by simpa using h1) hn) (v := .int (Int32.ofInt (if n = 1 then 8 else if n = 2 then 7 else if n = 3 then 5 else 0))) (by rw [ab_cl h0 hn]; exact congrArg Value.int (ab_lblV h0 h1)) hd3 ?_
  exact h H locs ls hP hD hO hS hL hl (ab_c (show inI _ by split <;> (try split) <;> (try split) <;> decide) hs)
theorem ab_iret {K : AbK} {cc : ByteArray} {own : String} {rm : Room} (C : Cx K cc own rm) {S : List AbS} {pc : Nat} {lv st : List AbV} {M : AbM} {Qm : List AbV → AbM → Prop} {x : Int} (r : Rt K S (some .int) Qm) (hd : decode cc pc = .ok (.ireturn, 1)) (hq : Qm [vI x] M) : AJ K S pc lv [vI x] M := by
  obtain ⟨p, l, e, R, s, m, args, below, meth, c, Q, D, cA, A, ads, nL⟩ := K
  obtain ⟨hx, hb, hml, hown, hts, hlk, hK, hA, hR, hX⟩ := C
  intro H locs ls hP hD hO hS hL hl hs
  obtain ⟨hr, rfl⟩ := r
  exact W.iret (v := Int32.ofInt x) hx hb hr (fun t ht hW => ⟨⟨[vI x], M, rfl, hs, Nat.le_refl 1, hq, hO, by rw [ht]; exact hP⟩, hS.F ht⟩) hS.2.2 hd hlk
theorem ab_zret {K : AbK} {cc : ByteArray} {own : String} {rm : Room} (C : Cx K cc own rm) {S : List AbS} {pc : Nat} {lv st : List AbV} {M : AbM} {Qm : List AbV → AbM → Prop} {x : Int} (r : Rt K S (some .boolean) Qm) (hz : x = 0 ∨ x = 1) (hd : decode cc pc = .ok (.ireturn, 1)) (hq : Qm [vI x] M) : AJ K S pc lv [vI x] M := by
  obtain ⟨p, l, e, R, s, m, args, below, meth, c, Q, D, cA, A, ads, nL⟩ := K
  obtain ⟨hx, hb, hml, hown, hts, hlk, hK, hA, hR, hX⟩ := C
  intro H locs ls hP hD hO hS hL hl hs
  obtain ⟨hr, rfl⟩ := r
  exact W.zret (v := Int32.ofInt x) hx hb hr (by rcases hz with rfl | rfl <;> decide +kernel) (fun t ht hW => ⟨⟨[vI x], M, rfl, hs, Nat.le_refl 1, hq, hO, by rw [ht]; exact hP⟩, hS.F ht⟩) hS.2.2 hd hlk
theorem ab_lret {K : AbK} {cc : ByteArray} {own : String} {rm : Room} (C : Cx K cc own rm) {S : List AbS} {pc : Nat} {lv st : List AbV} {M : AbM} {Qm : List AbV → AbM → Prop} {x : Int} (r : Rt K S (some .long) Qm) (hd : decode cc pc = .ok (.lreturn, 1)) (hq : Qm [vL x] M) : AJ K S pc lv [vL x] M := by
  obtain ⟨p, l, e, R, s, m, args, below, meth, c, Q, D, cA, A, ads, nL⟩ := K
  obtain ⟨hx, hb, hml, hown, hts, hlk, hK, hA, hR, hX⟩ := C
  intro H locs ls hP hD hO hS hL hl hs
  obtain ⟨hr, rfl⟩ := r
  exact W.lret (v := Int64.ofInt x) hx hb hr (fun t ht hW => ⟨⟨[vL x], M, rfl, hs, Nat.le_refl 1, hq, hO, by rw [ht]; exact hP⟩, hS.F ht⟩) hS.2.2 hd hlk
theorem ab_vret {K : AbK} {cc : ByteArray} {own : String} {rm : Room} (C : Cx K cc own rm) {S : List AbS} {pc : Nat} {lv st : List AbV} {M : AbM} {Qm : List AbV → AbM → Prop} (r : Rt K S none Qm) (hd : decode cc pc = .ok (.return_, 1)) (hq : Qm [] M) : AJ K S pc lv [] M := by
  obtain ⟨p, l, e, R, s, m, args, below, meth, c, Q, D, cA, A, ads, nL⟩ := K
  obtain ⟨hx, hb, hml, hown, hts, hlk, hK, hA, hR, hX⟩ := C
  intro H locs ls hP hD hO hS hL hl hs
  obtain ⟨hr, rfl⟩ := r
  exact W.vret hx hb hr (fun t ht hW => ⟨⟨[], M, rfl, hs, Nat.zero_le 1, hq, hO, by rw [ht]; exact hP⟩, hS.F ht⟩) hS.2.2 hd hlk
