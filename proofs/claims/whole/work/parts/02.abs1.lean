/-! ===== an abstract machine over whole numbers: values, memory, shapes; what a state of it says of the machine ===== -/
abbrev AbV : Type := Int ⊕ (Int ⊕ (Nat ⊕ Unit))
abbrev vI (x : Int) : AbV := Sum.inl x
abbrev vL (x : Int) : AbV := Sum.inr (Sum.inl x)
abbrev vP (k : Nat) : AbV := Sum.inr (Sum.inr (Sum.inl k))
abbrev vU : AbV := Sum.inr (Sum.inr (Sum.inr ()))
abbrev AbM : Type := Nat → Int → Int
/-- a shape: an object (its class, for each field none: a number, or some k: the cell k, for ever), an array (0 ints, 1 booleans, 2 longs; its length), an array of cells -/
abbrev AbS : Type := (Nat × List (Option Nat)) ⊕ ((Nat × Nat) ⊕ List Nat)
abbrev sO (ci : Nat) (fs : List (Option Nat)) : AbS := Sum.inl (ci, fs)
abbrev sA (t n : Nat) : AbS := Sum.inr (Sum.inl (t, n))
abbrev sR (ps : List Nat) : AbS := Sum.inr (Sum.inr ps)
abbrev inI (x : Int) : Prop := -2147483648 ≤ x ∧ x ≤ 2147483647
abbrev inL (x : Int) : Prop := -9223372036854775808 ≤ x ∧ x ≤ 9223372036854775807
def ab_v (ads : List Nat) : AbV → Value
  | Sum.inl x => .int (Int32.ofInt x)
  | Sum.inr (Sum.inl x) => .long (Int64.ofInt x)
  | Sum.inr (Sum.inr (Sum.inl k)) => .ref (ads.getD k 0)
  | Sum.inr (Sum.inr (Sum.inr _)) => .null
def ab_ok : AbV → Prop
  | Sum.inl x => inI x
  | Sum.inr (Sum.inl x) => inL x
  | _ => True
def ab_cat : AbV → Nat
  | Sum.inr (Sum.inl _) => 2
  | _ => 1
def ab_f (ads : List Nat) (x : Int) : Option Nat → Value
  | none => .int (Int32.ofInt x)
  | some q => .ref (ads.getD q 0)
def ab_e (cA : Nat → ClassId) (ads : List Nat) (r : Int → Int) : AbS → va_E
  | Sum.inl o => .inr (o.1, o.2.mapIdx (fun j x => ab_f ads (r (j : Int)) x))
  | Sum.inr (Sum.inl a) => if a.1 = 2 then .inl (cA a.1, a.2, .inr (.inl (fun j => Int64.ofInt (r (j : Int))))) else .inl (cA a.1, a.2, .inl (fun j => Int32.ofInt (r (j : Int))))
  | Sum.inr (Sum.inr ps) => .inl (cA 3, ps.length, .inr (.inr (.inr (.inr (fun j => (ps[j]?).map (fun q => ads.getD q 0))))))
def ab_w (cA : Nat → ClassId) (ads : List Nat) (S : List AbS) (M : AbM) : va_W := S.mapIdx (fun k sh => (ads.getD k 0, ab_e cA ads (M k) sh))
def ab_okS : AbS → Int → Prop
  | Sum.inr (Sum.inl a), x => if a.1 = 2 then inL x else inI x
  | _, x => inI x
def ab_okM (S : List AbS) (M : AbM) : Prop := ∀ (k : Nat) (sh : AbS), S[k]? = some sh → ∀ j : Int, ab_okS sh (M k j)
abbrev ab_t (cA : Nat → ClassId) : List (ClassId × FieldType) := [(cA 0, .int), (cA 1, .boolean), (cA 2, .long), (cA 3, .object "WordLaws$Sheet")]
def ab_L (ls : Array Slot) (nL : Nat) (ads : List Nat) (lv : List AbV) : Prop := ls.size = nL ∧ lv.length = nL ∧ lv_wf ls ∧ ∀ (i : Nat) (v : AbV), lv[i]? = some v → v ≠ vU → ls[i]? = some (.val (ab_v ads v))
/-- one place of the memory, a whole cell of it -/
def up (M : AbM) (k : Nat) (i x : Int) : AbM := fun k2 j => if k2 = k ∧ j = i then x else M k2 j
def upA (M : AbM) (k : Nat) (f : Int → Int) : AbM := fun k2 j => if k2 = k then f j else M k2 j
abbrev AbK : Type := Program × Launch × Env × Room × State × MethodId × Array Value × List Frame × Method × Code × (State → Prop) × va_G × (Nat → ClassId) × (Nat → Prop) × List Nat × Nat
abbrev kD (K : AbK) : va_G := K.2.2.2.2.2.2.2.2.2.2.2.1
abbrev kcA (K : AbK) : Nat → ClassId := K.2.2.2.2.2.2.2.2.2.2.2.2.1
abbrev knL (K : AbK) : Nat := K.2.2.2.2.2.2.2.2.2.2.2.2.2.2.2
def AJ (K : AbK) (S : List AbS) (pc : Nat) (lv st : List AbV) (M : AbM) : Prop := match K with
  | (p, l, e, R, s, m, args, below, meth, c, Q, D, cA, A, ads, nL) => ∀ (H : Heap) (locs : List Loc) (ls : Array Slot), va_P D vwCl (ab_w cA ads S M) H → va_D A (ab_w cA ads S M) → ab_okM S M → va_S A s.heap H locs → ab_L ls nL ads lv → (∀ v ∈ lv, ab_ok v) → (∀ v ∈ st, ab_ok v) → W p l e R s m args below meth c H locs 0 0 Q (F0 m pc ls (st.map (ab_v ads)))
/-- a word that the tables have, and that stays good over calls -/
def ab_gw (w : Cond) : Prop := w ∈ lw_tbl ∧ goodWord w = true
def ab_tb : List Cond := lw_tbl.filter goodWord
theorem ab_gw_in {w : Cond} (h : ab_gw w) : w ∈ ab_tb := List.mem_filter.mpr ⟨h.1, h.2⟩
def ab_lbl : Nat → Int32 := fun j => Int32.ofInt (if j = 1 then 8 else if j = 2 then 7 else if j = 3 then 5 else 0)
def ab_X (A : Nat → Prop) (s : State) : Prop := va_Nw ab_nest s ∧ ∃ sa : Nat, va_Z "WordLaws" "LONGEST_BY_LETTERS" "[I" (.ref sa) A s s.heap ∧ va_T .int sa 4 (fun j => .int (ab_lbl j)) A s s.heap
def Cx (K : AbK) (cc : ByteArray) (own : String) (rm : Room) : Prop := match K with
  | (p, _, _, R, s, m, args, _, meth, c, _, D, cA, A, _, nL) => p.tables.exec = Jvm.exec ∧ c.code = cc ∧ c.maxLocals = nL ∧ s.vm.findClass own = some m.cls ∧ (∀ w ∈ ab_tb, w.before args s = true) ∧ meth.locks = false ∧ va_K D vwCl (ab_t cA) s ∧ (∀ q : Nat, s.heap.size ≤ q → A q) ∧ R = rm ∧ ab_X A s
def ab_A (ads : List Nat) (S : List AbS) (sz : Nat) : Nat → Prop := fun q => (∃ k : Nat, k < S.length ∧ q = ads.getD k 0) ∨ sz ≤ q
def ab_Q (D : va_G) (cA : Nat → ClassId) (S : List AbS) (ads : List Nat) (A : Nat → Prop) (Q : List AbV → AbM → Prop) : Array Value → State → Outcome → State → Prop := fun _ st oc t => (∃ (rs : List AbV) (M : AbM), oc = .returned ((rs.map (ab_v ads)).head?) ∧ (∀ v ∈ rs, ab_ok v) ∧ rs.length ≤ 1 ∧ Q rs M ∧ ab_okM S M ∧ va_P D vwCl (ab_w cA ads S M) t.heap) ∧ va_F A st t
def ab_U (D : va_G) (cA : Nat → ClassId) (S : List AbS) (ads : List Nat) (M : AbM) (sz : Nat) (U : State) : Prop := U.heap.size = sz ∧ va_P D vwCl (ab_w cA ads S M) U.heap ∧ va_K D vwCl (ab_t cA) U ∧ va_D (fun _ => True) (ab_w cA ads S M) ∧ ab_X (ab_A ads S sz) U
/-- a method's contract over the abstract memory: from M, with the arguments as, it returns rs and leaves M2 with Q rs M2 -/
def Meth (y : MethodName) (cc : ByteArray) (nL : Nat) (ret : Option FieldType) (rm : Room) (D : va_G) (cA : Nat → ClassId) (S : List AbS) (as : List AbV) (M : AbM) (Q : List AbV → AbM → Prop) : Prop :=
  ab_okM S M → (∀ v ∈ as, ab_ok v) → ∀ (l : Launch) (ads : List Nat) (sz : Nat), Met l y (.code y cc nL ret :: ab_tb) rm (va_Pc (as.map (ab_v ads)) (ab_U D cA S ads M sz)) (ab_Q D cA S ads (ab_A ads S sz) Q) 0 0 (ab_A ads S sz)
/-- K's end is that of a method with the postcondition Q -/
def Rt (K : AbK) (S : List AbS) (ret : Option FieldType) (Q : List AbV → AbM → Prop) : Prop := match K with
  | (_, _, _, _, s, _, args, below, meth, _, Qk, D, cA, A, ads, _) => meth.sig.returnType = ret ∧ Qk = MQ below (ab_Q D cA S ads A Q) args s 0 0 A
abbrev qI (f : Int → AbM → Prop) : List AbV → AbM → Prop := fun rs M => ∃ r : Int, rs = [vI r] ∧ f r M
abbrev qL (f : Int → AbM → Prop) : List AbV → AbM → Prop := fun rs M => ∃ r : Int, rs = [vL r] ∧ f r M
abbrev qV (f : AbM → Prop) : List AbV → AbM → Prop := fun rs M => rs = [] ∧ f M
-- numbers
theorem ab_i32 {x : Int} (h : inI x) : (Int32.ofInt x).toInt = x := Int32.toInt_ofInt_of_le (by have := h.1; omega) (by have := h.2; omega)
theorem ab_i64 {x : Int} (h : inL x) : (Int64.ofInt x).toInt = x := Int64.toInt_ofInt_of_le (by have := h.1; omega) (by have := h.2; omega)
theorem ab_lt {x y : Int} (hx : inI x) (hy : inI y) : Int32.ofInt x < Int32.ofInt y ↔ x < y := by rw [Int32.lt_iff_toInt_lt, ab_i32 hx, ab_i32 hy]
theorem ab_le {x y : Int} (hx : inI x) (hy : inI y) : Int32.ofInt x ≤ Int32.ofInt y ↔ x ≤ y := by rw [Int32.le_iff_toInt_le, ab_i32 hx, ab_i32 hy]
theorem ab_eq {x y : Int} (hx : inI x) (hy : inI y) : Int32.ofInt x = Int32.ofInt y ↔ x = y := ⟨fun h => by rw [← ab_i32 hx, ← ab_i32 hy, h], fun h => by rw [h]⟩
theorem ab_lt64 {x y : Int} (hx : inL x) (hy : inL y) : Int64.ofInt x < Int64.ofInt y ↔ x < y := by rw [Int64.lt_iff_toInt_lt, ab_i64 hx, ab_i64 hy]
theorem ab_eq64 {x y : Int} (hx : inL x) (hy : inL y) : Int64.ofInt x = Int64.ofInt y ↔ x = y := ⟨fun h => by rw [← ab_i64 hx, ← ab_i64 hy, h], fun h => by rw [h]⟩
theorem ab_of {a : Int32} {x : Int} (h : a.toInt = x) : a = Int32.ofInt x := by rw [← h, Int32.ofInt_toInt]
theorem ab_of64 {a : Int64} {x : Int} (h : a.toInt = x) : a = Int64.ofInt x := by rw [← h, Int64.ofInt_toInt]
theorem ab_in {i : Int} {n : Nat} (h0 : 0 ≤ i) (h1 : i < n) (hi : inI i) : vp_in (Int32.ofInt i) n := vp_in_iff.mpr (by rw [ab_i32 hi]; exact ⟨h0, h1⟩)
theorem ab_cl {i : Int} (h0 : 0 ≤ i) (hi : inI i) : (Int32.ofInt i).toNatClampNeg = i.toNat := by
  show (Int32.ofInt i).toInt.toNat = i.toNat
  rw [ab_i32 hi]
theorem ab_clI {i : Int} (h0 : 0 ≤ i) (hi : inI i) : (((Int32.ofInt i).toNatClampNeg : Nat) : Int) = i := by rw [ab_cl h0 hi]; omega
theorem ab_div {x y : Int} (hx : inI x) (hy : inI y) (h0 : 0 ≤ x) (h1 : 0 < y) : Int32.ofInt x / Int32.ofInt y = Int32.ofInt (x / y) := by
  apply ab_of
  have hq : 0 ≤ x / y := Int.ediv_nonneg h0 (by omega)
  have hq2 : x / y ≤ x := Int.ediv_le_self y h0
  have hx2 := hx.2
  rw [Int32.toInt_div, ab_i32 hx, ab_i32 hy, Int.tdiv_eq_ediv_of_nonneg h0]
  exact Int.bmod_eq_of_le (by omega) (by omega)
theorem ab_rem {x y : Int} (hx : inI x) (hy : inI y) (h0 : 0 ≤ x) (h1 : 0 < y) : Int32.ofInt x - Int32.ofInt x / Int32.ofInt y * Int32.ofInt y = Int32.ofInt (x % y) := by
  rw [ab_div hx hy h0 h1, ← Int32.ofInt_mul, ← Int32.ofInt_sub]
  congr 1
  have := Int.emod_add_mul_ediv x y
  have e : y * (x / y) = x / y * y := Int.mul_comm _ _
  omega
theorem ab_tdivB {x y : Int} (h1 : 2 ≤ y) : -x.natAbs ≤ x.tdiv y ∧ x.tdiv y ≤ x.natAbs := by
  have h : (x.tdiv y).natAbs ≤ x.natAbs := by
    rw [Int.natAbs_tdiv]
    exact Nat.div_le_self _ _
  omega
theorem ab_trem {x y : Int} (hx : inI x) (hy : inI y) (h1 : 2 ≤ y) : Int32.ofInt x - Int32.ofInt x / Int32.ofInt y * Int32.ofInt y = Int32.ofInt (x.tmod y) := by
  have e : Int32.ofInt x / Int32.ofInt y = Int32.ofInt (x.tdiv y) := by
    apply ab_of
    have hB := ab_tdivB (x := x) h1
    have hn : (x.tdiv y).natAbs ≤ x.natAbs / 2 := by
      rw [Int.natAbs_tdiv]
      exact Nat.div_le_div_left (by omega) (by omega)
    have hx1 := hx.1
    have hx2 := hx.2
    rw [Int32.toInt_div, ab_i32 hx, ab_i32 hy]
    exact Int.bmod_eq_of_le (by omega) (by omega)
  rw [e, ← Int32.ofInt_mul, ← Int32.ofInt_sub]
  congr 1
  have := Int.tmod_add_mul_tdiv x y
  have e : y * (x.tdiv y) = x.tdiv y * y := Int.mul_comm _ _
  omega
theorem ab_trem64 {x y : Int} (hx : inL x) (hy : inL y) (h1 : 2 ≤ y) : Int64.ofInt x - Int64.ofInt x / Int64.ofInt y * Int64.ofInt y = Int64.ofInt (x.tmod y) := by
  have e : Int64.ofInt x / Int64.ofInt y = Int64.ofInt (x.tdiv y) := by
    apply ab_of64
    have hn : (x.tdiv y).natAbs ≤ x.natAbs / 2 := by
      rw [Int.natAbs_tdiv]
      exact Nat.div_le_div_left (by omega) (by omega)
    have hx1 := hx.1
    have hx2 := hx.2
    rw [Int64.toInt_div, ab_i64 hx, ab_i64 hy]
    exact Int.bmod_eq_of_le (by omega) (by omega)
  rw [e, ← Int64.ofInt_mul, ← Int64.ofInt_sub]
  congr 1
  have := Int.tmod_add_mul_tdiv x y
  have e : y * (x.tdiv y) = x.tdiv y * y := Int.mul_comm _ _
  omega
theorem ab_cats (ads : List Nat) : ∀ st : List AbV, ((st.map (ab_v ads)).map fun v => v.category).sum = (st.map ab_cat).sum
  | [] => rfl
  | v :: t => by
    simp only [List.map_cons, List.sum_cons, ab_cats ads t]
    congr 1
    rcases v with x | x | x | x <;> rfl
-- memory
theorem up_s {M : AbM} {k : Nat} {i x : Int} : up M k i x k i = x := by simp [up]
theorem up_k {M : AbM} {k k2 : Nat} {i j x : Int} (h : k2 ≠ k) : up M k i x k2 j = M k2 j := by simp [up, h]
theorem up_i {M : AbM} {k k2 : Nat} {i j x : Int} (h : j ≠ i) : up M k i x k2 j = M k2 j := by simp [up, h]
theorem up_row {M : AbM} {k k2 : Nat} {i x : Int} (h : k2 ≠ k) : up M k i x k2 = M k2 := by funext j; simp [up, h]
theorem upA_s {M : AbM} {k : Nat} {f : Int → Int} {j : Int} : upA M k f k j = f j := by simp [upA]
theorem upA_k {M : AbM} {k k2 : Nat} {f : Int → Int} {j : Int} (h : k2 ≠ k) : upA M k f k2 j = M k2 j := by simp [upA, h]
theorem upA_row {M : AbM} {k k2 : Nat} {f : Int → Int} (h : k2 ≠ k) : upA M k f k2 = M k2 := by funext j; simp [upA, h]
theorem upA_self (M : AbM) (k : Nat) : upA M k (M k) = M := by funext a j; unfold upA; split <;> simp_all
theorem upA_upA (M : AbM) (k : Nat) (f g : Int → Int) : upA (upA M k f) k g = upA M k g := by funext a j; unfold upA; split <;> simp_all
theorem up_upA (M : AbM) (k : Nat) (f : Int → Int) (i x : Int) : up (upA M k f) k i x = upA M k (fun j => if j = i then x else f j) := by funext a j; unfold up upA; by_cases h : a = k <;> simp [h]
theorem up_eq_upA (M : AbM) (k : Nat) (i x : Int) : up M k i x = upA M k (fun j => if j = i then x else M k j) := by funext a j; unfold up upA; by_cases h : a = k <;> simp [h]
theorem ab_okM_up {S : List AbS} {M : AbM} {k : Nat} {i x : Int} {sh : AbS} (h : ab_okM S M) (hk : S[k]? = some sh) (hx : ab_okS sh x) : ab_okM S (up M k i x) := by
  intro k2 sh2 h2 j
  by_cases e : k2 = k ∧ j = i
  · obtain ⟨rfl, rfl⟩ := e
    rw [up_s]
    cases hk.symm.trans h2
    exact hx
  · have : up M k i x k2 j = M k2 j := by unfold up; rw [if_neg e]
    rw [this]
    exact h k2 sh2 h2 j
-- worlds
theorem ab_w_get {cA : Nat → ClassId} {ads : List Nat} {S : List AbS} {M : AbM} {k : Nat} {sh : AbS} (h : S[k]? = some sh) : (ab_w cA ads S M)[k]? = some (ads.getD k 0, ab_e cA ads (M k) sh) := by
  unfold ab_w
  rw [List.getElem?_mapIdx, h]
  rfl
theorem ab_w_inv {cA : Nat → ClassId} {ads : List Nat} {S : List AbS} {M : AbM} {k : Nat} {q : Nat × va_E} (h : (ab_w cA ads S M)[k]? = some q) : ∃ sh, S[k]? = some sh ∧ q = (ads.getD k 0, ab_e cA ads (M k) sh) := by
  unfold ab_w at h
  rw [List.getElem?_mapIdx] at h
  cases hs : S[k]? with
  | none => rw [hs] at h; cases h
  | some sh => rw [hs] at h; exact ⟨sh, rfl, (Option.some.inj h).symm⟩
theorem ab_w_lt {S : List AbS} {k : Nat} {sh : AbS} (h : S[k]? = some sh) : k < S.length := (List.getElem?_eq_some_iff.mp h).1
theorem ab_D_M {A : Nat → Prop} {cA : Nat → ClassId} {ads : List Nat} {S : List AbS} {M M2 : AbM} (h : va_D A (ab_w cA ads S M)) : va_D A (ab_w cA ads S M2) := by
  refine ⟨fun i j a b ha hb hab => ?_, fun k q hk => ?_⟩
  · obtain ⟨s1, h1, rfl⟩ := ab_w_inv ha
    obtain ⟨s2, h2, rfl⟩ := ab_w_inv hb
    exact h.1 i j _ _ (ab_w_get h1) (ab_w_get h2) hab
  · obtain ⟨s1, h1, rfl⟩ := ab_w_inv hk
    have h9 := h.2 k (ads.getD k 0, ab_e cA ads (M k) s1) (ab_w_get h1)
    exact h9
theorem ab_D_A {A B : Nat → Prop} {cA : Nat → ClassId} {ads : List Nat} {S : List AbS} {M : AbM} (h : va_D A (ab_w cA ads S M)) (hB : ∀ k, k < S.length → B (ads.getD k 0)) : va_D B (ab_w cA ads S M) :=
  ⟨h.1, fun k q hk => by
    obtain ⟨s1, h1, rfl⟩ := ab_w_inv hk
    exact hB k (ab_w_lt h1)⟩
theorem ab_D_in {A : Nat → Prop} {cA : Nat → ClassId} {ads : List Nat} {S : List AbS} {M : AbM} (h : va_D A (ab_w cA ads S M)) {k : Nat} (hk : k < S.length) : A (ads.getD k 0) := by
  have h1 : S[k]? = some S[k] := List.getElem?_eq_getElem hk
  exact h.2 k _ (ab_w_get h1)
theorem ab_w_set {cA : Nat → ClassId} {ads : List Nat} {S : List AbS} {M : AbM} {k : Nat} {sh : AbS} {i x : Int} {e : va_E} (h : S[k]? = some sh) (he : ab_e cA ads (up M k i x k) sh = e) : (ab_w cA ads S M).set k (ads.getD k 0, e) = ab_w cA ads S (up M k i x) := by
  apply List.ext_getElem?
  intro j
  rw [List.getElem?_set]
  by_cases hj : k = j
  · subst hj
    rw [if_pos rfl, ab_w_get h, he]
    have : k < (ab_w cA ads S M).length := by unfold ab_w; rw [List.length_mapIdx]; exact ab_w_lt h
    rw [if_pos this]
  · rw [if_neg hj]
    unfold ab_w
    rw [List.getElem?_mapIdx, List.getElem?_mapIdx, up_row (fun e => hj e.symm)]
theorem ab_e_i {cA : Nat → ClassId} {ads : List Nat} {r : Int → Int} {t n : Nat} (ht : t ≠ 2) : ab_e cA ads r (sA t n) = .inl (cA t, n, .inl (fun j => Int32.ofInt (r (j : Int)))) := by
  show (if t = 2 then _ else _) = _
  rw [if_neg ht]
theorem ab_e_l {cA : Nat → ClassId} {ads : List Nat} {r : Int → Int} {n : Nat} : ab_e cA ads r (sA 2 n) = .inl (cA 2, n, .inr (.inl (fun j => Int64.ofInt (r (j : Int))))) := rfl
theorem ab_e_up {cA : Nat → ClassId} {ads : List Nat} {M : AbM} {k t n : Nat} {i x : Int} (ht : t ≠ 2) (h0 : 0 ≤ i) (hi : inI i) : ab_e cA ads (up M k i x k) (sA t n) = .inl (cA t, n, .inl (upd (fun j => Int32.ofInt (M k (j : Int))) (Int32.ofInt i).toNatClampNeg (Int32.ofInt x))) := by
  rw [ab_e_i ht, ab_cl h0 hi]
  congr 3
  apply congrArg Sum.inl
  funext j
  by_cases h : j = i.toNat
  · have : (j : Int) = i := by omega
    rw [this, up_s]
    simp [upd, h]
  · have : (j : Int) ≠ i := by omega
    rw [up_i this]
    simp [upd, h]
theorem ab_e_upL {cA : Nat → ClassId} {ads : List Nat} {M : AbM} {k n : Nat} {i x : Int} (h0 : 0 ≤ i) (hi : inI i) : ab_e cA ads (up M k i x k) (sA 2 n) = .inl (cA 2, n, .inr (.inl (vp_updL (fun j => Int64.ofInt (M k (j : Int))) (Int32.ofInt i).toNatClampNeg (Int64.ofInt x)))) := by
  rw [ab_e_l, ab_cl h0 hi]
  congr 4
  apply congrArg Sum.inl
  funext j
  by_cases h : j = i.toNat
  · have : (j : Int) = i := by omega
    rw [this, up_s]
    simp [vp_updL, h]
  · have : (j : Int) ≠ i := by omega
    rw [up_i this]
    simp [vp_updL, h]
-- locals
def ab_lvl (ads : List Nat) (lv : List AbV) : List (Nat × Value) := lv.zipIdx.filterMap (fun q => if q.1 = vU then none else some (q.2, ab_v ads q.1))
theorem ab_L_has {ls : Array Slot} {nL : Nat} {ads : List Nat} {lv : List AbV} (h : ab_L ls nL ads lv) : lv_has ls nL (ab_lvl ads lv) := by
  refine ⟨h.1, h.2.2.1, fun q hq => ?_⟩
  unfold ab_lvl at hq
  obtain ⟨⟨v, i⟩, h1, h2⟩ := List.mem_filterMap.mp hq
  by_cases hu : v = vU
  · simp [hu] at h2
  · simp only [if_neg hu, Option.some.injEq] at h2
    subst h2
    exact h.2.2.2 i v (by simpa [List.mem_zipIdx_iff_getElem?] using h1) hu
theorem ab_lvl_in {ads : List Nat} {lv : List AbV} {i : Nat} {v : AbV} (h : lv[i]? = some v) (hu : v ≠ vU) : (i, ab_v ads v) ∈ ab_lvl ads lv := by
  unfold ab_lvl
  refine List.mem_filterMap.mpr ⟨(v, i), ?_, by simp [hu]⟩
  simpa [List.mem_zipIdx_iff_getElem?] using h
theorem ab_vcat {ads : List Nat} {v : AbV} (h : ab_cat v = 1) : (ab_v ads v).category = 1 := by
  rcases v with x | x | x | x
  · rfl
  · cases h
  · rfl
  · rfl
/-- behind a store of a value of one slot -/
theorem ab_L_set {ls ls2 : Array Slot} {nL i : Nat} {ads : List Nat} {lv : List AbV} {v : AbV} (h : ab_L ls nL ads lv) (hi : i < nL) (hp : ∀ w, lv[i - 1]? = some w → ab_cat w = 1)
    (h2 : lv_has ls2 nL ((i, ab_v ads v) :: (ab_lvl ads lv).filter (fun q => !(q.1 == i) && !(q.1 + 1 == i && q.2.category == 2)))) : ab_L ls2 nL ads (lv.set i v) := by
  refine ⟨h2.1, by rw [List.length_set]; exact h.2.1, h2.2.1, fun j w hw hu => ?_⟩
  rw [List.getElem?_set] at hw
  by_cases hj : i = j
  · subst hj
    rw [if_pos rfl, if_pos (by rw [h.2.1]; exact hi)] at hw
    cases hw
    exact h2.2.2 _ List.mem_cons_self
  · rw [if_neg hj] at hw
    refine h2.2.2 (j, ab_v ads w) (List.mem_cons_of_mem _ (List.mem_filter.mpr ⟨ab_lvl_in hw hu, ?_⟩))
    have hj2 : (j == i) = false := by simpa using fun e : j = i => hj e.symm
    by_cases hj3 : j + 1 = i
    · have : ab_cat w = 1 := hp w (by rw [← hj3]; exact hw)
      simp [hj2, ab_vcat this]
    · simp [hj2, hj3]
