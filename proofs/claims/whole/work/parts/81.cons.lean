/-! ===== constructors: a world that grows ===== -/
def CJ (K : AbK) (kc ks : Nat) (ws : va_W) (pc : Nat) (lv : List (Nat × Value)) (st : List Value) : Prop := match K with
  | (p, l, e, R, s, m, args, below, meth, c, Q, D, _, A, _, nL) => ∀ (H : Heap) (locs : List Loc) (ls : Array Slot), va_P D vwCl ws H → va_D A ws → va_S A s.heap H locs → lv_has ls nL lv → W p l e R s m args below meth c H locs kc ks Q (F0 m pc ls st)
/-- the nest's links, and that there may be rows of sheets -/
def cn_E (U : State) : Prop := va_Nw (.methodLinkNest RX8 18 yX7_init RX8) U ∧ va_Nw (.methodLinkNest RX8 44 yX3_init RX8) U ∧ va_Nw (.methodLinkNest RX8 77 yX5_init RX8) U ∧ va_AO "WordLaws$Sheet" U
theorem cn_E.at {s U : State} (h : cn_E s) (hW : s.WarmedH U.vm) : cn_E U := ⟨va_Nw.warmM hW h.1, va_Nw.warmM hW h.2.1, va_Nw.warmM hW h.2.2.1, va_AO.moved hW.alike h.2.2.2⟩
def kN (K : AbK) : Prop := match K with
  | (_, _, _, _, s, _, _, _, meth, _, _, _, _, _, _, _) => meth.name = "<init>" ∧ cn_E s
def cn_Q (D : va_G) (post : va_W → Prop) (A : Nat → Prop) : Array Value → State → Outcome → State → Prop := va_Qv (S := va_W) post (fun w1 t => va_P D vwCl w1 t.heap ∧ va_D A w1) A
def RtC (K : AbK) (mc ms : Nat) (post : va_W → Prop) : Prop := match K with
  | (_, _, _, _, s, _, args, below, meth, _, Q, D, _, A, _, _) => meth.sig.returnType = none ∧ Q = MQ below (cn_Q D post A) args s mc ms A
def cn_U (D : va_G) (cA : Nat → ClassId) (c : Nat × va_E) (sz : Nat) (U : State) : Prop := U.heap.size = sz ∧ va_P D vwCl [c] U.heap ∧ va_K D vwCl (ab_t cA) U ∧ va_D (fun _ => True) [c] ∧ ab_X (va_A [c] sz) U ∧ cn_E U
/-- a constructor: out of one cell with its fields as they are made, a world of cells -/
def Ctor (y : MethodName) (cc : ByteArray) (nL : Nat) (rm : Room) (D : va_G) (cA : Nat → ClassId) (mc ms ci : Nat) (fs : List Value) (as : List Value) (post : Nat → va_W → Prop) : Prop :=
  ∀ (l : Launch) (h0 sz : Nat), Met l y (.code y cc nL none :: ab_tb) rm (va_Pc (.ref h0 :: as) (cn_U D cA (h0, .inr (ci, fs)) sz)) (cn_Q D (post h0) (va_A [(h0, .inr (ci, fs))] sz)) mc ms (va_A [(h0, .inr (ci, fs))] sz)
theorem cj_intro {y : MethodName} {cc : ByteArray} {nL : Nat} {rm : Room} {D : va_G} {cA : Nat → ClassId} {mc ms ci : Nat} {fs as : List Value} {post : Nat → va_W → Prop} {lv : Nat → List (Nat × Value)} (hy : plainName y.cls = true) (hname : y.name = "<init>") (hlv : ∀ h0, lv_args 0 (.ref h0 :: as) = lv h0) (hn : ∀ h0 : Nat, (lg_sl (.ref h0 :: as)).length ≤ nL)
    (body : ∀ (h0 : Nat) (K : AbK), kD K = D → kcA K = cA → knL K = nL → Cx K cc y.cls rm → kN K → RtC K mc ms (post h0) → CJ K 0 0 [(h0, .inr (ci, fs))] 0 (lv h0) []) : Ctor y cc nL rm D cA mc ms ci fs as post := by
  intro l h0 sz
  refine Met.ofW (cc := cc) (maxL := nL) (ret := none) hy rfl ?_
  intro p e s m args below meth c s₁ B hml hv
  obtain ⟨rfl, hsz, hP, hK, hD0, hX, hE⟩ := hv
  subst hsz
  have hts := atoms_spec (ws := .code y cc nL none :: ab_tb) B.pre
  have hown : s.vm.findClass y.cls = some m.cls := findClass_of_methodNamed B.named
  have hin : meth.name = "<init>" := ((name_of_methodNamed B.named B.method).1).trans hname
  have hD := hD0.self (sz := s.heap.size)
  have hl := lv_entry (.ref h0 :: as) (n := nL) (hn h0)
  rw [hlv h0] at hl
  rw [lg_entry_eq]
  exact body h0 (p, l, e, (headSpec (.code y cc nL none :: ab_tb) rm).room, s, m, (Value.ref h0 :: as).toArray, below, meth, c, MQ below (cn_Q D (post h0) (va_A [(h0, .inr (ci, fs))] s.heap.size)) (Value.ref h0 :: as).toArray s mc ms (va_A [(h0, .inr (ci, fs))] s.heap.size), D, cA, va_A [(h0, .inr (ci, fs))] s.heap.size, [], nL) rfl rfl rfl
    ⟨B.exec, B.bytes, hml, hown, fun w hw => hts w (List.mem_cons_of_mem _ hw), B.notSynchronized, hK, fun q h => Or.inr h, rfl, hX⟩ ⟨hin, hE⟩ ⟨B.returns, rfl⟩ s.heap [] _ hP hD va_S.rf hl
section CJR
variable {K : AbK} {kc ks : Nat} {cc : ByteArray} {own : String} {rm : Room} {ws : va_W} {pc : Nat} {lv : List (Nat × Value)} {st : List Value}
theorem cj_ret {mc ms : Nat} {post : va_W → Prop} (C : Cx K cc own rm) (r : RtC K mc ms post) (h1 : kc ≤ mc) (h2 : ks ≤ ms) (hq : post ws) (hd : decode cc pc = .ok (.return_, 1)) : CJ K kc ks ws pc lv [] := by
  obtain ⟨p, l, e, R, s, m, args, below, meth, c, Q, D, cA, A, ads, nL⟩ := K
  obtain ⟨hx, hb, hml, hown, hts, hlk, hK, hA, hR, hX⟩ := C
  obtain ⟨hr, rfl⟩ := r
  intro H locs ls hP hD hS hl
  refine W.widen (k := mc) (n := ms) h1 h2 ?_
  exact W.vret hx hb hr (fun t ht hW => ⟨⟨ws, rfl, hq, by rw [ht]; exact hP, hD⟩, hS.F ht⟩) hS.2.2 hd hlk
theorem cj_aload {k : Fin 4} {i v : Nat} (j : Nat) (C : Cx K cc own rm) (hd : decode cc pc = .ok (.aload_n k, 1)) (hi : (k : Nat) = i) (hv : lv[j]? = some (i, .ref v)) (h : CJ K kc ks ws (pc + 1) lv (.ref v :: st)) : CJ K kc ks ws pc lv st := by
  obtain ⟨p, l, e, R, s, m, args, below, meth, c, Q, D, cA, A, ads, nL⟩ := K
  obtain ⟨hx, hb, hml, hown, hts, hlk, hK, hA, hR, hX⟩ := C
  intro H locs ls hP hD hS hl
  exact lv_aload_n hx hb hd hi (lv_at hl j hv) (h H locs ls hP hD hS hl)
theorem cj_iload {k : Fin 4} {i : Nat} {x : Int32} (j : Nat) (C : Cx K cc own rm) (hd : decode cc pc = .ok (.iload_n k, 1)) (hi : (k : Nat) = i) (hv : lv[j]? = some (i, .int x)) (h : CJ K kc ks ws (pc + 1) lv (.int x :: st)) : CJ K kc ks ws pc lv st := by
  obtain ⟨p, l, e, R, s, m, args, below, meth, c, Q, D, cA, A, ads, nL⟩ := K
  obtain ⟨hx, hb, hml, hown, hts, hlk, hK, hA, hR, hX⟩ := C
  intro H locs ls hP hD hS hl
  exact lv_iload_n hx hb hd hi (lv_at hl j hv) (h H locs ls hP hD hS hl)
theorem cj_iconst {n : Int} (C : Cx K cc own rm) (hd : decode cc pc = .ok (.iconst n, 1)) (h : CJ K kc ks ws (pc + 1) lv (.int (Int32.ofInt n) :: st)) : CJ K kc ks ws pc lv st := by
  obtain ⟨p, l, e, R, s, m, args, below, meth, c, Q, D, cA, A, ads, nL⟩ := K
  obtain ⟨hx, hb, hml, hown, hts, hlk, hK, hA, hR, hX⟩ := C
  intro H locs ls hP hD hS hl
  exact lv_iconst hx hb hd rfl (h H locs ls hP hD hS hl)
theorem cj_bipush {n : Int} (C : Cx K cc own rm) (hd : decode cc pc = .ok (.bipush n, 2)) (hv : (Int8.ofInt n).toInt32 = Int32.ofInt n) (h : CJ K kc ks ws (pc + 2) lv (.int (Int32.ofInt n) :: st)) : CJ K kc ks ws pc lv st := by
  obtain ⟨p, l, e, R, s, m, args, below, meth, c, Q, D, cA, A, ads, nL⟩ := K
  obtain ⟨hx, hb, hml, hown, hts, hlk, hK, hA, hR, hX⟩ := C
  intro H locs ls hP hD hS hl
  exact lv_bipush hx hb hd hv (h H locs ls hP hD hS hl)
theorem cj_sipush {n : Int} (C : Cx K cc own rm) (hd : decode cc pc = .ok (.sipush n, 3)) (hv : (Int16.ofInt n).toInt32 = Int32.ofInt n) (h : CJ K kc ks ws (pc + 3) lv (.int (Int32.ofInt n) :: st)) : CJ K kc ks ws pc lv st := by
  obtain ⟨p, l, e, R, s, m, args, below, meth, c, Q, D, cA, A, ads, nL⟩ := K
  obtain ⟨hx, hb, hml, hown, hts, hlk, hK, hA, hR, hX⟩ := C
  intro H locs ls hP hD hS hl
  exact lv_sipush hx hb hd hv (h H locs ls hP hD hS hl)
theorem cj_ldc {index : Nat} {v : Int32} {n : Int} (C : Cx K cc own rm) (hw : ab_gw (.constant own index v)) (hd : decode cc pc = .ok (.ldc index, 2)) (hv : v = Int32.ofInt n) (h : CJ K kc ks ws (pc + 2) lv (.int (Int32.ofInt n) :: st)) : CJ K kc ks ws pc lv st := by
  obtain ⟨p, l, e, R, s, m, args, below, meth, c, Q, D, cA, A, ads, nL⟩ := K
  obtain ⟨hx, hb, hml, hown, hts, hlk, hK, hA, hR, hX⟩ := C
  intro H locs ls hP hD hS hl
  subst hv
  exact lv_ldc hx hb hown (hts _ (ab_gw_in hw)) hd (h H locs ls hP hD hS hl)
theorem cj_dup {v : Value} (C : Cx K cc own rm) (hd : decode cc pc = .ok (.dup, 1)) (hc : v.category = 1) (h : CJ K kc ks ws (pc + 1) lv (v :: v :: st)) : CJ K kc ks ws pc lv (v :: st) := by
  obtain ⟨p, l, e, R, s, m, args, below, meth, c, Q, D, cA, A, ads, nL⟩ := K
  obtain ⟨hx, hb, hml, hown, hts, hlk, hK, hA, hR, hX⟩ := C
  intro H locs ls hP hD hS hl
  exact lv_dup hx hb hd hc (h H locs ls hP hD hS hl)
theorem cj_obj {idx a : Nat} (C : Cx K cc own rm) (w1 : ab_gw (.methodLink own idx objectInit)) (w2 : ab_gw (.instanceMethod objectInit)) (w3 : ab_gw (.code objectInit ⟨#[0xb1]⟩ 1 none)) (hd : decode cc pc = .ok (.invokespecial idx, 3)) (hf : 1 ≤ rm.frames) (hlo : 12 ≤ rm.locals) (h : CJ K kc ks ws (pc + 3) lv []) : CJ K kc ks ws pc lv [.ref a] := by
  obtain ⟨p, l, e, R, s, m, args, below, meth, c, Q, D, cA, A, ads, nL⟩ := K
  obtain ⟨hx, hb, hml, hown, hts, hlk, hK, hA, hR, hX⟩ := C
  intro H locs ls hP hD hS hl
  subst hR
  refine W.objInit hx hb hown (hts _ (ab_gw_in w1)) (hts _ (ab_gw_in w2)) (hts _ (ab_gw_in w3)) rfl (by rw [hml]; exact hl.1) rfl hd hf hlo ?_
  exact W.eq (g2 := F0 m (pc + 3) ls []) rfl (h H locs ls hP hD hS hl)
theorem cj_newa {atype : ArrayType} {ty : FieldType} {n : Int} {N ti : Nat} {a0 : vp_A} (C : Cx K cc own rm) (w : ab_gw (.arrayClass ty)) (hty : newarray.typeOf atype = ty) (ht : ∀ cA : Nat → ClassId, (ab_t cA)[ti]? = some (cA ti, ty)) (hp : ∀ (U : State) (cA : ClassId), va_RA U cA ty → U.vm.findClass ("[" ++ ty.toString) = some cA) (ha : ∀ cA : ClassId, vp_cell cA a0 = arrV cA N (fun _ => defaultValue ty)) (hn : ¬ Int32.ofInt n < 0) (hN : (Int32.ofInt n).toNatClampNeg = N) (hbytes : N * componentBytes ty ≤ 536870912) (hc : kc + 1 ≤ rm.cells) (hsl : ks + N ≤ rm.slots) (hd : decode cc pc = .ok (.newarray atype, 2))
    (h : ∀ q : Nat, CJ K (kc + 1) (ks + N) (ws ++ [(q, .inl (kcA K ti, a0))]) (pc + 2) lv (.ref q :: st)) : CJ K kc ks ws pc lv (.int (Int32.ofInt n) :: st) := by
  obtain ⟨p, l, e, R, s, m, args, below, meth, c, Q, D, cA, A, ads, nL⟩ := K
  obtain ⟨hx, hb, hml, hown, hts, hlk, hK, hA, hR, hX⟩ := C
  intro H locs ls hP hD hS hl
  subst hR
  refine va_newa hx hb (by rw [hty]; exact hts _ (ab_gw_in w)) hty hK hP hD hS hA ha hn hN hbytes hc hsl hd (fun q cA2 H1 hK1 hP1 hD1 hS1 => ?_)
  have e1 := hp s _ (hK.2 ti _ (ht cA)).2
  have e2 := hp s _ (hK1.2 (ab_t cA).length (cA2, ty) (by rw [List.getElem?_append_right (Nat.le_refl _), Nat.sub_self]; rfl)).2
  have e3 : cA2 = cA ti := Option.some.inj (e2.symm.trans e1)
  subst e3
  exact h q H1 locs ls hP1 hD1 hS1 hl
theorem cj_newq {n : Int} {N index : Nat} (C : Cx K cc own rm) (hk : kN K) (w : ab_gw (.classLink own index "WordLaws$Sheet")) (hn : ¬ Int32.ofInt n < 0) (hN : (Int32.ofInt n).toNatClampNeg = N) (hbytes : N * 4 ≤ 536870912) (hc : kc + 1 ≤ rm.cells) (hsl : ks + N ≤ rm.slots) (hd : decode cc pc = .ok (.anewarray index, 3))
    (h : ∀ q : Nat, CJ K (kc + 1) (ks + N) (ws ++ [(q, .inl (kcA K 3, N, .inr (.inr (.inr (.inr (fun _ => none))))))]) (pc + 3) lv (.ref q :: st)) : CJ K kc ks ws pc lv (.int (Int32.ofInt n) :: st) := by
  obtain ⟨p, l, e, R, s, m, args, below, meth, c, Q, D, cA, A, ads, nL⟩ := K
  obtain ⟨hx, hb, hml, hown, hts, hlk, hK, hA, hR, hX⟩ := C
  intro H locs ls hP hD hS hl
  subst hR
  refine va_newq hx hb hown (hts _ (ab_gw_in w)) hk.2.2.2.2 hK hP hD hS hA hn hN hbytes hc hsl hd (fun q cA2 H1 hK1 hP1 hD1 hS1 => ?_)
  obtain ⟨-, -, -, -, -, e1⟩ := (hK.2 3 (cA 3, .object "WordLaws$Sheet") rfl).2
  obtain ⟨-, -, -, -, -, e2⟩ := (hK1.2 (ab_t cA).length (cA2, .object "WordLaws$Sheet") (by rw [List.getElem?_append_right (Nat.le_refl _), Nat.sub_self]; rfl)).2
  have e3 : cA2 = cA 3 := Option.some.inj (e2.symm.trans e1)
  subst e3
  exact h q H1 locs ls hP1 hD1 hS1 hl
theorem cj_putF {Cn : String} {T : u_T} {N ci index j a : Nat} (q0 : Nat) {fs : List Value} {v : Value} {ty : FieldType} {ty0 : Nat → FieldType} (C : Cx K cc own rm) (hk : kN K) (hin : ∀ w ∈ u_ws Cn T N, w ∈ ab_tb) (hc : vwCl[ci]? = some (Cn, T, N)) (hj : j < N) (hw : ab_gw (.fieldLink own index (T j).1 (T j).2.1 (T j).2.2.1)) (hty : ∀ k, k < N → parseFieldDescriptor (T k).2.2.1 = some (ty0 k)) (hnm : ∀ a, a < N → ∀ b, b < N → a ≠ b → (T a).2.1 ≠ (T b).2.1) (hfin : (T j).2.2.2 = true) (hdecl : (T j).1 = own) (hdd : parseFieldDescriptor (T j).2.2.1 = some ty) (hnar : narrow ty v = v) (hfit : fits ty v = true) (he : ws[q0]? = some (a, .inr (ci, fs))) (hl2 : j < fs.length) (hd : decode cc pc = .ok (.putfield index, 3)) (h : CJ K kc ks (ws.set q0 (a, .inr (ci, fs.set j v))) (pc + 3) lv st) : CJ K kc ks ws pc lv (v :: .ref a :: st) := by
  obtain ⟨p, l, e, R, s, m, args, below, meth, c, Q, D, cA, A, ads, nL⟩ := K
  obtain ⟨hx, hb, hml, hown, hts, hlk, hK, hA, hR, hX⟩ := C
  intro H locs ls hP hD hS hl
  exact va_putF (D := D) (C := Cn) (T := T) (N := N) (ty := ty) hx hb hts hin ty0 hty hnm hown hK hP hD hS q0 he hc j hj (hts _ (ab_gw_in hw)) (fun _ z => z) hfin hk.1 hdecl hdd hnar hfit hl2 hd (fun H1 locs1 hP1 hD1 hS1 => h H1 locs1 ls hP1 hD1 hS1 hl)
theorem cj_put {Cn : String} {T : u_T} {N ci index j a : Nat} (q0 : Nat) {fs : List Value} {v : Value} {ty : FieldType} {ty0 : Nat → FieldType} (C : Cx K cc own rm) (hin : ∀ w ∈ u_ws Cn T N, w ∈ ab_tb) (hc : vwCl[ci]? = some (Cn, T, N)) (hj : j < N) (hw : ab_gw (.fieldLink own index (T j).1 (T j).2.1 (T j).2.2.1)) (hty : ∀ k, k < N → parseFieldDescriptor (T k).2.2.1 = some (ty0 k)) (hnm : ∀ a, a < N → ∀ b, b < N → a ≠ b → (T a).2.1 ≠ (T b).2.1) (hfin : (T j).2.2.2 = false) (hdd : parseFieldDescriptor (T j).2.2.1 = some ty) (hnar : narrow ty v = v) (hfit : fits ty v = true) (he : ws[q0]? = some (a, .inr (ci, fs))) (hl2 : j < fs.length) (hd : decode cc pc = .ok (.putfield index, 3)) (h : CJ K kc ks (ws.set q0 (a, .inr (ci, fs.set j v))) (pc + 3) lv st) : CJ K kc ks ws pc lv (v :: .ref a :: st) := by
  obtain ⟨p, l, e, R, s, m, args, below, meth, c, Q, D, cA, A, ads, nL⟩ := K
  obtain ⟨hx, hb, hml, hown, hts, hlk, hK, hA, hR, hX⟩ := C
  intro H locs ls hP hD hS hl
  exact va_put (D := D) (C := Cn) (T := T) (N := N) (ty := ty) hx hb hts hin ty0 hty hnm hown hK hP hD hS q0 he hc j hj (hts _ (ab_gw_in hw)) (fun _ z => z) hfin hdd hnar hfit hl2 hd (fun H1 locs1 hP1 hD1 hS1 => h H1 locs1 ls hP1 hD1 hS1 hl)
theorem cj_get {Cn : String} {T : u_T} {N ci index j a : Nat} (q0 : Nat) {fs : List Value} {v : Value} (C : Cx K cc own rm) (hin : ∀ w ∈ u_ws Cn T N, w ∈ ab_tb) (hc : vwCl[ci]? = some (Cn, T, N)) (hj : j < N) (hw : ab_gw (.fieldLink own index (T j).1 (T j).2.1 (T j).2.2.1)) (he : ws[q0]? = some (a, .inr (ci, fs))) (hv : fs[j]? = some v) (hd : decode cc pc = .ok (.getfield index, 3)) (h : CJ K kc ks ws (pc + 3) lv (v :: st)) : CJ K kc ks ws pc lv (.ref a :: st) := by
  obtain ⟨p, l, e, R, s, m, args, below, meth, c, Q, D, cA, A, ads, nL⟩ := K
  obtain ⟨hx, hb, hml, hown, hts, hlk, hK, hA, hR, hX⟩ := C
  intro H locs ls hP hD hS hl
  exact va_get (D := D) (C := Cn) (T := T) (N := N) hx hb hts hin hown hK hP q0 he hc j hj (hts _ (ab_gw_in hw)) (fun _ z => z) hv hd (h H locs ls hP hD hS hl)
theorem cj_new {Cn : String} {T : u_T} {N ci index : Nat} {fs : List Value} {ty0 : Nat → FieldType} (C : Cx K cc own rm) (hin : ∀ w ∈ u_ws Cn T N, w ∈ ab_tb) (hc : vwCl[ci]? = some (Cn, T, N)) (hty : ∀ k, k < N → parseFieldDescriptor (T k).2.2.1 = some (ty0 k)) (w1 : ab_gw (.classLink own index Cn)) (w2 : ab_gw (.instantiable Cn N)) (w3 : ab_gw (.initialized Cn)) (hfs : ∀ j, j < N → defaultValue (ty0 j) = vp_V fs j) (h1 : kc + 1 ≤ rm.cells) (h2 : ks + N ≤ rm.slots) (hd : decode cc pc = .ok (.new index, 3)) (h : ∀ q : Nat, CJ K (kc + 1) (ks + N) (ws ++ [(q, .inr (ci, fs))]) (pc + 3) lv (.ref q :: st)) : CJ K kc ks ws pc lv st := by
  obtain ⟨p, l, e, R, s, m, args, below, meth, c, Q, D, cA, A, ads, nL⟩ := K
  obtain ⟨hx, hb, hml, hown, hts, hlk, hK, hA, hR, hX⟩ := C
  intro H locs ls hP hD hS hl
  subst hR
  exact va_new (C := Cn) (T := T) (N := N) hx hb hts hin ty0 hty hown (hts _ (ab_gw_in w1)) (hts _ (ab_gw_in w2)) (hts _ (ab_gw_in w3)) hK hP hD hS hA hc hfs h1 h2 hd (fun q H1 hP1 hD1 hS1 => h q H1 locs ls hP1 hD1 hS1 hl)
end CJR
theorem nd_of : ∀ {l : List Nat}, l.Nodup → va_nd l = true
  | [], _ => rfl
  | a :: l, h => by
    obtain ⟨h1, h2⟩ := List.nodup_cons.mp h
    show (decide (a ∉ l) && va_nd l) = true
    rw [nd_of h2, decide_eq_true h1]
    rfl
theorem rng_map {ws : va_W} {c : Nat × va_E} : (List.range ws.length).map (fun i => (ws ++ [c])[i]?) = ws.map some := by
  apply List.ext_getElem?
  intro k
  rw [List.getElem?_map, List.getElem?_map]
  by_cases h : k < ws.length
  · rw [List.getElem?_range h]
    show some ((ws ++ [c])[k]?) = _
    rw [List.getElem?_append_left h, List.getElem?_eq_getElem h]
    rfl
  · rw [List.getElem?_eq_none (by rw [List.length_range]; omega), List.getElem?_eq_none (by omega)]
    rfl
theorem last_map {ws : va_W} {c : Nat × va_E} : [ws.length].map (fun i => (ws ++ [c])[i]?) = [c].map some := by
  simp
theorem cn_blind {D : va_G} {cA : Nat → ClassId} {c : Nat × va_E} {sz : Nat} {av : List Value} : FrameBlind (va_Pc av (cn_U D cA c sz)) := by
  intro a U g mk q
  obtain ⟨q0, q1, qP, qK, qD, ⟨qN, sa, qZ, qT⟩, n1, n2, n3, n4⟩ := q
  exact ⟨q0, q1, qP, va_K.moved (u := U) (U := U.calling g mk a) (Vm.Alike.refl U.vm) qK, qD, ⟨va_Nw.same (u := U) (U := U.calling g mk a) rfl rfl qN, sa, va_Z.moved (u := U) (U := U.calling g mk a) (Vm.Alike.refl U.vm) qZ, va_T.moved (u := U) (U := U.calling g mk a) (Vm.Alike.refl U.vm) qT⟩, va_Nw.same (u := U) (U := U.calling g mk a) rfl rfl n1, va_Nw.same (u := U) (U := U.calling g mk a) rfl rfl n2, va_Nw.same (u := U) (U := U.calling g mk a) rfl rfl n3, va_AO.moved (u := U) (U := U.calling g mk a) (Vm.Alike.refl U.vm) n4⟩
def cn_w (y : MethodName) (cc : ByteArray) (nL n : Nat) : Prop := ab_gw (.instanceMethod y) ∧ ab_gw (.initialized y.cls) ∧ ab_gw (.code y cc nL none) ∧ ab_dsc y n ∧ y.name = "<init>"
theorem cj_back {K : AbK} {kc ks : Nat} {cc : ByteArray} {own : String} {rm : Room} {ws : va_W} {pc : Nat} {lv : List (Nat × Value)} {st stk : List Value} {mc ms q ci : Nat} {fs : List Value} {post : Nat → va_W → Prop} (C : Cx K cc own rm) (h : ∀ w1, post q w1 → CJ K (kc + mc) (ks + ms) (ws ++ w1) (pc + 3) lv st)
    (hr : match K with | (p, l, e, R, s, m, args, below, meth, c, _, D, _, A, _, nL) => ∀ (H : Heap) (locs : List Loc) (ls : Array Slot), va_P D vwCl [(q, .inr (ci, fs))] H → va_D (fun _ => True) [(q, .inr (ci, fs))] → va_S A s.heap H locs → (∀ z, va_A [(q, .inr (ci, fs))] H.size z → A z) → lv_has ls nL lv → ∃ a, va_Run p l e R s m args below meth c H locs kc ks mc ms (F0 m pc ls stk) st (cn_Q D (post q) (va_A [(q, .inr (ci, fs))] H.size) a) (va_A [(q, .inr (ci, fs))] H.size)) : CJ K kc ks (ws ++ [(q, .inr (ci, fs))]) pc lv stk := by
  obtain ⟨p, l, e, R, s, m, args, below, meth, c, Q, D, cA, A, ads, nL⟩ := K
  obtain ⟨hx, hb, hml, hown, hts, hlk, hK, hA, hR, hX⟩ := C
  intro H locs ls hP hD hS hl
  have hFc := va_free (wc := [(q, .inr (ci, fs))]) hD hS hA [ws.length] last_map
  have hPc : va_P D vwCl [(q, .inr (ci, fs))] H := fun k x hx => hP (ws.length + k) x (by rw [List.getElem?_append_right (by omega), show ws.length + k - ws.length = k by omega]; exact hx)
  have hDc := hD.sub (ws' := [(q, .inr (ci, fs))]) [ws.length] rfl last_map
  obtain ⟨a, hrun⟩ := hr H locs ls hPc (hDc.weaken (fun _ _ _ _ => trivial)) hS hFc hl
  refine va_callv hrun hS (fun z _ hz => hFc z hz) hFc (fun w1 t H1 locs1 ht hvm hw hB hz1 hk1 hS1 => ?_)
  obtain ⟨hP1, hD1⟩ := hB
  rw [ht] at hP1
  obtain ⟨hP2, hD2⟩ := va_join (wr := ws) (w1 := w1) hP hD [ws.length] (List.range ws.length) last_map rng_map (nd_of List.nodup_range) (fun i hi => by simp only [List.mem_range] at hi; simp only [List.mem_cons, List.not_mem_nil, or_false]; omega) hk1 hFc hP1 hD1
  exact h w1 hw H1 locs1 ls hP2 hD2 hS1 hl
theorem cn_X {A : Nat → Prop} {s U : State} {H : Heap} {locs : List Loc} {B : Nat → Prop} (h : ab_X A s) (hS : va_S A s.heap H locs) (hB : ∀ q, B q → A q) (hU : U.heap = H) (hW : s.WarmedH U.vm) : ab_X B U := ab_X_at h hS hB hU hW
/-- a constructor's call -/
theorem cj_ctor {K : AbK} {kc ks : Nat} {cc : ByteArray} {own : String} {rm : Room} {ws : va_W} {pc : Nat} {lv : List (Nat × Value)} {st as stk : List Value} {mc ms q ci index n nL2 : Nat} {fs : List Value} {post : Nat → va_W → Prop} {y : MethodName} {cc2 : ByteArray} {rc : Room} (C : Cx K cc own rm) (hk : kN K) (hM : Ctor y cc2 nL2 rc (kD K) (kcA K) mc ms ci fs as post) (w0 : ab_gw (.methodLink own index y)) (w : cn_w y cc2 nL2 n) (hr : rc.cells = mc ∧ rc.slots = ms ∧ rc.frames + 1 ≤ rm.frames ∧ 8 + (nL2 + 11) + rc.locals ≤ rm.locals) (hn : as.length = n) (hst : stk = as.reverse ++ .ref q :: st) (hcat : (st.map fun v => v.category).sum ≤ 8) (hro : kc + mc ≤ rm.cells ∧ ks + ms ≤ rm.slots) (hd : decode cc pc = .ok (.invokespecial index, 3)) (h : ∀ w1, post q w1 → CJ K (kc + mc) (ks + ms) (ws ++ w1) (pc + 3) lv st) : CJ K kc ks (ws ++ [(q, .inr (ci, fs))]) pc lv stk := by
  subst hst
  refine cj_back C h ?_
  obtain ⟨p, l, e, R, s, m, args, below, meth, c, Q, D, cA, A, ads, nL⟩ := K
  obtain ⟨hx, hb, hml, hown, hts, hlk, hK, hA, hR, hX⟩ := C
  obtain ⟨w1, w2, w3, w4, w5⟩ := w
  subst hR
  intro H locs ls hPc hDc hS hFc hl
  have hG : GoodIn ab_tb (.code y cc2 nL2 none :: ab_tb) := ab_goodIn (pre := []) (fun w hw => by cases hw) w3
  exact ⟨_, va_runI (As := as) (b := q) ⟨hx, hb, hml, hown, hts⟩ (hM l q H.size) (cwI n hts hG rfl hr.1 hr.2.1 (hts _ (ab_gw_in w2)) (hts _ (ab_gw_in w0)) (hts _ (ab_gw_in w1)) w5 w4 hr.2.2) ⟨cn_blind, fun U hU hW => ⟨rfl, by rw [hU], by rw [hU]; exact hPc, va_K.moved hW.alike hK, hDc, cn_X hX hS hFc hU hW, hk.2.at hW⟩⟩ rfl hn hl.1 rfl (lv_room hcat) hd hro⟩
/-- a nest mate's constructor -/
theorem cj_ctorN {K : AbK} {kc ks : Nat} {cc : ByteArray} {own host : String} {rm : Room} {ws : va_W} {pc : Nat} {lv : List (Nat × Value)} {st as stk : List Value} {mc ms q ci index n nL2 : Nat} {fs : List Value} {post : Nat → va_W → Prop} {y : MethodName} {cc2 : ByteArray} {rc : Room} (C : Cx K cc own rm) (hk : kN K) (hM : Ctor y cc2 nL2 rc (kD K) (kcA K) mc ms ci fs as post) (w0 : ∀ U, cn_E U → va_Nw (.methodLinkNest own index y host) U) (w : cn_w y cc2 nL2 n) (hr : rc.cells = mc ∧ rc.slots = ms ∧ rc.frames + 1 ≤ rm.frames ∧ 8 + (nL2 + 11) + rc.locals ≤ rm.locals) (hn : as.length = n) (hst : stk = as.reverse ++ .ref q :: st) (hcat : (st.map fun v => v.category).sum ≤ 8) (hro : kc + mc ≤ rm.cells ∧ ks + ms ≤ rm.slots) (hd : decode cc pc = .ok (.invokespecial index, 3)) (h : ∀ w1, post q w1 → CJ K (kc + mc) (ks + ms) (ws ++ w1) (pc + 3) lv st) : CJ K kc ks (ws ++ [(q, .inr (ci, fs))]) pc lv stk := by
  subst hst
  refine cj_back C h ?_
  obtain ⟨p, l, e, R, s, m, args, below, meth, c, Q, D, cA, A, ads, nL⟩ := K
  obtain ⟨hx, hb, hml, hown, hts, hlk, hK, hA, hR, hX⟩ := C
  obtain ⟨w1, w2, w3, w4, w5⟩ := w
  subst hR
  intro H locs ls hPc hDc hS hFc hl
  have hG : GoodIn ab_tb (.code y cc2 nL2 none :: ab_tb) := ab_goodIn (pre := []) (fun w hw => by cases hw) w3
  exact ⟨_, va_runIN (As := as) (b := q) ⟨hx, hb, hml, hown, hts⟩ (hM l q H.size) ⟨va_cnB n hts hG rfl hr.1 hr.2.1 (w0 s hk.2) (hts _ (ab_gw_in w2)) w4 hr.2.2, w5, hts _ (ab_gw_in w1)⟩ ⟨cn_blind, fun U hU hW => ⟨rfl, by rw [hU], by rw [hU]; exact hPc, va_K.moved hW.alike hK, hDc, cn_X hX hS hFc hU hW, hk.2.at hW⟩⟩ rfl hn hl.1 rfl (lv_room hcat) hd hro⟩
/-- from here on the world stays as it is -/
def setA (K : AbK) (ads : List Nat) : AbK := match K with
  | (p, l, e, R, s, m, args, below, meth, c, Q, D, cA, A, _, nL) => (p, l, e, R, s, m, args, below, meth, c, Q, D, cA, A, ads, nL)
theorem setA_Cx {K : AbK} {ads : List Nat} {cc : ByteArray} {own : String} {rm : Room} (C : Cx K cc own rm) : Cx (setA K ads) cc own rm := by
  obtain ⟨p, l, e, R, s, m, args, below, meth, c, Q, D, cA, A, ads, nL⟩ := K
  exact C
theorem cj_to {K : AbK} {kc ks : Nat} {ws : va_W} {pc : Nat} {lv : List (Nat × Value)} {st : List Value} (ads : List Nat) {S : List AbS} {M : AbM} {lvA stA : List AbV} (hws : ws = ab_w (kcA K) ads S M) (hO : ab_okM S M) (hl1 : lvA.length = knL K) (hl2 : ∀ (i : Nat) (v : AbV), lvA[i]? = some v → v ≠ vU → (i, ab_v ads v) ∈ lv) (hl3 : ∀ v ∈ lvA, ab_ok v) (hs1 : st = stA.map (ab_v ads)) (hs2 : ∀ v ∈ stA, ab_ok v) (h : AJc (setA K ads) kc ks S pc lvA stA M) : CJ K kc ks ws pc lv st := by
  obtain ⟨p, l, e, R, s, m, args, below, meth, c, Q, D, cA, A, ads0, nL⟩ := K
  subst hws
  subst hs1
  intro H locs ls hP hD hS hl
  exact h H locs ls hP hD hO hS ⟨hl.1, hl1, hl.2.1, fun i v hv hu => hl.2.2 (i, ab_v ads v) (hl2 i v hv hu)⟩ hl3 hs2
theorem ac_cret {K : AbK} {kc ks mc ms : Nat} {cc : ByteArray} {own : String} {rm : Room} {S : List AbS} {M : AbM} {pc : Nat} {lv : List AbV} {ads : List Nat} {post : va_W → Prop} (C : Cx K cc own rm) (r : RtC K mc ms post) (h1 : kc ≤ mc) (h2 : ks ≤ ms) (hq : ab_okM S M → post (ab_w (kcA K) ads S M)) (hd : decode cc pc = .ok (.return_, 1)) : AJc (setA K ads) kc ks S pc lv [] M := by
  obtain ⟨p, l, e, R, s, m, args, below, meth, c, Q, D, cA, A, ads0, nL⟩ := K
  obtain ⟨hx, hb, hml, hown, hts, hlk, hK, hA, hR, hX⟩ := C
  obtain ⟨hr, rfl⟩ := r
  intro H locs ls hP hD hO hS hL hl hs
  refine W.widen (k := mc) (n := ms) h1 h2 ?_
  exact W.vret hx hb hr (fun t ht hW => ⟨⟨_, rfl, hq hO, by rw [ht]; exact hP, hD⟩, hS.F ht⟩) hS.2.2 hd hlk
