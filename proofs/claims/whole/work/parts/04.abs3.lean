/-! ===== calls, entries, the library's rows ===== -/
theorem ab_X_at {A B : Nat → Prop} {s U : State} {H : Heap} {locs : List Loc} (h : ab_X A s) (hS : va_S A s.heap H locs) (hB : ∀ q, B q → A q) (hU : U.heap = H) (hW : s.WarmedH U.vm) : ab_X B U := by
  obtain ⟨hN, sa, hZ, hT⟩ := h
  refine ⟨va_Nw.warmF hW hN, sa, ?_, ?_⟩
  · rw [hU]
    exact ((hZ.moved hW.alike).kept hS.2.1).narrow hB
  · rw [hU]
    exact ((hT.moved hW.alike).kept hS.2.1).narrow hB
theorem ab_AA {A : Nat → Prop} {cA : Nat → ClassId} {ads : List Nat} {S : List AbS} {M : AbM} {H0 H : Heap} {locs : List Loc} (hD : va_D A (ab_w cA ads S M)) (hA : ∀ q : Nat, H0.size ≤ q → A q) (hS : va_S A H0 H locs) : ∀ q, ab_A ads S H.size q → A q := by
  intro q h
  rcases h with ⟨k, hk, rfl⟩ | h
  · exact ab_D_in hD hk
  · exact hA q (Nat.le_trans hS.1 h)
theorem ab_blind {D : va_G} {cA : Nat → ClassId} {S : List AbS} {ads : List Nat} {M : AbM} {sz : Nat} {av : List Value} : FrameBlind (va_Pc av (ab_U D cA S ads M sz)) := by
  intro a U g mk q
  obtain ⟨q0, q1, qP, qK, qD, qN, sa, qZ, qT⟩ := q
  exact ⟨q0, q1, qP, va_K.moved (u := U) (U := U.calling g mk a) (Vm.Alike.refl U.vm) qK, qD, va_Nw.same (u := U) (U := U.calling g mk a) rfl rfl qN, sa, va_Z.moved (u := U) (U := U.calling g mk a) (Vm.Alike.refl U.vm) qZ, va_T.moved (u := U) (U := U.calling g mk a) (Vm.Alike.refl U.vm) qT⟩
theorem ab_goodIn {pre : List Cond} {y : MethodName} {cc : ByteArray} {nL : Nat} {ret : Option FieldType} (hp : ∀ w ∈ pre, ab_gw w) (hc : ab_gw (.code y cc nL ret)) : GoodIn ab_tb (pre ++ (.code y cc nL ret :: ab_tb)) := by
  have key : ∀ w, ab_gw w → w ∈ ab_tb ∧ ((w.onTables && w.keeps) = true ∨ ∃ ty, w = .arrayClass ty) := fun w h => ⟨ab_gw_in h, good_of_word h.2⟩
  intro w hw
  rcases List.mem_append.mp hw with h | h
  · exact key w (hp w h)
  · rcases List.mem_cons.mp h with rfl | h
    · exact key _ hc
    · exact key w ⟨(List.mem_filter.mp h).1, (List.mem_filter.mp h).2⟩
def ab_dsc (y : MethodName) (n : Nat) : Prop := y.cls ≠ "java/lang/invoke/MethodHandle" ∧ y.cls ≠ "java/lang/invoke/VarHandle" ∧ (parseMethodDescriptor y.desc).map (fun d => d.parameters.length) = some n
/-- what the tables say of a call's place: invokevirtual, invokestatic -/
def ab_cv (own : String) (index : Nat) (Cn : String) (y : MethodName) (cc : ByteArray) (nL : Nat) (ret : Option FieldType) (n : Nat) : Prop := ab_gw (.methodLink own index y) ∧ ab_gw (.instanceMethod y) ∧ ab_gw (.selects Cn y y) ∧ ab_gw (.initialized Cn) ∧ ab_gw (.code y cc nL ret) ∧ y.cls = Cn ∧ ab_dsc y n
def ab_cs (own : String) (index : Nat) (y : MethodName) (cc : ByteArray) (nL : Nat) (ret : Option FieldType) (n : Nat) : Prop := ab_gw (.methodLink own index y) ∧ ab_gw (.static y) ∧ ab_gw (.initialized y.cls) ∧ ab_gw (.code y cc nL ret) ∧ ab_dsc y n
abbrev ab_rm (rc rm : Room) (nL : Nat) : Prop := rc.cells = 0 ∧ rc.slots = 0 ∧ rc.frames + 1 ≤ rm.frames ∧ 8 + (nL + 11) + rc.locals ≤ rm.locals
section ABR
variable {p : Program} {l : Launch} {e : Env} {R : Room} {s : State} {m : MethodId} {args : Array Value} {below : List Frame} {meth : Method} {c : Code} {Q : State → Prop} {D : va_G} {cA : Nat → ClassId} {A : Nat → Prop} {ads : List Nat} {nL : Nat}
theorem ab_back {H : Heap} {locs : List Loc} {ls : Array Slot} {S : List AbS} {pc : Nat} {lv st : List AbV} {M : AbM} {Qm : List AbV → AbM → Prop} {a : Array Value} {st0 : List Value}
    (hr : va_Run p l e R s m args below meth c H locs 0 0 0 0 (F0 m pc ls st0) (st.map (ab_v ads)) (ab_Q D cA S ads (ab_A ads S H.size) Qm a) (ab_A ads S H.size)) (hD : va_D A (ab_w cA ads S M)) (hS : va_S A s.heap H locs) (hF : ∀ q, ab_A ads S H.size q → A q) (hL : ab_L ls nL ads lv) (hl : ∀ v ∈ lv, ab_ok v) (hs : ∀ v ∈ st, ab_ok v)
    (kk : ∀ (rs : List AbV) (M2 : AbM), Qm rs M2 → AJ (p, l, e, R, s, m, args, below, meth, c, Q, D, cA, A, ads, nL) S (pc + 3) lv (rs ++ st) M2) : W p l e R s m args below meth c H locs 0 0 Q (F0 m pc ls st0) := by
  intro T hT X
  obtain ⟨v, st₀, t, T', L, h0, X', hL', e1, e2, ⟨⟨rs, M2, hv, hok, hlen, hq, hO2, hP2⟩, hz, hk⟩, st'⟩ := hr T hT X
  rw [h0] at hz hk
  have hv2 : v = (rs.map (ab_v ads)).head? := Outcome.returned.inj hv
  have hS2 : va_S A s.heap T'.heap (locs ++ L) := ⟨Nat.le_trans hS.1 (by rw [e1]; exact hz), fun q h1 h2 => by rw [e1, hk q (Nat.lt_of_lt_of_le h1 hS.1) (fun z => h2 (hF q z))]; exact hS.2.1 q h1 h2, fun q hq => by
      rcases List.mem_append.mp hq with h | h
      · exact hS.2.2 q h
      · exact hF _ (hL' q h)⟩
  obtain ⟨t2, a1, b1⟩ := kk rs M2 hq T'.heap (locs ++ L) ls (by rw [e1]; exact hP2) (ab_D_M hD) hO2 hS2 hL hl (fun w hw => (List.mem_append.mp hw).elim (hok w) (hs w)) T' rfl X'
  refine ⟨t2, st' t2 ?_, b1⟩
  have : v.toList ++ st.map (ab_v ads) = (rs ++ st).map (ab_v ads) := by
    rw [hv2]
    rcases rs with _ | ⟨r, _ | ⟨r2, t⟩⟩
    · rfl
    · rfl
    · simp at hlen
  rw [this]
  exact a1
end ABR
theorem ab_callV {K : AbK} {cc : ByteArray} {own : String} {rm : Room} (C : Cx K cc own rm) {S : List AbS} {pc : Nat} {lv st stk : List AbV} {M : AbM} {index k ci n nL2 : Nat} {Cn : String} {y : MethodName} {cc2 : ByteArray} {ret : Option FieldType} {rc : Room} {fs : List (Option Nat)} {as : List AbV} {Qm : List AbV → AbM → Prop} {TN : u_T × Nat}
    (w : ab_cv own index Cn y cc2 nL2 ret n) (hM : Meth y cc2 nL2 ret rc (kD K) (kcA K) S (vP k :: as) M Qm) (hr : ab_rm rc rm nL2) (hc : vwCl[ci]? = some (Cn, TN)) (hk : S[k]? = some (sO ci fs)) (hn : as.length = n) (hst : stk = as.reverse ++ vP k :: st) (hcat : (st.map ab_cat).sum ≤ 8) (hd : decode cc pc = .ok (.invokevirtual index, 3)) (kk : ∀ (rs : List AbV) (M2 : AbM), Qm rs M2 → AJ K S (pc + 3) lv (rs ++ st) M2) : AJ K S pc lv stk M := by
  obtain ⟨p, l, e, R, s, m, args, below, meth, c, Q, D, cA, A, ads, nL⟩ := K
  obtain ⟨hx, hb, hml, hown, hts, hlk, hK, hA, hR, hX⟩ := C
  intro H locs ls hP hD hO hS hL hl hs
  subst hst
  subst hR
  obtain ⟨w1, w2, w3, w4, w5, w6, w7⟩ := w
  have hF := ab_AA hD hA hS
  have hsa : ∀ v ∈ as, ab_ok v := fun v hv => hs v (List.mem_append_left _ (List.mem_reverse.mpr hv))
  have hs2 : ∀ v ∈ st, ab_ok v := fun v hv => hs v (List.mem_append_right _ (List.mem_cons_of_mem _ hv))
  have hMet := hM hO (ab_c (v := vP k) trivial hsa) l ads H.size
  have hG : GoodIn ab_tb (wsV own index Cn y (.code y cc2 nL2 ret :: ab_tb)) := ab_goodIn (pre := [.methodLink own index y, .instanceMethod y, .selects Cn y y, .initialized Cn]) (by
    intro w hw
    simp only [List.mem_cons, List.not_mem_nil, or_false] at hw
    rcases hw with rfl | rfl | rfl | rfl <;> assumption) w5
  have hcw := cwV (R := R) (rm := rc) (mc := 0) (ms := 0) n hts hG rfl hr.1 hr.2.1 ⟨w6, w7⟩ hr.2.2
  refine ab_back (ls := ls) (lv := lv) (nL := nL) (A := A) (M := M) (va_runV (As := as.map (ab_v ads)) (b := ads.getD k 0) ⟨hx, hb, hml, hown, hts⟩ hMet hcw ⟨ab_blind, va_recv hK hP hc (ab_w_get hk), fun U hU hW => ⟨rfl, by rw [hU], by rw [hU]; exact hP, va_K.moved hW.alike hK, hD.weaken (fun _ _ _ _ => trivial), ab_X_at hX hS hF hU hW⟩⟩ rfl (by rw [List.length_map]; exact hn) hL.1 (by simp [ab_v]) (lv_room (by rw [ab_cats]; exact hcat)) hd ⟨Nat.zero_le _, Nat.zero_le _⟩) hD hS hF hL hl hs2 kk
theorem ab_callS {K : AbK} {cc : ByteArray} {own : String} {rm : Room} (C : Cx K cc own rm) {S : List AbS} {pc : Nat} {lv st stk : List AbV} {M : AbM} {index n nL2 : Nat} {y : MethodName} {cc2 : ByteArray} {ret : Option FieldType} {rc : Room} {as : List AbV} {Qm : List AbV → AbM → Prop}
    (w : ab_cs own index y cc2 nL2 ret n) (hM : Meth y cc2 nL2 ret rc (kD K) (kcA K) S as M Qm) (hr : ab_rm rc rm nL2) (hn : as.length = n) (hst : stk = as.reverse ++ st) (hcat : (st.map ab_cat).sum ≤ 8) (hd : decode cc pc = .ok (.invokestatic index, 3)) (kk : ∀ (rs : List AbV) (M2 : AbM), Qm rs M2 → AJ K S (pc + 3) lv (rs ++ st) M2) : AJ K S pc lv stk M := by
  obtain ⟨p, l, e, R, s, m, args, below, meth, c, Q, D, cA, A, ads, nL⟩ := K
  obtain ⟨hx, hb, hml, hown, hts, hlk, hK, hA, hR, hX⟩ := C
  intro H locs ls hP hD hO hS hL hl hs
  subst hst
  subst hR
  obtain ⟨w1, w2, w3, w4, w5⟩ := w
  have hF := ab_AA hD hA hS
  have hsa : ∀ v ∈ as, ab_ok v := fun v hv => hs v (List.mem_append_left _ (List.mem_reverse.mpr hv))
  have hs2 : ∀ v ∈ st, ab_ok v := fun v hv => hs v (List.mem_append_right _ hv)
  have hMet := hM hO hsa l ads H.size
  have hG : GoodIn ab_tb (va_wsS own index y (.code y cc2 nL2 ret :: ab_tb)) := ab_goodIn (pre := [.methodLink own index y, .static y, .initialized y.cls]) (by
    intro w hw
    simp only [List.mem_cons, List.not_mem_nil, or_false] at hw
    rcases hw with rfl | rfl | rfl <;> assumption) w4
  have hcw := va_cwS (R := R) (rm := rc) (mc := 0) (ms := 0) n hts hG rfl hr.1 hr.2.1 w5 hr.2.2
  refine ab_back (ls := ls) (lv := lv) (nL := nL) (A := A) (M := M) (va_runS (As := as.map (ab_v ads)) ⟨hx, hb, hml, hown, hts⟩ hMet hcw ⟨ab_blind, fun U hU hW => ⟨rfl, by rw [hU], by rw [hU]; exact hP, va_K.moved hW.alike hK, hD.weaken (fun _ _ _ _ => trivial), ab_X_at hX hS hF hU hW⟩⟩ rfl (by rw [List.length_map]; exact hn) hL.1 (by simp [ab_v]) (lv_room (by rw [ab_cats]; exact hcat)) hd ⟨Nat.zero_le _, Nat.zero_le _⟩) hD hS hF hL hl hs2 kk
/-- the locals at a method's entry -/
def ab_ent (nL : Nat) (as : List AbV) : List AbV :=
  let xs := as.flatMap (fun v => if ab_cat v = 2 then [v, vU] else [v])
  xs ++ List.replicate (nL - xs.length) vU
theorem ab_sl (ads : List Nat) : ∀ as : List AbV, (lg_sl (as.map (ab_v ads))).length = (as.flatMap (fun v => if ab_cat v = 2 then [v, vU] else [v])).length ∧ ∀ (i : Nat) (v : AbV), (as.flatMap (fun v => if ab_cat v = 2 then [v, vU] else [v]))[i]? = some v → v ≠ vU → (lg_sl (as.map (ab_v ads)))[i]? = some (.val (ab_v ads v))
  | [] => ⟨rfl, fun i v h => by simp at h⟩
  | a :: t => by
    obtain ⟨h1, h2⟩ := ab_sl ads t
    have e1 : lg_sl ((a :: t).map (ab_v ads)) = (if ab_cat a = 2 then [.val (ab_v ads a), .second] else [.val (ab_v ads a)]) ++ lg_sl (t.map (ab_v ads)) := by
      rcases a with x | x | x | x <;> rfl
    rw [e1, List.flatMap_cons]
    by_cases hc : ab_cat a = 2
    · rw [if_pos hc, if_pos hc]
      refine ⟨by simp [h1], fun i v hv hu => ?_⟩
      match i, hv with
      | 0, hv => cases hv; rfl
      | 1, hv => cases hv; exact absurd rfl hu
      | i + 2, hv => exact h2 i v hv hu
    · rw [if_neg hc, if_neg hc]
      refine ⟨by simp [h1], fun i v hv hu => ?_⟩
      match i, hv with
      | 0, hv => cases hv; rfl
      | i + 1, hv => exact h2 i v hv hu
theorem ab_entry (ads : List Nat) {as : List AbV} {nL : Nat} (hn : (as.flatMap (fun v => if ab_cat v = 2 then [v, vU] else [v])).length ≤ nL) : ab_L ((lg_sl (as.map (ab_v ads)) ++ List.replicate (nL - (lg_sl (as.map (ab_v ads))).length) Slot.unset).toArray) nL ads (ab_ent nL as) := by
  obtain ⟨h1, h2⟩ := ab_sl ads as
  have h := lv_entry (as.map (ab_v ads)) (n := nL) (by rw [h1]; exact hn)
  refine ⟨h.1, by simp only [ab_ent, List.length_append, List.length_replicate]; omega, h.2.1, fun i v hv hu => ?_⟩
  unfold ab_ent at hv
  have hlt : i < (as.flatMap (fun v => if ab_cat v = 2 then [v, vU] else [v])).length := by
    rcases Nat.lt_or_ge i (as.flatMap (fun v => if ab_cat v = 2 then [v, vU] else [v])).length with q | q
    · exact q
    · simp only [List.getElem?_append_right q] at hv
      rw [List.getElem?_replicate] at hv
      split at hv
      · cases hv; exact absurd rfl hu
      · cases hv
  simp only [List.getElem?_append_left hlt] at hv
  have := h2 i v hv hu
  rw [List.getElem?_toArray, List.getElem?_append_left (by rw [h1]; exact hlt)]
  exact this
theorem ab_entok {as : List AbV} (nL : Nat) (h : ∀ v ∈ as, ab_ok v) : ∀ v ∈ ab_ent nL as, ab_ok v := by
  intro v hv
  unfold ab_ent at hv
  rcases List.mem_append.mp hv with q | q
  · obtain ⟨a, ha, hq⟩ := List.mem_flatMap.mp q
    split at hq
    · simp only [List.mem_cons, List.not_mem_nil, or_false] at hq
      rcases hq with rfl | rfl
      · exact h _ ha
      · trivial
    · simp only [List.mem_cons, List.not_mem_nil, or_false] at hq
      exact hq ▸ h _ ha
  · rw [(List.mem_replicate.mp q).2]
    trivial
/-- A METHOD'S CONTRACT OUT OF ITS WALK -/
theorem ab_intro {y : MethodName} {cc : ByteArray} {nL : Nat} {ret : Option FieldType} {rm : Room} {D : va_G} {cA : Nat → ClassId} {S : List AbS} {as : List AbV} {M : AbM} {Qm : List AbV → AbM → Prop} {lv : List AbV}
    (hy : plainName y.cls = true) (hlv : ab_ent nL as = lv) (hn : (as.flatMap (fun v => if ab_cat v = 2 then [v, vU] else [v])).length ≤ nL)
    (body : ab_okM S M → (∀ v ∈ as, ab_ok v) → ∀ K : AbK, kD K = D → kcA K = cA → Cx K cc y.cls rm → Rt K S ret Qm → AJ K S 0 lv [] M) : Meth y cc nL ret rm D cA S as M Qm := by
  intro hO has l ads sz
  refine Met.ofW (cc := cc) (maxL := nL) (ret := ret) hy rfl ?_
  intro p e s m args below meth c s₁ B hml hv
  obtain ⟨rfl, hsz, hP, hK, hD0, hX⟩ := hv
  subst hsz
  have hts := atoms_spec (ws := .code y cc nL ret :: ab_tb) B.pre
  have hown : s.vm.findClass y.cls = some m.cls := findClass_of_methodNamed B.named
  have hD : va_D (ab_A ads S s.heap.size) (ab_w cA ads S M) := ab_D_A hD0 (fun k hk => Or.inl ⟨k, hk, rfl⟩)
  have hS : va_S (ab_A ads S s.heap.size) s.heap s.heap [] := va_S.rf
  have hL := ab_entry ads (as := as) hn
  rw [lg_entry_eq]
  subst hlv
  exact body hO has (p, l, e, (headSpec (.code y cc nL ret :: ab_tb) rm).room, s, m, (as.map (ab_v ads)).toArray, below, meth, c, MQ below (ab_Q D cA S ads (ab_A ads S s.heap.size) Qm) (as.map (ab_v ads)).toArray s 0 0 (ab_A ads S s.heap.size), D, cA, ab_A ads S s.heap.size, ads, nL) rfl rfl
    ⟨B.exec, B.bytes, hml, hown, fun w hw => hts w (List.mem_cons_of_mem _ hw), B.notSynchronized, hK, fun q h => Or.inr h, rfl, hX⟩ ⟨B.returns, rfl⟩ s.heap [] _ hP hD hO hS hL (ab_entok nL has) (fun v hv => by cases hv)
/-- a contract says less -/
theorem Meth.mono {y : MethodName} {cc : ByteArray} {nL : Nat} {ret : Option FieldType} {rm : Room} {D : va_G} {cA : Nat → ClassId} {S : List AbS} {as : List AbV} {M : AbM} {Qm Qn : List AbV → AbM → Prop} (h : Meth y cc nL ret rm D cA S as M Qm) (hq : ∀ rs M2, Qm rs M2 → Qn rs M2) : Meth y cc nL ret rm D cA S as M Qn := by
  intro hO has l ads sz p e ha hc hk s m args below hf hfit hP hT
  obtain ⟨t, o, h1, h2, h3, ⟨⟨rs, M2, g1, g2, g3, g4, g5⟩, g6⟩, h5⟩ := h hO has l ads sz p e ha hc hk s m args below hf hfit hP hT
  exact ⟨t, o, h1, h2, h3, ⟨⟨rs, M2, g1, g2, g3, hq _ _ g4, g5⟩, g6⟩, h5⟩
theorem ab_kI {K : AbK} {S : List AbS} {pc : Nat} {lv st : List AbV} {f : Int → AbM → Prop} (kk : ∀ (r : Int) (M2 : AbM), f r M2 → AJ K S pc lv (vI r :: st) M2) : ∀ (rs : List AbV) (M2 : AbM), qI f rs M2 → AJ K S pc lv (rs ++ st) M2 := by
  intro rs M2 h
  obtain ⟨r, rfl, h⟩ := h
  exact kk r M2 h
theorem ab_kL {K : AbK} {S : List AbS} {pc : Nat} {lv st : List AbV} {f : Int → AbM → Prop} (kk : ∀ (r : Int) (M2 : AbM), f r M2 → AJ K S pc lv (vL r :: st) M2) : ∀ (rs : List AbV) (M2 : AbM), qL f rs M2 → AJ K S pc lv (rs ++ st) M2 := by
  intro rs M2 h
  obtain ⟨r, rfl, h⟩ := h
  exact kk r M2 h
theorem ab_kV {K : AbK} {S : List AbS} {pc : Nat} {lv st : List AbV} {f : AbM → Prop} (kk : ∀ (M2 : AbM), f M2 → AJ K S pc lv st M2) : ∀ (rs : List AbV) (M2 : AbM), qV f rs M2 → AJ K S pc lv (rs ++ st) M2 := by
  intro rs M2 h
  obtain ⟨rfl, h⟩ := h
  exact kk M2 h
/-- a loop that counts up to b -/
theorem ab_loop {σ : Type} (P Inv : Int → σ → Prop) (b : Int) (step : ∀ (i : Int) (x : σ), i ≤ b → Inv i x → (∀ y : σ, i < b → Inv (i + 1) y → P (i + 1) y) → P i x) (i0 : Int) (x0 : σ) (h0 : i0 ≤ b) (hI : Inv i0 x0) : P i0 x0 := by
  have key : ∀ (n : Nat) (i : Int) (x : σ), i ≤ b → (b - i).toNat = n → Inv i x → P i x := by
    intro n
    induction n with
    | zero => intro i x hi hn hx; exact step i x hi hx (fun y hy => by omega)
    | succ n ih => intro i x hi hn hx; exact step i x hi hx (fun y hy h => ih (i + 1) y (by omega) (by omega) h)
  exact key _ i0 x0 h0 rfl hI
/-- a loop by a number that falls -/
theorem ab_loopM {σ : Type} (P Inv : σ → Prop) (μ : σ → Nat) (step : ∀ x : σ, Inv x → (∀ y : σ, μ y < μ x → Inv y → P y) → P x) (x0 : σ) (hI : Inv x0) : P x0 := by
  have key : ∀ (n : Nat) (x : σ), μ x < n → Inv x → P x := by
    intro n
    induction n with
    | zero => intro x hx; omega
    | succ n ih => intro x hx h; exact step x h (fun y hy hI => ih y (by omega) hI)
  exact key _ x0 (Nat.lt_succ_self _) hI
theorem ab_mmin {K : AbK} {cc : ByteArray} {own : String} {rm : Room} (C : Cx K cc own rm) {S : List AbS} {pc : Nat} {lv st : List AbV} {M : AbM} {index : Nat} {x y : Int} (w1 : ab_gw (.methodLink own index Lib.Math.min.name)) (w2 : ab_gw (.static Lib.Math.min.name)) (w3 : ab_gw (.initialized "java/lang/Math")) (w4 : ab_gw (.code Lib.Math.min.name Lib.Math.min.code 2 (some .int))) (hr : 1 ≤ rm.frames ∧ 21 ≤ rm.locals) (hcat : (st.map ab_cat).sum ≤ 8) (hd : decode cc pc = .ok (.invokestatic index, 3)) (h : AJ K S (pc + 3) lv (vI (min x y) :: st) M) : AJ K S pc lv (vI y :: vI x :: st) M := by
  obtain ⟨p, l, e, R, s, m, args, below, meth, c, Q, D, cA, A, ads, nL⟩ := K
  obtain ⟨hx, hb, hml, hown, hts, hlk, hK, hA, hR, hX⟩ := C
  intro H locs ls hP hD hO hS hL hl hs
  subst hR
  obtain ⟨hy, hs⟩ := List.forall_mem_cons.mp hs
  obtain ⟨hx2, hs⟩ := List.forall_mem_cons.mp hs
  have hi : inI (min x y) := by
    have h1 : inI x := hx2
    have h2 : inI y := hy
    omega
  have h1 := h H locs ls hP hD hO hS hL hl (ab_c hi hs)
  refine va_mmin (x := Int32.ofInt x) (y := Int32.ofInt y) hx hb (hml.trans hL.1.symm) hown (hts _ (ab_gw_in w1)) (hts _ (ab_gw_in w2)) (hts _ (ab_gw_in w3)) (hts _ (ab_gw_in w4)) hr.1 (by rw [ab_cats]; omega) (Nat.zero_le _) (Nat.zero_le _) hd ?_
  have e : (if Int32.ofInt y < Int32.ofInt x then Int32.ofInt y else Int32.ofInt x) = Int32.ofInt (min x y) := by
    by_cases q : y < x
    · rw [if_pos ((ab_lt hy hx2).mpr q)]
      congr 1
      omega
    · rw [if_neg (fun z => q ((ab_lt hy hx2).mp z))]
      congr 1
      omega
  rw [e]
  exact h1
theorem ab_mmax {K : AbK} {cc : ByteArray} {own : String} {rm : Room} (C : Cx K cc own rm) {S : List AbS} {pc : Nat} {lv st : List AbV} {M : AbM} {index : Nat} {x y : Int} (w1 : ab_gw (.methodLink own index Lib.Math.max.name)) (w2 : ab_gw (.static Lib.Math.max.name)) (w3 : ab_gw (.initialized "java/lang/Math")) (w4 : ab_gw (.code Lib.Math.max.name Lib.Math.max.code 2 (some .int))) (hr : 1 ≤ rm.frames ∧ 21 ≤ rm.locals) (hcat : (st.map ab_cat).sum ≤ 8) (hd : decode cc pc = .ok (.invokestatic index, 3)) (h : AJ K S (pc + 3) lv (vI (max x y) :: st) M) : AJ K S pc lv (vI y :: vI x :: st) M := by
  obtain ⟨p, l, e, R, s, m, args, below, meth, c, Q, D, cA, A, ads, nL⟩ := K
  obtain ⟨hx, hb, hml, hown, hts, hlk, hK, hA, hR, hX⟩ := C
  intro H locs ls hP hD hO hS hL hl hs
  subst hR
  obtain ⟨hy, hs⟩ := List.forall_mem_cons.mp hs
  obtain ⟨hx2, hs⟩ := List.forall_mem_cons.mp hs
  have hi : inI (max x y) := by
    have h1 : inI x := hx2
    have h2 : inI y := hy
    omega
  have h1 := h H locs ls hP hD hO hS hL hl (ab_c hi hs)
  refine va_mmax (x := Int32.ofInt x) (y := Int32.ofInt y) hx hb (hml.trans hL.1.symm) hown (hts _ (ab_gw_in w1)) (hts _ (ab_gw_in w2)) (hts _ (ab_gw_in w3)) (hts _ (ab_gw_in w4)) hr.1 (by rw [ab_cats]; omega) (Nat.zero_le _) (Nat.zero_le _) hd ?_
  have e : (if Int32.ofInt x < Int32.ofInt y then Int32.ofInt y else Int32.ofInt x) = Int32.ofInt (max x y) := by
    by_cases q : x < y
    · rw [if_pos ((ab_lt hx2 hy).mpr q)]
      congr 1
      omega
    · rw [if_neg (fun z => q ((ab_lt hx2 hy).mp z))]
      congr 1
      omega
  rw [e]
  exact h1
theorem ab_setA {cA : Nat → ClassId} {ads : List Nat} {S : List AbS} {M : AbM} {k : Nat} {sh : AbS} {f : Int → Int} {e : va_E} (h : S[k]? = some sh) (he : ab_e cA ads f sh = e) : (ab_w cA ads S M).set k (ads.getD k 0, e) = ab_w cA ads S (upA M k f) := by
  apply List.ext_getElem?
  intro j
  rw [List.getElem?_set]
  by_cases hj : k = j
  · subst hj
    have e1 : upA M k f k = f := by funext j; exact upA_s
    rw [if_pos rfl, ab_w_get h, e1, he]
    have : k < (ab_w cA ads S M).length := by unfold ab_w; rw [List.length_mapIdx]; exact ab_w_lt h
    rw [if_pos this]
  · rw [if_neg hj]
    unfold ab_w
    rw [List.getElem?_mapIdx, List.getElem?_mapIdx, upA_row (fun e => hj e.symm)]
theorem ab_copy {K : AbK} {cc : ByteArray} {own : String} {rm : Room} (C : Cx K cc own rm) {S : List AbS} {pc : Nat} {lv st : List AbV} {M : AbM} {index k0 k1 n0 n1 : Nat} {sp dp n : Int} (w1 : ab_gw (.methodLink own index arraycopyName)) (w2 : ab_gw (.native arraycopyName)) (w3 : ab_gw (.static arraycopyName)) (w4 : ab_gw (.initialized "java/lang/System")) (hr : 1 ≤ rm.frames ∧ nativeFrameWords "java/lang/System" "arraycopy" 5 + 19 ≤ rm.locals) (hcat : (st.map ab_cat).sum ≤ 8) (hk0 : S[k0]? = some (sA 0 n0)) (hk1 : S[k1]? = some (sA 0 n1)) (h0 : 0 ≤ sp) (h1 : 0 ≤ dp) (h2 : 0 ≤ n) (h3 : sp + n ≤ n0) (h4 : dp + n ≤ n1) (hd : decode cc pc = .ok (.invokestatic index, 3)) (h : AJ K S (pc + 3) lv st (upA M k1 (fun j => if dp ≤ j ∧ j < dp + n then M k0 (sp + (j - dp)) else M k1 j))) : AJ K S pc lv (vI n :: vI dp :: vP k1 :: vI sp :: vP k0 :: st) M := by
  obtain ⟨p, l, e, R, s, m, args, below, meth, c, Q, D, cA, A, ads, nL⟩ := K
  obtain ⟨hx, hb, hml, hown, hts, hlk, hK, hA, hR, hX⟩ := C
  intro H locs ls hP hD hO hS hL hl hs
  subst hR
  obtain ⟨hn, hs⟩ := List.forall_mem_cons.mp hs
  obtain ⟨hdp, hs⟩ := List.forall_mem_cons.mp hs
  obtain ⟨-, hs⟩ := List.forall_mem_cons.mp hs
  obtain ⟨hsp, hs⟩ := List.forall_mem_cons.mp hs
  obtain ⟨-, hs⟩ := List.forall_mem_cons.mp hs
  have hw0 := ab_w_get (cA := cA) (ads := ads) (M := M) hk0
  rw [ab_e_i (by decide)] at hw0
  have hw1 := ab_w_get (cA := cA) (ads := ads) (M := M) hk1
  rw [ab_e_i (by decide)] at hw1
  have nn : ∀ x : Int, inI x → 0 ≤ x → ¬ Int32.ofInt x < 0 := fun x hx h q => by
    have := (ab_lt hx (show inI 0 by decide)).mp q
    omega
  refine va_copyi (D := D) (ty := .int) hx hb (hml.trans hL.1.symm) hown (hts _ (ab_gw_in w1)) (hts _ (ab_gw_in w2)) (hts _ (ab_gw_in w3)) (hts _ (ab_gw_in w4)) hK hP hD hS k0 k1 0 0 hw0 hw1 rfl rfl rfl (nn sp hsp h0) (nn dp hdp h1) (nn n hn h2) (by rw [ab_cl h0 hsp, ab_cl h2 hn]; omega) (by rw [ab_cl h1 hdp, ab_cl h2 hn]; omega) (fun _ _ => rfl) hr.1 (by rw [ab_cats]; omega) hd (fun H1 locs1 hP1 hD1 hS1 => ?_)
  have he : ab_e cA ads (fun j => if dp ≤ j ∧ j < dp + n then M k0 (sp + (j - dp)) else M k1 j) (sA 0 n1) = .inl (cA 0, n1, .inl (va_cpy (fun j => Int32.ofInt (M k0 (j : Int))) (fun j => Int32.ofInt (M k1 (j : Int))) (Int32.ofInt sp).toNatClampNeg (Int32.ofInt dp).toNatClampNeg (Int32.ofInt n).toNatClampNeg)) := by
    rw [ab_e_i (by decide), ab_cl h0 hsp, ab_cl h1 hdp, ab_cl h2 hn]
    congr 3
    apply congrArg Sum.inl
    funext j
    by_cases q : dp ≤ (j : Int) ∧ (j : Int) < dp + n
    · rw [if_pos q, pk_cpy_in (by omega) (by omega)]
      congr 2
      omega
    · rw [if_neg q, pk_cpy_out (by omega)]
  rw [ab_setA hk1 he] at hP1 hD1
  refine h H1 locs1 ls hP1 hD1 ?_ hS1 hL hl hs
  intro k2 sh2 h2' j
  by_cases e2 : k2 = k1
  · subst e2
    cases hk1.symm.trans h2'
    rw [upA_s]
    split
    · exact ab_okA hO (by decide) hk0 _
    · exact ab_okA hO (by decide) hk1 _
  · rw [upA_k e2]
    exact hO k2 sh2 h2' j
