/-! ===== the law's start ===== -/
def kM (K : AbK) : Prop := match K with
  | (_, _, _, _, s, _, _, _, _, _, _, _, _, _, _, _) => cn_E s
/-- a constructor's call -/
theorem cj_ctorL {K : AbK} {kc ks : Nat} {cc : ByteArray} {own : String} {rm : Room} {ws : va_W} {pc : Nat} {lv : List (Nat × Value)} {st as stk : List Value} {mc ms q ci index n nL2 : Nat} {fs : List Value} {post : Nat → va_W → Prop} {y : MethodName} {cc2 : ByteArray} {rc : Room} (C : Cx K cc own rm) (hk : kM K) (hM : Ctor y cc2 nL2 rc (kD K) (kcA K) mc ms ci fs as post) (w0 : ab_gw (.methodLink own index y)) (w : cn_w y cc2 nL2 n) (hr : rc.cells = mc ∧ rc.slots = ms ∧ rc.frames + 1 ≤ rm.frames ∧ 8 + (nL2 + 11) + rc.locals ≤ rm.locals) (hn : as.length = n) (hst : stk = as.reverse ++ .ref q :: st) (hcat : (st.map fun v => v.category).sum ≤ 8) (hro : kc + mc ≤ rm.cells ∧ ks + ms ≤ rm.slots) (hd : decode cc pc = .ok (.invokespecial index, 3)) (h : ∀ w1, post q w1 → CJ K (kc + mc) (ks + ms) (ws ++ w1) (pc + 3) lv st) : CJ K kc ks (ws ++ [(q, .inr (ci, fs))]) pc lv stk := by
  subst hst
  refine cj_back C h ?_
  obtain ⟨p, l, e, R, s, m, args, below, meth, c, Q, D, cA, A, ads, nL⟩ := K
  obtain ⟨hx, hb, hml, hown, hts, hlk, hK, hA, hR, hX⟩ := C
  obtain ⟨w1, w2, w3, w4, w5⟩ := w
  subst hR
  intro H locs ls hPc hDc hS hFc hl
  have hG : GoodIn ab_tb (.code y cc2 nL2 none :: ab_tb) := ab_goodIn (pre := []) (fun w hw => by cases hw) w3
  exact ⟨_, va_runI (As := as) (b := q) ⟨hx, hb, hml, hown, hts⟩ (hM l q H.size) (cwI n hts hG rfl hr.1 hr.2.1 (hts _ (ab_gw_in w2)) (hts _ (ab_gw_in w0)) (hts _ (ab_gw_in w1)) w5 w4 hr.2.2) ⟨cn_blind, fun U hU hW => ⟨rfl, by rw [hU], by rw [hU]; exact hPc, va_K.moved hW.alike hK, hDc, cn_X hX hS hFc hU hW, cn_E.at hk hW⟩⟩ rfl hn hl.1 rfl (lv_room hcat) hd hro⟩
theorem cj_astore {K : AbK} {kc ks : Nat} {cc : ByteArray} {own : String} {rm : Room} {ws : va_W} {pc : Nat} {lv : List (Nat × Value)} {st : List Value} {k : Fin 4} {i x : Nat} {lv' : List (Nat × Value)} (C : Cx K cc own rm) (hd : decode cc pc = .ok (.astore_n k, 1)) (hi : (k : Nat) = i) (hn : i < knL K) (hl2 : (i, Value.ref x) :: lv.filter (fun q => !(q.1 == i) && !(q.1 + 1 == i && q.2.category == 2)) = lv') (h : CJ K kc ks ws (pc + 1) lv' st) : CJ K kc ks ws pc lv (.ref x :: st) := by
  obtain ⟨p, l, e, R, s, m, args, below, meth, c, Q, D, cA, A, ads, nL⟩ := K
  obtain ⟨hx, hb, hml, hown, hts, hlk, hK, hA, hR, hX⟩ := C
  intro H locs ls hP hD hS hl
  exact lv_astore_n hx hb hd hi hl hn hl2 (fun ls' hl' => h H locs ls' hP hD hS hl')
abbrev SM45 : List AbS := [sO 9 [none, none, none, some 46, some 47, some 48, none, some 49, some 50, some 51, some 52, none, none, none, none, some 53, some 54, some 55, some 56, some 57, some 58, some 59, some 60, some 61, some 62, some 63], sA 0 10, sA 0 10, sA 0 10, sA 0 8, sA 0 648, sA 0 400, sA 0 80, sA 0 70000, sA 1 400, sA 0 70000, sA 1 400, sA 0 243, sA 0 6561, sA 1 81, sA 0 400, sA 0 4, sA 0 4, sA 0 360]
abbrev SL : List AbS := SW0 ++ SM45
theorem alSL : shAl SL 1 := ⟨rfl, rfl, rfl, rfl⟩
theorem llSL : shLL SL 12 := ⟨rfl, rfl, rfl⟩
theorem llSL2 : shLL SL 15 := ⟨rfl, rfl, rfl⟩
theorem wlSL : WL SL 0 1 5 7 8 10 12 15 18 25 32 36 37 39 41 43 45 := ⟨⟨rfl, alSL, ⟨rfl, rfl⟩, ⟨rfl, alSL⟩, ⟨rfl, rfl, alSL⟩, ⟨rfl, rfl, alSL⟩, llSL, llSL2, ⟨rfl, rfl, rfl, rfl, rfl, rfl, rfl, alSL, llSL⟩, ⟨rfl, rfl, rfl, rfl, rfl, rfl, rfl, alSL, llSL2⟩, ⟨rfl, rfl, rfl, rfl, alSL⟩, rfl, ⟨rfl, rfl⟩, ⟨rfl, rfl⟩, ⟨rfl, rfl⟩, ⟨rfl, rfl⟩⟩, by decide⟩
theorem moSL : shMo SL 45 := ⟨rfl, rfl, rfl, rfl, rfl, rfl, rfl, rfl, rfl, rfl, rfl, rfl, rfl, rfl, rfl, rfl, rfl, rfl, rfl⟩
def MJ (MC MM : AbM) : AbM := fun k j => if k < 45 then MC k j else MM (k - 45) j
theorem MJ_lo {MC MM : AbM} {k : Nat} (h : k < 45) : MJ MC MM k = MC k := by funext j; unfold MJ; rw [if_pos h]
theorem MJ_hi {MC MM : AbM} (k : Nat) : MJ MC MM (45 + k) = MM k := by funext j; unfold MJ; rw [if_neg (by omega), show 45 + k - 45 = k by omega]
theorem MJ_ok {MC MM : AbM} (h1 : ab_okM SW0 MC) (h2 : ab_okM SM0 MM) : ab_okM SL (MJ MC MM) := fun k sh hk j => by
  by_cases z : k < 45
  · rw [MJ_lo z]
    have hk2 : SW0[k]? = some sh := by rw [← hk]; exact (List.getElem?_append_left z).symm
    exact h1 k sh hk2 j
  · have hk2 : SM45[k - 45]? = some sh := by rw [← hk]; exact (List.getElem?_append_right (l₁ := SW0) (l₂ := SM45) (by show 45 ≤ k; omega)).symm
    have e : MJ MC MM k = MM (k - 45) := by
      have := MJ_hi (MC := MC) (MM := MM) (k - 45)
      rwa [show 45 + (k - 45) = k by omega] at this
    rw [e]
    have hlt : k - 45 < 19 := (List.getElem?_eq_some_iff.mp hk2).1
    generalize k - 45 = i at hk2 hlt
    rcases (show i = 0 ∨ i = 1 ∨ i = 2 ∨ i = 3 ∨ i = 4 ∨ i = 5 ∨ i = 6 ∨ i = 7 ∨ i = 8 ∨ i = 9 ∨ i = 10 ∨ i = 11 ∨ i = 12 ∨ i = 13 ∨ i = 14 ∨ i = 15 ∨ i = 16 ∨ i = 17 ∨ i = 18 by omega) with rfl | rfl | rfl | rfl | rfl | rfl | rfl | rfl | rfl | rfl | rfl | rfl | rfl | rfl | rfl | rfl | rfl | rfl | rfl
    · cases hk2; exact h2 0 _ rfl j
    · cases hk2; exact h2 1 _ rfl j
    · cases hk2; exact h2 2 _ rfl j
    · cases hk2; exact h2 3 _ rfl j
    · cases hk2; exact h2 4 _ rfl j
    · cases hk2; exact h2 5 _ rfl j
    · cases hk2; exact h2 6 _ rfl j
    · cases hk2; exact h2 7 _ rfl j
    · cases hk2; exact h2 8 _ rfl j
    · cases hk2; exact h2 9 _ rfl j
    · cases hk2; exact h2 10 _ rfl j
    · cases hk2; exact h2 11 _ rfl j
    · cases hk2; exact h2 12 _ rfl j
    · cases hk2; exact h2 13 _ rfl j
    · cases hk2; exact h2 14 _ rfl j
    · cases hk2; exact h2 15 _ rfl j
    · cases hk2; exact h2 16 _ rfl j
    · cases hk2; exact h2 17 _ rfl j
    · cases hk2; exact h2 18 _ rfl j
theorem MRel.shift {a : St} {M M2 : AbM} {m : Nat} (h : MRel a M 0) (e : ∀ k, M2 (m + k) = M k) : MRel a M2 m := by
  have e0 : M2 m = M 0 := e 0
  obtain ⟨hA, hL, hR, hS, hT, hH⟩ := h
  unfold MRel MoA MRd
  rw [e0, e 1, e 2, e 3, e 4, e 5, e 7, e 8, e 9, e 10, e 11, e 15, e 16, e 17, e 18]
  exact ⟨hA, hL, hR, hS, hT, hH⟩
theorem law_world {cA : Nat → ClassId} {f g : Nat → Nat} {b : Nat} {MC MM : AbM} : ([] ++ ab_w cA ((List.range 45).map f) SW0 MC) ++ ab_w cA ((List.range 19).map g) SM0 MM = ab_w cA ((List.range 45).map f ++ (List.range 19).map g ++ [b]) SL (MJ MC MM) := by
  rw [ab_w_eq, ab_w_eq, ab_w_eq]
  rfl
theorem arr_K {args : Array Value} {s : State} {ty : FieldType} (h : (Cond.arrayClass ty).before args s = true) : ∃ c : ClassId, ArrOfT s c ty ∧ s.vm.findClass ("[" ++ ty.toString) = some c := by
  obtain ⟨c, k, comp, h1, h2, h3⟩ := Cond.arrayClass_spec h
  exact ⟨c, fun n z => ⟨fun k h => (by cases h), k, h2, comp, h3⟩, h1⟩
theorem arr_Kq {args : Array Value} {s : State} {C : String} (h : (Cond.arrayOver (.object C)).before args s = true) : ∃ c : ClassId, ArrOfT s c (.object C) ∧ va_RA s c (.object C) := by
  obtain ⟨comp, c, k, h1, h2, h3, h4, h5⟩ := Cond.arrayOver_spec h
  exact ⟨c, fun n z => ⟨fun k h => (by cases h), k, h3, comp, h4⟩, k, comp, h3, h4, h1, h5⟩
theorem law_K {b : Nat} {s : State} (hts : ∀ w ∈ lw_tbl, w.before #[Value.ref b] s = true) : ∃ (D : va_G) (cA : Nat → ClassId), va_K D vwCl (ab_t cA) s := by
  obtain ⟨c0, i0, h0⟩ := u_known hts inX0 (hts (.instantiable RX0 9) (by decide +kernel))
  obtain ⟨c1, i1, h1⟩ := u_known hts inX1 (hts (.instantiable RX1 6) (by decide +kernel))
  obtain ⟨c2, i2, h2⟩ := u_known hts inX2 (hts (.instantiable RX2 6) (by decide +kernel))
  obtain ⟨c3, i3, h3⟩ := u_known hts inX3 (hts (.instantiable RX3 3) (by decide +kernel))
  obtain ⟨c4, i4, h4⟩ := u_known hts inX4 (hts (.instantiable RX4 7) (by decide +kernel))
  obtain ⟨c5, i5, h5⟩ := u_known hts inX5 (hts (.instantiable RX5 3) (by decide +kernel))
  obtain ⟨c6, i6, h6⟩ := u_known hts inX6 (hts (.instantiable RX6 2) (by decide +kernel))
  obtain ⟨c7, i7, h7⟩ := u_known hts inX7 (hts (.instantiable RX7 2) (by decide +kernel))
  obtain ⟨c8, i8, h8⟩ := u_known hts inX8 (hts (.instantiable RX8 12) (by decide +kernel))
  obtain ⟨c9, i9, h9⟩ := u_known hts inX9 (hts (.instantiable RX9 26) (by decide +kernel))
  obtain ⟨a0, p0, r0⟩ := arr_K (hts (.arrayClass .int) (by decide +kernel))
  obtain ⟨a1, p1, r1⟩ := arr_K (hts (.arrayClass .boolean) (by decide +kernel))
  obtain ⟨a2, p2, r2⟩ := arr_K (hts (.arrayClass .long) (by decide +kernel))
  obtain ⟨a3, p3, r3⟩ := arr_Kq (hts (.arrayOver (.object "WordLaws$Sheet")) (by decide +kernel))
  refine ⟨(fun k => [c0, c1, c2, c3, c4, c5, c6, c7, c8, c9].getD k c0, fun k => [i0, i1, i2, i3, i4, i5, i6, i7, i8, i9].getD k i0), fun k => [a0, a1, a2, a3].getD k a0, fun k q hk => ?_, fun k q hk => ?_⟩
  · have hlt : k < 10 := (List.getElem?_eq_some_iff.mp hk).1
    rcases (show k = 0 ∨ k = 1 ∨ k = 2 ∨ k = 3 ∨ k = 4 ∨ k = 5 ∨ k = 6 ∨ k = 7 ∨ k = 8 ∨ k = 9 by omega) with rfl | rfl | rfl | rfl | rfl | rfl | rfl | rfl | rfl | rfl
    · cases hk; exact h0
    · cases hk; exact h1
    · cases hk; exact h2
    · cases hk; exact h3
    · cases hk; exact h4
    · cases hk; exact h5
    · cases hk; exact h6
    · cases hk; exact h7
    · cases hk; exact h8
    · cases hk; exact h9
  · have hlt : k < 4 := (List.getElem?_eq_some_iff.mp hk).1
    rcases (show k = 0 ∨ k = 1 ∨ k = 2 ∨ k = 3 by omega) with rfl | rfl | rfl | rfl
    · cases hk; exact ⟨p0, r0⟩
    · cases hk; exact ⟨p1, r1⟩
    · cases hk; exact ⟨p2, r2⟩
    · cases hk; exact ⟨p3, r3⟩
theorem law_X {b : Nat} {s : State} (hts : ∀ w ∈ lw_tbl, w.before #[Value.ref b] s = true) (hgv : (Jvm.Cond.and given_1 narrow_1).before #[Value.ref b] s = true) : ab_X (fun q : Nat => s.heap.size ≤ q) s := by
  have hs := flat_of_before _ hgv
  have hA : ∀ a : Nat, a < s.heap.size → ¬ (fun q : Nat => s.heap.size ≤ q) a := fun a h z => Nat.not_le.mpr h z
  have e0 : ab_lbl 0 = 0 := by decide +kernel
  have e1 : ab_lbl 1 = 8 := by decide +kernel
  have e2 : ab_lbl 2 = 7 := by decide +kernel
  have e3 : ab_lbl 3 = 5 := by decide +kernel
  obtain ⟨t, ht, hT⟩ := va_Tof (args := #[Value.ref b]) (tm := .static "WordLaws" "LONGEST_BY_LETTERS" "[I") (ty := .int) (N := 4) (f := fun j => .int (ab_lbl j)) (A := fun q : Nat => s.heap.size ≤ q) (by decide) (hs (.arrayOf (.static "WordLaws" "LONGEST_BY_LETTERS" "[I") .int) (by decide +kernel)) (va_eqt (hs (.eq (.length (.static "WordLaws" "LONGEST_BY_LETTERS" "[I")) (.int 4)) (by decide +kernel))) (fun j hj => by
    rcases (show j = 0 ∨ j = 1 ∨ j = 2 ∨ j = 3 by omega) with rfl | rfl | rfl | rfl
    · rw [e0]; exact va_eqt (hs (.eq (.elem (.static "WordLaws" "LONGEST_BY_LETTERS" "[I") (.int 0)) (.int 0)) (by decide +kernel))
    · rw [e1]; exact va_eqt (hs (.eq (.elem (.static "WordLaws" "LONGEST_BY_LETTERS" "[I") (.int 1)) (.int 8)) (by decide +kernel))
    · rw [e2]; exact va_eqt (hs (.eq (.elem (.static "WordLaws" "LONGEST_BY_LETTERS" "[I") (.int 2)) (.int 7)) (by decide +kernel))
    · rw [e3]; exact va_eqt (hs (.eq (.elem (.static "WordLaws" "LONGEST_BY_LETTERS" "[I") (.int 3)) (.int 5)) (by decide +kernel))) hA
  exact ⟨va_Nw.of rfl (hts ab_nest (by decide +kernel)), t, va_Zof (hts (.laysStatic "WordLaws" "LONGEST_BY_LETTERS" "[I") (by decide +kernel)) (hts (.initialized "WordLaws") (by decide +kernel)) ht hA, hT⟩
theorem law_E {b : Nat} {s : State} (hts : ∀ w ∈ lw_tbl, w.before #[Value.ref b] s = true) : cn_E s := ⟨va_Nw.of rfl (hts (.methodLinkNest RX8 18 yX7_init RX8) (by decide +kernel)), va_Nw.of rfl (hts (.methodLinkNest RX8 44 yX3_init RX8) (by decide +kernel)), va_Nw.of rfl (hts (.methodLinkNest RX8 77 yX5_init RX8) (by decide +kernel)), va_AO.of (hts (.arrayOver (.object "WordLaws$Sheet")) (by decide +kernel))⟩
set_option maxRecDepth 100000 in
set_option maxHeartbeats 8000000 in
theorem whole_start {p : Program} {e : Env} {s : State} {m : MethodId} {below : List Frame} {meth : Method} {c : Code} (l : Launch) {b L : Nat} {xs : Nat → Int32} (hL : L ≤ 3072) (C0 : lw_At p s m meth c b L xs) : W p l e room_1 s m #[Value.ref b] below meth c s.heap [] 0 0 (lw_Z below #[Value.ref b] s) (entryFrame m ([Value.ref b] : List Value).toArray 4) := by
  obtain ⟨hx, hb, hr, hml, hown, hts, hXs, hbl, hlocks, hgv⟩ := C0
  obtain ⟨D, cA, hK⟩ := law_K hts
  have hX := law_X hts hgv
  have hE := law_E hts
  have hl := lv_entry [Value.ref b] (n := 4) (Nat.le_of_ble_eq_true rfl)
  rw [lg_entry_eq]
  obtain ⟨K, hKe⟩ : ∃ K : AbK, K = (p, l, e, room_1, s, m, #[Value.ref b], below, meth, c, lw_Z below #[Value.ref b] s, D, cA, (fun q : Nat => s.heap.size ≤ q), ([] : List Nat), 4) := ⟨_, rfl⟩
  have C : Cx K code RL room_1 := by
    rw [hKe]
    exact ⟨hx, hb, hml, hown, fun w hw => hts w (List.mem_filter.mp hw).1, hlocks, hK, fun q h => h, rfl, hX⟩
  have hkM : kM K := by rw [hKe]; exact hE
  have hnL : knL K = 4 := by rw [hKe]
  suffices H : CJ K 0 0 [] 0 [(0, .ref b)] [] by
    rw [hKe] at H
    exact H s.heap [] _ (fun k q hk => by cases hk) ⟨fun i j p q hp => (by cases hp), fun k q hk => by cases hk⟩ va_S.rf hl
  refine cj_new (ci := 8) (T := TX8) (N := 12) (fs := [.null, .null, .null, .null, .null, .null, .null, .null, .null, .null, .null, .int 0]) C (ab_inws inX8 goX8) rfl tyX8_ok ⟨by decide +kernel, by decide +kernel⟩ ⟨by decide +kernel, by decide +kernel⟩ ⟨by decide +kernel, by decide +kernel⟩ (fun j hj => by rcases (show j = 0 ∨ j = 1 ∨ j = 2 ∨ j = 3 ∨ j = 4 ∨ j = 5 ∨ j = 6 ∨ j = 7 ∨ j = 8 ∨ j = 9 ∨ j = 10 ∨ j = 11 by omega) with rfl | rfl | rfl | rfl | rfl | rfl | rfl | rfl | rfl | rfl | rfl | rfl <;> rfl) (by decide) (by decide) dL_law_0 (fun a => ?_)
  refine cj_dup C dL_law_3 rfl ?_
  refine cj_ctorL (as := []) C hkM k_X8 ⟨by decide +kernel, by decide +kernel⟩ (show cn_w yX8_init cX8_init 2 0 from ⟨⟨by decide +kernel, by decide +kernel⟩, ⟨by decide +kernel, by decide +kernel⟩, ⟨by decide +kernel, by decide +kernel⟩, ⟨by decide +kernel, by decide +kernel, by decide +kernel⟩, rfl⟩) (by decide) rfl rfl (Nat.le_of_ble_eq_true rfl) (by decide) dL_law_4 (fun w1 hw1 => ?_)
  obtain ⟨f, MC, hf0, hw1, hOC, hCC⟩ := hw1
  refine cj_astore C dL_law_7 rfl (by rw [hnL]; decide) (lv' := [(1, .ref a), (0, .ref b)]) rfl ?_
  refine cj_new (ci := 9) (T := TX9) (N := 26) (fs := [.int 0, .int 0, .int 0, .null, .null, .null, .int 0, .null, .null, .null, .null, .int 0, .int 0, .int 0, .int 0, .null, .null, .null, .null, .null, .null, .null, .null, .null, .null, .null]) C (ab_inws inX9 goX9) rfl tyX9_ok ⟨by decide +kernel, by decide +kernel⟩ ⟨by decide +kernel, by decide +kernel⟩ ⟨by decide +kernel, by decide +kernel⟩ (fun j hj => by rcases (show j = 0 ∨ j = 1 ∨ j = 2 ∨ j = 3 ∨ j = 4 ∨ j = 5 ∨ j = 6 ∨ j = 7 ∨ j = 8 ∨ j = 9 ∨ j = 10 ∨ j = 11 ∨ j = 12 ∨ j = 13 ∨ j = 14 ∨ j = 15 ∨ j = 16 ∨ j = 17 ∨ j = 18 ∨ j = 19 ∨ j = 20 ∨ j = 21 ∨ j = 22 ∨ j = 23 ∨ j = 24 ∨ j = 25 by omega) with rfl | rfl | rfl | rfl | rfl | rfl | rfl | rfl | rfl | rfl | rfl | rfl | rfl | rfl | rfl | rfl | rfl | rfl | rfl | rfl | rfl | rfl | rfl | rfl | rfl | rfl <;> rfl) (by decide) (by decide) dL_law_8 (fun a2 => ?_)
  refine cj_dup C dL_law_11 rfl ?_
  refine cj_ctorL (as := []) C hkM k_X9 ⟨by decide +kernel, by decide +kernel⟩ (show cn_w yX9_init cX9_init 2 0 from ⟨⟨by decide +kernel, by decide +kernel⟩, ⟨by decide +kernel, by decide +kernel⟩, ⟨by decide +kernel, by decide +kernel⟩, ⟨by decide +kernel, by decide +kernel, by decide +kernel⟩, rfl⟩) (by decide) rfl rfl (Nat.le_of_ble_eq_true rfl) (by decide) dL_law_12 (fun w2 hw2 => ?_)
  obtain ⟨g, MM, hg0, hw2, hOM, hMM⟩ := hw2
  refine cj_astore C dL_law_15 rfl (by rw [hnL]; decide) (lv' := [(2, .ref a2), (1, .ref a), (0, .ref b)]) rfl ?_
  subst hf0
  subst hg0
  have hlv : ∀ (i : Nat) (v : AbV), ([vP 64, vP 0, vP 45, vU] : List AbV)[i]? = some v → v ≠ vU → (i, ab_v ((List.range 45).map f ++ (List.range 19).map g ++ [b]) v) ∈ [(2, Value.ref (g 0)), (1, .ref (f 0)), (0, .ref b)] := fun i v hv hu => by
    match i, hv with
    | 0, hv => cases hv; exact List.mem_cons_of_mem _ (List.mem_cons_of_mem _ List.mem_cons_self)
    | 1, hv => cases hv; exact List.mem_cons_of_mem _ List.mem_cons_self
    | 2, hv => cases hv; exact List.mem_cons_self
    | 3, hv => cases hv; exact absurd rfl hu
  refine cj_to ((List.range 45).map f ++ (List.range 19).map g ++ [b]) (S := SL) (M := MJ MC MM) (lvA := [vP 64, vP 0, vP 45, vU]) (stA := []) (by rw [hw1, hw2]; exact law_world) (MJ_ok hOC hOM) (by rw [hnL]; rfl) hlv (fun v hv => by
    simp only [List.mem_cons, List.not_mem_nil, or_false] at hv
    rcases hv with rfl | rfl | rfl | rfl <;> trivial) rfl (fun v hv => by cases hv) ?_
  have C2 := setA_Cx (ads := (List.range 45).map f ++ (List.range 19).map g ++ [b]) C
  refine ac_iconst C2 dL_law_16 (by decide) ?_
  refine ac_istore3 (lv := []) C2 rfl dL_law_17 ?_
  refine law_loop C2 (xs := xs) (L := L) ?_ (by decide) wlSL moSL hL ?_ (by decide) (by decide) (0, MJ MC MM) ⟨⟨Int.le_refl 0, by show (0 : Int) ≤ (L : Int); omega⟩, aI, CRel.hi hCC wlSL (fun q hq => MJ_lo hq), MRel.shift hMM MJ_hi⟩
  · rw [hKe]
    exact ⟨hXs, hbl, fun z => Nat.not_le.mpr hbl z⟩
  · rw [hKe]
    exact ⟨rfl, ⟨b, rfl⟩, rfl, hr, hlocks, hb, fun q h => h⟩
