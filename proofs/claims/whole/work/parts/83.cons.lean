/-! ===== the alphabet, the reference: made ===== -/
def ab_fl (ads : List Nat) (r : Int → Int) : Nat → List (Option Nat) → List Value
  | _, [] => []
  | k, x :: t => ab_f ads (r (k : Int)) x :: ab_fl ads r (k + 1) t
theorem ab_fl_eq {ads : List Nat} {r : Int → Int} : ∀ (S : List (Option Nat)) (k : Nat), S.mapIdx (fun i x => ab_f ads (r ((i + k : Nat) : Int)) x) = ab_fl ads r k S
  | [], _ => rfl
  | x :: t, k => by
    rw [List.mapIdx_cons]
    have := ab_fl_eq (ads := ads) (r := r) t (k + 1)
    show ab_f ads (r ((0 + k : Nat) : Int)) x :: _ = ab_f ads (r (k : Int)) x :: ab_fl ads r (k + 1) t
    rw [← this, Nat.zero_add]
    congr 1
    congr 1
    funext i x
    rw [show i + 1 + k = i + (k + 1) by omega]
def ab_el (cA : Nat → ClassId) (ads : List Nat) (r : Int → Int) : AbS → va_E
  | Sum.inl o => .inr (o.1, ab_fl ads r 0 o.2)
  | Sum.inr (Sum.inl a) => if a.1 = 2 then .inl (cA a.1, a.2, .inr (.inl (fun j => Int64.ofInt (r (j : Int))))) else .inl (cA a.1, a.2, .inl (fun j => Int32.ofInt (r (j : Int))))
  | Sum.inr (Sum.inr ps) => .inl (cA 3, ps.length, .inr (.inr (.inr (.inr (fun j => (ps.map (fun q => ads.getD q 0))[j]?)))))
theorem ab_el_eq {cA : Nat → ClassId} {ads : List Nat} {r : Int → Int} (sh : AbS) : ab_e cA ads r sh = ab_el cA ads r sh := by
  rcases sh with o | a | ps
  · show Sum.inr (o.1, o.2.mapIdx (fun j x => ab_f ads (r (j : Int)) x)) = Sum.inr (o.1, ab_fl ads r 0 o.2)
    rw [← ab_fl_eq o.2 0]
    rfl
  · rfl
  · show Sum.inl (cA 3, ps.length, Sum.inr (Sum.inr (Sum.inr (Sum.inr (fun j : Nat => (ps[j]?).map (fun q => ads.getD q 0)))))) = Sum.inl (cA 3, ps.length, Sum.inr (Sum.inr (Sum.inr (Sum.inr (fun j : Nat => (ps.map (fun q => ads.getD q 0))[j]?)))))
    have e : (fun j : Nat => (ps[j]?).map (fun q => ads.getD q 0)) = fun j : Nat => (ps.map (fun q => ads.getD q 0))[j]? := by
      funext j
      rw [List.getElem?_map]
    rw [e]
def ab_wl (cA : Nat → ClassId) (ads : List Nat) (M : AbM) : Nat → List AbS → va_W
  | _, [] => []
  | k, sh :: t => (ads.getD k 0, ab_el cA ads (M k) sh) :: ab_wl cA ads M (k + 1) t
theorem ab_wl_eq {cA : Nat → ClassId} {ads : List Nat} {M : AbM} : ∀ (S : List AbS) (k : Nat), S.mapIdx (fun i sh => (ads.getD (i + k) 0, ab_e cA ads (M (i + k)) sh)) = ab_wl cA ads M k S
  | [], _ => rfl
  | sh :: t, k => by
    rw [List.mapIdx_cons]
    have := ab_wl_eq (cA := cA) (ads := ads) (M := M) t (k + 1)
    show (ads.getD (0 + k) 0, ab_e cA ads (M (0 + k)) sh) :: _ = (ads.getD k 0, ab_el cA ads (M k) sh) :: ab_wl cA ads M (k + 1) t
    rw [← this, Nat.zero_add, ab_el_eq]
    congr 1
    congr 1
    funext i x
    rw [show i + 1 + k = i + (k + 1) by omega]
theorem ab_w_eq {cA : Nat → ClassId} {ads : List Nat} {S : List AbS} {M : AbM} : ab_w cA ads S M = ab_wl cA ads M 0 S := ab_wl_eq S 0
theorem z32 : (0 : Int32) = Int32.ofInt 0 := by decide +kernel
theorem Pr7 : Pr 7 := ⟨by decide, by decide, fun i a b => by
  rcases (show i = 2 ∨ i = 3 ∨ i = 4 ∨ i = 5 ∨ i = 6 by omega) with rfl | rfl | rfl | rfl | rfl <;> decide⟩
abbrev SAl : List AbS := [sO 1 [some 1, some 2, some 3, none, none, none], sA 0 9, sA 0 9, sA 0 9]
theorem okM_0 {S : List AbS} {M : AbM} (h : ∀ k j, -1 ≤ M k j ∧ M k j ≤ 100) : ab_okM S M := fun k sh _ j => by
  have := h k j
  rcases sh with o | a | ps
  · exact ⟨by omega, by omega⟩
  · show if a.1 = 2 then inL (M k j) else inI (M k j)
    split
    · exact ⟨by omega, by omega⟩
    · exact ⟨by omega, by omega⟩
  · exact ⟨by omega, by omega⟩
abbrev rc1 : Room := { frames := 1, cells := 3, slots := 27, locals := 26 }
set_option maxRecDepth 100000 in
set_option maxHeartbeats 4000000 in
theorem k_X1 {D : va_G} {cA : Nat → ClassId} : Ctor yX1_init cX1_init 1 rc1 D cA 3 27 1 [.null, .null, .null, .int 0, .int 0, .int 0] [] (fun (h0 : Nat) (w1 : va_W) => ∃ (q1 q2 q3 : Nat) (M : AbM), w1 = ab_w cA [h0, q1, q2, q3] SAl M ∧ ab_okM SAl M ∧ Al M 0 2 7) := by
  refine cj_intro (lv := fun h0 => [(0, .ref h0)]) (by decide +kernel) rfl (fun _ => rfl) (fun _ => Nat.le_of_ble_eq_true rfl) ?_
  intro h0 K hKD hKA hnL C hk r
  have C : Cx K cX1_init RX1 rc1 := C
  subst hKD
  subst hKA
  refine cj_aload 0 C dX1_init_0 rfl rfl ?_
  refine cj_obj C ⟨by decide +kernel, by decide +kernel⟩ gwOI gwOC dX1_init_1 (by decide) (by decide) ?_
  refine cj_aload 0 C dX1_init_4 rfl rfl ?_
  refine cj_bipush C dX1_init_5 (by decide +kernel) ?_
  refine cj_newa (n := 9) (N := 9) (ti := 0) (a0 := (9, .inl (fun _ => 0))) C gwAI rfl (fun _ => rfl) (fun _ _ z => z) (fun _ => rfl) (by decide +kernel) (by decide +kernel) (by decide) (by decide) (by decide) dX1_init_7 (fun q1 => ?_)
  show CJ K 1 9 [(h0, .inr (1, [.null, .null, .null, .int 0, .int 0, .int 0])), (q1, .inl (kcA K 0, 9, .inl (fun _ => 0)))] 9 [(0, .ref h0)] [.ref q1, .ref h0]
  refine cj_putF (ci := 1) (T := TX1) (N := 6) (j := 0) (ty := .array .int) 0 C hk (ab_inws inX1 goX1) rfl (by decide) ⟨by decide +kernel, by decide +kernel⟩ tyX1_ok nmX1 rfl rfl (by decide +kernel) rfl rfl rfl (Nat.le_of_ble_eq_true rfl) dX1_init_9 ?_
  show CJ K 1 9 [(h0, .inr (1, [.ref q1, .null, .null, .int 0, .int 0, .int 0])), (q1, .inl (kcA K 0, 9, .inl (fun _ => 0)))] 12 [(0, .ref h0)] []
  refine cj_aload 0 C dX1_init_12 rfl rfl ?_
  refine cj_bipush C dX1_init_13 (by decide +kernel) ?_
  refine cj_newa (n := 9) (N := 9) (ti := 0) (a0 := (9, .inl (fun _ => 0))) C gwAI rfl (fun _ => rfl) (fun _ _ z => z) (fun _ => rfl) (by decide +kernel) (by decide +kernel) (by decide) (by decide) (by decide) dX1_init_15 (fun q2 => ?_)
  show CJ K 2 18 [(h0, .inr (1, [.ref q1, .null, .null, .int 0, .int 0, .int 0])), (q1, .inl (kcA K 0, 9, .inl (fun _ => 0))), (q2, .inl (kcA K 0, 9, .inl (fun _ => 0)))] 17 [(0, .ref h0)] [.ref q2, .ref h0]
  refine cj_putF (ci := 1) (T := TX1) (N := 6) (j := 1) (ty := .array .int) 0 C hk (ab_inws inX1 goX1) rfl (by decide) ⟨by decide +kernel, by decide +kernel⟩ tyX1_ok nmX1 rfl rfl (by decide +kernel) rfl rfl rfl (Nat.le_of_ble_eq_true rfl) dX1_init_17 ?_
  show CJ K 2 18 [(h0, .inr (1, [.ref q1, .ref q2, .null, .int 0, .int 0, .int 0])), (q1, .inl (kcA K 0, 9, .inl (fun _ => 0))), (q2, .inl (kcA K 0, 9, .inl (fun _ => 0)))] 20 [(0, .ref h0)] []
  refine cj_aload 0 C dX1_init_20 rfl rfl ?_
  refine cj_bipush C dX1_init_21 (by decide +kernel) ?_
  refine cj_newa (n := 9) (N := 9) (ti := 0) (a0 := (9, .inl (fun _ => 0))) C gwAI rfl (fun _ => rfl) (fun _ _ z => z) (fun _ => rfl) (by decide +kernel) (by decide +kernel) (by decide) (by decide) (by decide) dX1_init_23 (fun q3 => ?_)
  show CJ K 3 27 [(h0, .inr (1, [.ref q1, .ref q2, .null, .int 0, .int 0, .int 0])), (q1, .inl (kcA K 0, 9, .inl (fun _ => 0))), (q2, .inl (kcA K 0, 9, .inl (fun _ => 0))), (q3, .inl (kcA K 0, 9, .inl (fun _ => 0)))] 25 [(0, .ref h0)] [.ref q3, .ref h0]
  refine cj_putF (ci := 1) (T := TX1) (N := 6) (j := 2) (ty := .array .int) 0 C hk (ab_inws inX1 goX1) rfl (by decide) ⟨by decide +kernel, by decide +kernel⟩ tyX1_ok nmX1 rfl rfl (by decide +kernel) rfl rfl rfl (Nat.le_of_ble_eq_true rfl) dX1_init_25 ?_
  show CJ K 3 27 [(h0, .inr (1, [.ref q1, .ref q2, .ref q3, .int 0, .int 0, .int 0])), (q1, .inl (kcA K 0, 9, .inl (fun _ => 0))), (q2, .inl (kcA K 0, 9, .inl (fun _ => 0))), (q3, .inl (kcA K 0, 9, .inl (fun _ => 0)))] 28 [(0, .ref h0)] []
  refine cj_to [h0, q1, q2, q3] (S := SAl) (M := fun _ _ => 0) (lvA := [vP 0]) (stA := []) (by rw [ab_w_eq, z32]; rfl) (okM_0 (fun _ _ => ⟨by decide, by decide⟩)) (by rw [hnL]; rfl) (fun i v hv _ => by
    match i, hv with
    | 0, hv => cases hv; exact List.mem_cons_self) (fun v hv => by
    simp only [List.mem_cons, List.not_mem_nil, or_false] at hv
    subst hv; trivial) rfl (fun v hv => by cases hv) ?_
  have C2 := setA_Cx (ads := [h0, q1, q2, q3]) C
  refine ac_aload_n C2 dX1_init_28 rfl rfl ?_
  refine ac_iconst C2 dX1_init_29 (by decide) ?_
  refine ac_bipush C2 dX1_init_30 (by decide) (by decide +kernel) ?_
  refine ac_callV C2 cl_RX1_21 (m_X1_choose (a := 0) ⟨rfl, rfl, rfl, rfl⟩ (by decide) (by decide) Pr7) (by decide) rfl (show SAl[0]? = _ from rfl) rfl rfl (Nat.le_of_ble_eq_true rfl) (by decide) dX1_init_32 (ac_kV (fun M2 h2 => ?_))
  exact ac_cret C r (Nat.le_refl _) (Nat.le_refl _) (fun hO => ⟨q1, q2, q3, M2, rfl, hO, h2.1⟩) dX1_init_35
abbrev SM0 : List AbS := [sO 9 [none, none, none, some 1, some 2, some 3, none, some 4, some 5, some 6, some 7, none, none, none, none, some 8, some 9, some 10, some 11, some 12, some 13, some 14, some 15, some 16, some 17, some 18], sA 0 10, sA 0 10, sA 0 10, sA 0 8, sA 0 648, sA 0 400, sA 0 80, sA 0 70000, sA 1 400, sA 0 70000, sA 1 400, sA 0 243, sA 0 6561, sA 1 81, sA 0 400, sA 0 4, sA 0 4, sA 0 360]
abbrev aI : St := (2, 7, 0, (fun _ => 0), (fun _ => 0), (fun _ => 0), 0, (fun _ => 0), (fun _ => -1), (fun _ => 0), (fun _ => 0))
def M9i : AbM := (fun k j => if k = 0 then (if j = 0 then 2 else if j = 1 then 7 else if j = 2 then 7 else 0) else 0)
theorem sh9 : shMo SM0 0 := ⟨rfl, rfl, rfl, rfl, rfl, rfl, rfl, rfl, rfl, rfl, rfl, rfl, rfl, rfl, rfl, rfl, rfl, rfl, rfl⟩
abbrev rc9 : Room := { frames := 1, cells := 18, slots := 149619, locals := 21 }
set_option maxRecDepth 100000 in
set_option maxHeartbeats 4000000 in
theorem k_X9 {D : va_G} {cA : Nat → ClassId} : Ctor yX9_init cX9_init 2 rc9 D cA 18 149619 9 [.int 0, .int 0, .int 0, .null, .null, .null, .int 0, .null, .null, .null, .null, .int 0, .int 0, .int 0, .int 0, .null, .null, .null, .null, .null, .null, .null, .null, .null, .null, .null] [] (fun (h0 : Nat) (w1 : va_W) => ∃ (f : Nat → Nat) (M : AbM), f 0 = h0 ∧ w1 = ab_w cA ((List.range 19).map f) SM0 M ∧ ab_okM SM0 M ∧ MRel aI M 0) := by
  refine cj_intro (lv := fun h0 => [(0, .ref h0)]) (by decide +kernel) rfl (fun _ => rfl) (fun _ => Nat.le_of_ble_eq_true rfl) ?_
  intro h0 K hKD hKA hnL C hk r
  have C : Cx K cX9_init RX9 rc9 := C
  subst hKD
  subst hKA
  refine cj_aload 0 C dX9_init_0 rfl rfl ?_
  refine cj_obj C ⟨by decide +kernel, by decide +kernel⟩ gwOI gwOC dX9_init_1 (by decide) (by decide) ?_
  refine cj_aload 0 C dX9_init_4 rfl rfl ?_
  refine cj_iconst C dX9_init_5 ?_
  refine cj_put (ci := 9) (T := TX9) (N := 26) (j := 0) (ty := .int) 0 C (ab_inws inX9 goX9) rfl (by decide) ⟨by decide +kernel, by decide +kernel⟩ tyX9_ok nmX9 rfl (by decide +kernel) rfl rfl rfl (Nat.le_of_ble_eq_true rfl) dX9_init_6 ?_
  show CJ K 0 0 [(h0, .inr (9, [.int (Int32.ofInt (2)), .int 0, .int 0, .null, .null, .null, .int 0, .null, .null, .null, .null, .int 0, .int 0, .int 0, .int 0, .null, .null, .null, .null, .null, .null, .null, .null, .null, .null, .null]))] 9 [(0, .ref h0)] []
  refine cj_aload 0 C dX9_init_9 rfl rfl ?_
  refine cj_bipush C dX9_init_10 (by decide +kernel) ?_
  refine cj_put (ci := 9) (T := TX9) (N := 26) (j := 1) (ty := .int) 0 C (ab_inws inX9 goX9) rfl (by decide) ⟨by decide +kernel, by decide +kernel⟩ tyX9_ok nmX9 rfl (by decide +kernel) rfl rfl rfl (Nat.le_of_ble_eq_true rfl) dX9_init_12 ?_
  show CJ K 0 0 [(h0, .inr (9, [.int (Int32.ofInt (2)), .int (Int32.ofInt (7)), .int 0, .null, .null, .null, .int 0, .null, .null, .null, .null, .int 0, .int 0, .int 0, .int 0, .null, .null, .null, .null, .null, .null, .null, .null, .null, .null, .null]))] 15 [(0, .ref h0)] []
  refine cj_aload 0 C dX9_init_15 rfl rfl ?_
  refine cj_bipush C dX9_init_16 (by decide +kernel) ?_
  refine cj_put (ci := 9) (T := TX9) (N := 26) (j := 2) (ty := .int) 0 C (ab_inws inX9 goX9) rfl (by decide) ⟨by decide +kernel, by decide +kernel⟩ tyX9_ok nmX9 rfl (by decide +kernel) rfl rfl rfl (Nat.le_of_ble_eq_true rfl) dX9_init_18 ?_
  show CJ K 0 0 [(h0, .inr (9, [.int (Int32.ofInt (2)), .int (Int32.ofInt (7)), .int (Int32.ofInt (7)), .null, .null, .null, .int 0, .null, .null, .null, .null, .int 0, .int 0, .int 0, .int 0, .null, .null, .null, .null, .null, .null, .null, .null, .null, .null, .null]))] 21 [(0, .ref h0)] []
  refine cj_aload 0 C dX9_init_21 rfl rfl ?_
  refine cj_bipush C dX9_init_22 (by decide +kernel) ?_
  refine cj_newa (n := 10) (N := 10) (ti := 0) (a0 := (10, .inl (fun _ => 0))) C gwAI rfl (fun _ => rfl) (fun _ _ z => z) (fun _ => rfl) (by decide +kernel) (by decide +kernel) (by decide) (by decide) (by decide) dX9_init_24 (fun q1 => ?_)
  show CJ K 1 10 [(h0, .inr (9, [.int (Int32.ofInt (2)), .int (Int32.ofInt (7)), .int (Int32.ofInt (7)), .null, .null, .null, .int 0, .null, .null, .null, .null, .int 0, .int 0, .int 0, .int 0, .null, .null, .null, .null, .null, .null, .null, .null, .null, .null, .null])), (q1, .inl (kcA K 0, 10, .inl (fun _ => 0)))] 26 [(0, .ref h0)] [.ref q1, .ref h0]
  refine cj_putF (ci := 9) (T := TX9) (N := 26) (j := 3) (ty := .array .int) 0 C hk (ab_inws inX9 goX9) rfl (by decide) ⟨by decide +kernel, by decide +kernel⟩ tyX9_ok nmX9 rfl rfl (by decide +kernel) rfl rfl rfl (Nat.le_of_ble_eq_true rfl) dX9_init_26 ?_
  show CJ K 1 10 [(h0, .inr (9, [.int (Int32.ofInt (2)), .int (Int32.ofInt (7)), .int (Int32.ofInt (7)), .ref q1, .null, .null, .int 0, .null, .null, .null, .null, .int 0, .int 0, .int 0, .int 0, .null, .null, .null, .null, .null, .null, .null, .null, .null, .null, .null])), (q1, .inl (kcA K 0, 10, .inl (fun _ => 0)))] 29 [(0, .ref h0)] []
  refine cj_aload 0 C dX9_init_29 rfl rfl ?_
  refine cj_bipush C dX9_init_30 (by decide +kernel) ?_
  refine cj_newa (n := 10) (N := 10) (ti := 0) (a0 := (10, .inl (fun _ => 0))) C gwAI rfl (fun _ => rfl) (fun _ _ z => z) (fun _ => rfl) (by decide +kernel) (by decide +kernel) (by decide) (by decide) (by decide) dX9_init_32 (fun q2 => ?_)
  show CJ K 2 20 [(h0, .inr (9, [.int (Int32.ofInt (2)), .int (Int32.ofInt (7)), .int (Int32.ofInt (7)), .ref q1, .null, .null, .int 0, .null, .null, .null, .null, .int 0, .int 0, .int 0, .int 0, .null, .null, .null, .null, .null, .null, .null, .null, .null, .null, .null])), (q1, .inl (kcA K 0, 10, .inl (fun _ => 0))), (q2, .inl (kcA K 0, 10, .inl (fun _ => 0)))] 34 [(0, .ref h0)] [.ref q2, .ref h0]
  refine cj_putF (ci := 9) (T := TX9) (N := 26) (j := 4) (ty := .array .int) 0 C hk (ab_inws inX9 goX9) rfl (by decide) ⟨by decide +kernel, by decide +kernel⟩ tyX9_ok nmX9 rfl rfl (by decide +kernel) rfl rfl rfl (Nat.le_of_ble_eq_true rfl) dX9_init_34 ?_
  show CJ K 2 20 [(h0, .inr (9, [.int (Int32.ofInt (2)), .int (Int32.ofInt (7)), .int (Int32.ofInt (7)), .ref q1, .ref q2, .null, .int 0, .null, .null, .null, .null, .int 0, .int 0, .int 0, .int 0, .null, .null, .null, .null, .null, .null, .null, .null, .null, .null, .null])), (q1, .inl (kcA K 0, 10, .inl (fun _ => 0))), (q2, .inl (kcA K 0, 10, .inl (fun _ => 0)))] 37 [(0, .ref h0)] []
  refine cj_aload 0 C dX9_init_37 rfl rfl ?_
  refine cj_bipush C dX9_init_38 (by decide +kernel) ?_
  refine cj_newa (n := 10) (N := 10) (ti := 0) (a0 := (10, .inl (fun _ => 0))) C gwAI rfl (fun _ => rfl) (fun _ _ z => z) (fun _ => rfl) (by decide +kernel) (by decide +kernel) (by decide) (by decide) (by decide) dX9_init_40 (fun q3 => ?_)
  show CJ K 3 30 [(h0, .inr (9, [.int (Int32.ofInt (2)), .int (Int32.ofInt (7)), .int (Int32.ofInt (7)), .ref q1, .ref q2, .null, .int 0, .null, .null, .null, .null, .int 0, .int 0, .int 0, .int 0, .null, .null, .null, .null, .null, .null, .null, .null, .null, .null, .null])), (q1, .inl (kcA K 0, 10, .inl (fun _ => 0))), (q2, .inl (kcA K 0, 10, .inl (fun _ => 0))), (q3, .inl (kcA K 0, 10, .inl (fun _ => 0)))] 42 [(0, .ref h0)] [.ref q3, .ref h0]
  refine cj_putF (ci := 9) (T := TX9) (N := 26) (j := 5) (ty := .array .int) 0 C hk (ab_inws inX9 goX9) rfl (by decide) ⟨by decide +kernel, by decide +kernel⟩ tyX9_ok nmX9 rfl rfl (by decide +kernel) rfl rfl rfl (Nat.le_of_ble_eq_true rfl) dX9_init_42 ?_
  show CJ K 3 30 [(h0, .inr (9, [.int (Int32.ofInt (2)), .int (Int32.ofInt (7)), .int (Int32.ofInt (7)), .ref q1, .ref q2, .ref q3, .int 0, .null, .null, .null, .null, .int 0, .int 0, .int 0, .int 0, .null, .null, .null, .null, .null, .null, .null, .null, .null, .null, .null])), (q1, .inl (kcA K 0, 10, .inl (fun _ => 0))), (q2, .inl (kcA K 0, 10, .inl (fun _ => 0))), (q3, .inl (kcA K 0, 10, .inl (fun _ => 0)))] 45 [(0, .ref h0)] []
  refine cj_aload 0 C dX9_init_45 rfl rfl ?_
  refine cj_bipush C dX9_init_46 (by decide +kernel) ?_
  refine cj_newa (n := 8) (N := 8) (ti := 0) (a0 := (8, .inl (fun _ => 0))) C gwAI rfl (fun _ => rfl) (fun _ _ z => z) (fun _ => rfl) (by decide +kernel) (by decide +kernel) (by decide) (by decide) (by decide) dX9_init_48 (fun q4 => ?_)
  show CJ K 4 38 [(h0, .inr (9, [.int (Int32.ofInt (2)), .int (Int32.ofInt (7)), .int (Int32.ofInt (7)), .ref q1, .ref q2, .ref q3, .int 0, .null, .null, .null, .null, .int 0, .int 0, .int 0, .int 0, .null, .null, .null, .null, .null, .null, .null, .null, .null, .null, .null])), (q1, .inl (kcA K 0, 10, .inl (fun _ => 0))), (q2, .inl (kcA K 0, 10, .inl (fun _ => 0))), (q3, .inl (kcA K 0, 10, .inl (fun _ => 0))), (q4, .inl (kcA K 0, 8, .inl (fun _ => 0)))] 50 [(0, .ref h0)] [.ref q4, .ref h0]
  refine cj_putF (ci := 9) (T := TX9) (N := 26) (j := 7) (ty := .array .int) 0 C hk (ab_inws inX9 goX9) rfl (by decide) ⟨by decide +kernel, by decide +kernel⟩ tyX9_ok nmX9 rfl rfl (by decide +kernel) rfl rfl rfl (Nat.le_of_ble_eq_true rfl) dX9_init_50 ?_
  show CJ K 4 38 [(h0, .inr (9, [.int (Int32.ofInt (2)), .int (Int32.ofInt (7)), .int (Int32.ofInt (7)), .ref q1, .ref q2, .ref q3, .int 0, .ref q4, .null, .null, .null, .int 0, .int 0, .int 0, .int 0, .null, .null, .null, .null, .null, .null, .null, .null, .null, .null, .null])), (q1, .inl (kcA K 0, 10, .inl (fun _ => 0))), (q2, .inl (kcA K 0, 10, .inl (fun _ => 0))), (q3, .inl (kcA K 0, 10, .inl (fun _ => 0))), (q4, .inl (kcA K 0, 8, .inl (fun _ => 0)))] 53 [(0, .ref h0)] []
  refine cj_aload 0 C dX9_init_53 rfl rfl ?_
  refine cj_sipush C dX9_init_54 (by decide +kernel) ?_
  refine cj_newa (n := 648) (N := 648) (ti := 0) (a0 := (648, .inl (fun _ => 0))) C gwAI rfl (fun _ => rfl) (fun _ _ z => z) (fun _ => rfl) (by decide +kernel) (by decide +kernel) (by decide) (by decide) (by decide) dX9_init_57 (fun q5 => ?_)
  show CJ K 5 686 [(h0, .inr (9, [.int (Int32.ofInt (2)), .int (Int32.ofInt (7)), .int (Int32.ofInt (7)), .ref q1, .ref q2, .ref q3, .int 0, .ref q4, .null, .null, .null, .int 0, .int 0, .int 0, .int 0, .null, .null, .null, .null, .null, .null, .null, .null, .null, .null, .null])), (q1, .inl (kcA K 0, 10, .inl (fun _ => 0))), (q2, .inl (kcA K 0, 10, .inl (fun _ => 0))), (q3, .inl (kcA K 0, 10, .inl (fun _ => 0))), (q4, .inl (kcA K 0, 8, .inl (fun _ => 0))), (q5, .inl (kcA K 0, 648, .inl (fun _ => 0)))] 59 [(0, .ref h0)] [.ref q5, .ref h0]
  refine cj_putF (ci := 9) (T := TX9) (N := 26) (j := 8) (ty := .array .int) 0 C hk (ab_inws inX9 goX9) rfl (by decide) ⟨by decide +kernel, by decide +kernel⟩ tyX9_ok nmX9 rfl rfl (by decide +kernel) rfl rfl rfl (Nat.le_of_ble_eq_true rfl) dX9_init_59 ?_
  show CJ K 5 686 [(h0, .inr (9, [.int (Int32.ofInt (2)), .int (Int32.ofInt (7)), .int (Int32.ofInt (7)), .ref q1, .ref q2, .ref q3, .int 0, .ref q4, .ref q5, .null, .null, .int 0, .int 0, .int 0, .int 0, .null, .null, .null, .null, .null, .null, .null, .null, .null, .null, .null])), (q1, .inl (kcA K 0, 10, .inl (fun _ => 0))), (q2, .inl (kcA K 0, 10, .inl (fun _ => 0))), (q3, .inl (kcA K 0, 10, .inl (fun _ => 0))), (q4, .inl (kcA K 0, 8, .inl (fun _ => 0))), (q5, .inl (kcA K 0, 648, .inl (fun _ => 0)))] 62 [(0, .ref h0)] []
  refine cj_aload 0 C dX9_init_62 rfl rfl ?_
  refine cj_sipush C dX9_init_63 (by decide +kernel) ?_
  refine cj_newa (n := 400) (N := 400) (ti := 0) (a0 := (400, .inl (fun _ => 0))) C gwAI rfl (fun _ => rfl) (fun _ _ z => z) (fun _ => rfl) (by decide +kernel) (by decide +kernel) (by decide) (by decide) (by decide) dX9_init_66 (fun q6 => ?_)
  show CJ K 6 1086 [(h0, .inr (9, [.int (Int32.ofInt (2)), .int (Int32.ofInt (7)), .int (Int32.ofInt (7)), .ref q1, .ref q2, .ref q3, .int 0, .ref q4, .ref q5, .null, .null, .int 0, .int 0, .int 0, .int 0, .null, .null, .null, .null, .null, .null, .null, .null, .null, .null, .null])), (q1, .inl (kcA K 0, 10, .inl (fun _ => 0))), (q2, .inl (kcA K 0, 10, .inl (fun _ => 0))), (q3, .inl (kcA K 0, 10, .inl (fun _ => 0))), (q4, .inl (kcA K 0, 8, .inl (fun _ => 0))), (q5, .inl (kcA K 0, 648, .inl (fun _ => 0))), (q6, .inl (kcA K 0, 400, .inl (fun _ => 0)))] 68 [(0, .ref h0)] [.ref q6, .ref h0]
  refine cj_putF (ci := 9) (T := TX9) (N := 26) (j := 9) (ty := .array .int) 0 C hk (ab_inws inX9 goX9) rfl (by decide) ⟨by decide +kernel, by decide +kernel⟩ tyX9_ok nmX9 rfl rfl (by decide +kernel) rfl rfl rfl (Nat.le_of_ble_eq_true rfl) dX9_init_68 ?_
  show CJ K 6 1086 [(h0, .inr (9, [.int (Int32.ofInt (2)), .int (Int32.ofInt (7)), .int (Int32.ofInt (7)), .ref q1, .ref q2, .ref q3, .int 0, .ref q4, .ref q5, .ref q6, .null, .int 0, .int 0, .int 0, .int 0, .null, .null, .null, .null, .null, .null, .null, .null, .null, .null, .null])), (q1, .inl (kcA K 0, 10, .inl (fun _ => 0))), (q2, .inl (kcA K 0, 10, .inl (fun _ => 0))), (q3, .inl (kcA K 0, 10, .inl (fun _ => 0))), (q4, .inl (kcA K 0, 8, .inl (fun _ => 0))), (q5, .inl (kcA K 0, 648, .inl (fun _ => 0))), (q6, .inl (kcA K 0, 400, .inl (fun _ => 0)))] 71 [(0, .ref h0)] []
  refine cj_aload 0 C dX9_init_71 rfl rfl ?_
  refine cj_bipush C dX9_init_72 (by decide +kernel) ?_
  refine cj_newa (n := 80) (N := 80) (ti := 0) (a0 := (80, .inl (fun _ => 0))) C gwAI rfl (fun _ => rfl) (fun _ _ z => z) (fun _ => rfl) (by decide +kernel) (by decide +kernel) (by decide) (by decide) (by decide) dX9_init_74 (fun q7 => ?_)
  show CJ K 7 1166 [(h0, .inr (9, [.int (Int32.ofInt (2)), .int (Int32.ofInt (7)), .int (Int32.ofInt (7)), .ref q1, .ref q2, .ref q3, .int 0, .ref q4, .ref q5, .ref q6, .null, .int 0, .int 0, .int 0, .int 0, .null, .null, .null, .null, .null, .null, .null, .null, .null, .null, .null])), (q1, .inl (kcA K 0, 10, .inl (fun _ => 0))), (q2, .inl (kcA K 0, 10, .inl (fun _ => 0))), (q3, .inl (kcA K 0, 10, .inl (fun _ => 0))), (q4, .inl (kcA K 0, 8, .inl (fun _ => 0))), (q5, .inl (kcA K 0, 648, .inl (fun _ => 0))), (q6, .inl (kcA K 0, 400, .inl (fun _ => 0))), (q7, .inl (kcA K 0, 80, .inl (fun _ => 0)))] 76 [(0, .ref h0)] [.ref q7, .ref h0]
  refine cj_putF (ci := 9) (T := TX9) (N := 26) (j := 10) (ty := .array .int) 0 C hk (ab_inws inX9 goX9) rfl (by decide) ⟨by decide +kernel, by decide +kernel⟩ tyX9_ok nmX9 rfl rfl (by decide +kernel) rfl rfl rfl (Nat.le_of_ble_eq_true rfl) dX9_init_76 ?_
  show CJ K 7 1166 [(h0, .inr (9, [.int (Int32.ofInt (2)), .int (Int32.ofInt (7)), .int (Int32.ofInt (7)), .ref q1, .ref q2, .ref q3, .int 0, .ref q4, .ref q5, .ref q6, .ref q7, .int 0, .int 0, .int 0, .int 0, .null, .null, .null, .null, .null, .null, .null, .null, .null, .null, .null])), (q1, .inl (kcA K 0, 10, .inl (fun _ => 0))), (q2, .inl (kcA K 0, 10, .inl (fun _ => 0))), (q3, .inl (kcA K 0, 10, .inl (fun _ => 0))), (q4, .inl (kcA K 0, 8, .inl (fun _ => 0))), (q5, .inl (kcA K 0, 648, .inl (fun _ => 0))), (q6, .inl (kcA K 0, 400, .inl (fun _ => 0))), (q7, .inl (kcA K 0, 80, .inl (fun _ => 0)))] 79 [(0, .ref h0)] []
  refine cj_aload 0 C dX9_init_79 rfl rfl ?_
  refine cj_ldc (n := 70000) C gw799 dX9_init_80 (by decide +kernel) ?_
  refine cj_newa (n := 70000) (N := 70000) (ti := 0) (a0 := (70000, .inl (fun _ => 0))) C gwAI rfl (fun _ => rfl) (fun _ _ z => z) (fun _ => rfl) (by decide +kernel) (by decide +kernel) (by decide) (by decide) (by decide) dX9_init_82 (fun q8 => ?_)
  show CJ K 8 71166 [(h0, .inr (9, [.int (Int32.ofInt (2)), .int (Int32.ofInt (7)), .int (Int32.ofInt (7)), .ref q1, .ref q2, .ref q3, .int 0, .ref q4, .ref q5, .ref q6, .ref q7, .int 0, .int 0, .int 0, .int 0, .null, .null, .null, .null, .null, .null, .null, .null, .null, .null, .null])), (q1, .inl (kcA K 0, 10, .inl (fun _ => 0))), (q2, .inl (kcA K 0, 10, .inl (fun _ => 0))), (q3, .inl (kcA K 0, 10, .inl (fun _ => 0))), (q4, .inl (kcA K 0, 8, .inl (fun _ => 0))), (q5, .inl (kcA K 0, 648, .inl (fun _ => 0))), (q6, .inl (kcA K 0, 400, .inl (fun _ => 0))), (q7, .inl (kcA K 0, 80, .inl (fun _ => 0))), (q8, .inl (kcA K 0, 70000, .inl (fun _ => 0)))] 84 [(0, .ref h0)] [.ref q8, .ref h0]
  refine cj_putF (ci := 9) (T := TX9) (N := 26) (j := 15) (ty := .array .int) 0 C hk (ab_inws inX9 goX9) rfl (by decide) ⟨by decide +kernel, by decide +kernel⟩ tyX9_ok nmX9 rfl rfl (by decide +kernel) rfl rfl rfl (Nat.le_of_ble_eq_true rfl) dX9_init_84 ?_
  show CJ K 8 71166 [(h0, .inr (9, [.int (Int32.ofInt (2)), .int (Int32.ofInt (7)), .int (Int32.ofInt (7)), .ref q1, .ref q2, .ref q3, .int 0, .ref q4, .ref q5, .ref q6, .ref q7, .int 0, .int 0, .int 0, .int 0, .ref q8, .null, .null, .null, .null, .null, .null, .null, .null, .null, .null])), (q1, .inl (kcA K 0, 10, .inl (fun _ => 0))), (q2, .inl (kcA K 0, 10, .inl (fun _ => 0))), (q3, .inl (kcA K 0, 10, .inl (fun _ => 0))), (q4, .inl (kcA K 0, 8, .inl (fun _ => 0))), (q5, .inl (kcA K 0, 648, .inl (fun _ => 0))), (q6, .inl (kcA K 0, 400, .inl (fun _ => 0))), (q7, .inl (kcA K 0, 80, .inl (fun _ => 0))), (q8, .inl (kcA K 0, 70000, .inl (fun _ => 0)))] 87 [(0, .ref h0)] []
  refine cj_aload 0 C dX9_init_87 rfl rfl ?_
  refine cj_sipush C dX9_init_88 (by decide +kernel) ?_
  refine cj_newa (n := 400) (N := 400) (ti := 1) (a0 := (400, .inl (fun _ => 0))) C gwAZ rfl (fun _ => rfl) (fun _ _ z => z) (fun _ => rfl) (by decide +kernel) (by decide +kernel) (by decide) (by decide) (by decide) dX9_init_91 (fun q9 => ?_)
  show CJ K 9 71566 [(h0, .inr (9, [.int (Int32.ofInt (2)), .int (Int32.ofInt (7)), .int (Int32.ofInt (7)), .ref q1, .ref q2, .ref q3, .int 0, .ref q4, .ref q5, .ref q6, .ref q7, .int 0, .int 0, .int 0, .int 0, .ref q8, .null, .null, .null, .null, .null, .null, .null, .null, .null, .null])), (q1, .inl (kcA K 0, 10, .inl (fun _ => 0))), (q2, .inl (kcA K 0, 10, .inl (fun _ => 0))), (q3, .inl (kcA K 0, 10, .inl (fun _ => 0))), (q4, .inl (kcA K 0, 8, .inl (fun _ => 0))), (q5, .inl (kcA K 0, 648, .inl (fun _ => 0))), (q6, .inl (kcA K 0, 400, .inl (fun _ => 0))), (q7, .inl (kcA K 0, 80, .inl (fun _ => 0))), (q8, .inl (kcA K 0, 70000, .inl (fun _ => 0))), (q9, .inl (kcA K 1, 400, .inl (fun _ => 0)))] 93 [(0, .ref h0)] [.ref q9, .ref h0]
  refine cj_putF (ci := 9) (T := TX9) (N := 26) (j := 16) (ty := .array .boolean) 0 C hk (ab_inws inX9 goX9) rfl (by decide) ⟨by decide +kernel, by decide +kernel⟩ tyX9_ok nmX9 rfl rfl (by decide +kernel) rfl rfl rfl (Nat.le_of_ble_eq_true rfl) dX9_init_93 ?_
  show CJ K 9 71566 [(h0, .inr (9, [.int (Int32.ofInt (2)), .int (Int32.ofInt (7)), .int (Int32.ofInt (7)), .ref q1, .ref q2, .ref q3, .int 0, .ref q4, .ref q5, .ref q6, .ref q7, .int 0, .int 0, .int 0, .int 0, .ref q8, .ref q9, .null, .null, .null, .null, .null, .null, .null, .null, .null])), (q1, .inl (kcA K 0, 10, .inl (fun _ => 0))), (q2, .inl (kcA K 0, 10, .inl (fun _ => 0))), (q3, .inl (kcA K 0, 10, .inl (fun _ => 0))), (q4, .inl (kcA K 0, 8, .inl (fun _ => 0))), (q5, .inl (kcA K 0, 648, .inl (fun _ => 0))), (q6, .inl (kcA K 0, 400, .inl (fun _ => 0))), (q7, .inl (kcA K 0, 80, .inl (fun _ => 0))), (q8, .inl (kcA K 0, 70000, .inl (fun _ => 0))), (q9, .inl (kcA K 1, 400, .inl (fun _ => 0)))] 96 [(0, .ref h0)] []
  refine cj_aload 0 C dX9_init_96 rfl rfl ?_
  refine cj_ldc (n := 70000) C gw799 dX9_init_97 (by decide +kernel) ?_
  refine cj_newa (n := 70000) (N := 70000) (ti := 0) (a0 := (70000, .inl (fun _ => 0))) C gwAI rfl (fun _ => rfl) (fun _ _ z => z) (fun _ => rfl) (by decide +kernel) (by decide +kernel) (by decide) (by decide) (by decide) dX9_init_99 (fun q10 => ?_)
  show CJ K 10 141566 [(h0, .inr (9, [.int (Int32.ofInt (2)), .int (Int32.ofInt (7)), .int (Int32.ofInt (7)), .ref q1, .ref q2, .ref q3, .int 0, .ref q4, .ref q5, .ref q6, .ref q7, .int 0, .int 0, .int 0, .int 0, .ref q8, .ref q9, .null, .null, .null, .null, .null, .null, .null, .null, .null])), (q1, .inl (kcA K 0, 10, .inl (fun _ => 0))), (q2, .inl (kcA K 0, 10, .inl (fun _ => 0))), (q3, .inl (kcA K 0, 10, .inl (fun _ => 0))), (q4, .inl (kcA K 0, 8, .inl (fun _ => 0))), (q5, .inl (kcA K 0, 648, .inl (fun _ => 0))), (q6, .inl (kcA K 0, 400, .inl (fun _ => 0))), (q7, .inl (kcA K 0, 80, .inl (fun _ => 0))), (q8, .inl (kcA K 0, 70000, .inl (fun _ => 0))), (q9, .inl (kcA K 1, 400, .inl (fun _ => 0))), (q10, .inl (kcA K 0, 70000, .inl (fun _ => 0)))] 101 [(0, .ref h0)] [.ref q10, .ref h0]
  refine cj_putF (ci := 9) (T := TX9) (N := 26) (j := 17) (ty := .array .int) 0 C hk (ab_inws inX9 goX9) rfl (by decide) ⟨by decide +kernel, by decide +kernel⟩ tyX9_ok nmX9 rfl rfl (by decide +kernel) rfl rfl rfl (Nat.le_of_ble_eq_true rfl) dX9_init_101 ?_
  show CJ K 10 141566 [(h0, .inr (9, [.int (Int32.ofInt (2)), .int (Int32.ofInt (7)), .int (Int32.ofInt (7)), .ref q1, .ref q2, .ref q3, .int 0, .ref q4, .ref q5, .ref q6, .ref q7, .int 0, .int 0, .int 0, .int 0, .ref q8, .ref q9, .ref q10, .null, .null, .null, .null, .null, .null, .null, .null])), (q1, .inl (kcA K 0, 10, .inl (fun _ => 0))), (q2, .inl (kcA K 0, 10, .inl (fun _ => 0))), (q3, .inl (kcA K 0, 10, .inl (fun _ => 0))), (q4, .inl (kcA K 0, 8, .inl (fun _ => 0))), (q5, .inl (kcA K 0, 648, .inl (fun _ => 0))), (q6, .inl (kcA K 0, 400, .inl (fun _ => 0))), (q7, .inl (kcA K 0, 80, .inl (fun _ => 0))), (q8, .inl (kcA K 0, 70000, .inl (fun _ => 0))), (q9, .inl (kcA K 1, 400, .inl (fun _ => 0))), (q10, .inl (kcA K 0, 70000, .inl (fun _ => 0)))] 104 [(0, .ref h0)] []
  refine cj_aload 0 C dX9_init_104 rfl rfl ?_
  refine cj_sipush C dX9_init_105 (by decide +kernel) ?_
  refine cj_newa (n := 400) (N := 400) (ti := 1) (a0 := (400, .inl (fun _ => 0))) C gwAZ rfl (fun _ => rfl) (fun _ _ z => z) (fun _ => rfl) (by decide +kernel) (by decide +kernel) (by decide) (by decide) (by decide) dX9_init_108 (fun q11 => ?_)
  show CJ K 11 141966 [(h0, .inr (9, [.int (Int32.ofInt (2)), .int (Int32.ofInt (7)), .int (Int32.ofInt (7)), .ref q1, .ref q2, .ref q3, .int 0, .ref q4, .ref q5, .ref q6, .ref q7, .int 0, .int 0, .int 0, .int 0, .ref q8, .ref q9, .ref q10, .null, .null, .null, .null, .null, .null, .null, .null])), (q1, .inl (kcA K 0, 10, .inl (fun _ => 0))), (q2, .inl (kcA K 0, 10, .inl (fun _ => 0))), (q3, .inl (kcA K 0, 10, .inl (fun _ => 0))), (q4, .inl (kcA K 0, 8, .inl (fun _ => 0))), (q5, .inl (kcA K 0, 648, .inl (fun _ => 0))), (q6, .inl (kcA K 0, 400, .inl (fun _ => 0))), (q7, .inl (kcA K 0, 80, .inl (fun _ => 0))), (q8, .inl (kcA K 0, 70000, .inl (fun _ => 0))), (q9, .inl (kcA K 1, 400, .inl (fun _ => 0))), (q10, .inl (kcA K 0, 70000, .inl (fun _ => 0))), (q11, .inl (kcA K 1, 400, .inl (fun _ => 0)))] 110 [(0, .ref h0)] [.ref q11, .ref h0]
  refine cj_putF (ci := 9) (T := TX9) (N := 26) (j := 18) (ty := .array .boolean) 0 C hk (ab_inws inX9 goX9) rfl (by decide) ⟨by decide +kernel, by decide +kernel⟩ tyX9_ok nmX9 rfl rfl (by decide +kernel) rfl rfl rfl (Nat.le_of_ble_eq_true rfl) dX9_init_110 ?_
  show CJ K 11 141966 [(h0, .inr (9, [.int (Int32.ofInt (2)), .int (Int32.ofInt (7)), .int (Int32.ofInt (7)), .ref q1, .ref q2, .ref q3, .int 0, .ref q4, .ref q5, .ref q6, .ref q7, .int 0, .int 0, .int 0, .int 0, .ref q8, .ref q9, .ref q10, .ref q11, .null, .null, .null, .null, .null, .null, .null])), (q1, .inl (kcA K 0, 10, .inl (fun _ => 0))), (q2, .inl (kcA K 0, 10, .inl (fun _ => 0))), (q3, .inl (kcA K 0, 10, .inl (fun _ => 0))), (q4, .inl (kcA K 0, 8, .inl (fun _ => 0))), (q5, .inl (kcA K 0, 648, .inl (fun _ => 0))), (q6, .inl (kcA K 0, 400, .inl (fun _ => 0))), (q7, .inl (kcA K 0, 80, .inl (fun _ => 0))), (q8, .inl (kcA K 0, 70000, .inl (fun _ => 0))), (q9, .inl (kcA K 1, 400, .inl (fun _ => 0))), (q10, .inl (kcA K 0, 70000, .inl (fun _ => 0))), (q11, .inl (kcA K 1, 400, .inl (fun _ => 0)))] 113 [(0, .ref h0)] []
  refine cj_aload 0 C dX9_init_113 rfl rfl ?_
  refine cj_sipush C dX9_init_114 (by decide +kernel) ?_
  refine cj_newa (n := 243) (N := 243) (ti := 0) (a0 := (243, .inl (fun _ => 0))) C gwAI rfl (fun _ => rfl) (fun _ _ z => z) (fun _ => rfl) (by decide +kernel) (by decide +kernel) (by decide) (by decide) (by decide) dX9_init_117 (fun q12 => ?_)
  show CJ K 12 142209 [(h0, .inr (9, [.int (Int32.ofInt (2)), .int (Int32.ofInt (7)), .int (Int32.ofInt (7)), .ref q1, .ref q2, .ref q3, .int 0, .ref q4, .ref q5, .ref q6, .ref q7, .int 0, .int 0, .int 0, .int 0, .ref q8, .ref q9, .ref q10, .ref q11, .null, .null, .null, .null, .null, .null, .null])), (q1, .inl (kcA K 0, 10, .inl (fun _ => 0))), (q2, .inl (kcA K 0, 10, .inl (fun _ => 0))), (q3, .inl (kcA K 0, 10, .inl (fun _ => 0))), (q4, .inl (kcA K 0, 8, .inl (fun _ => 0))), (q5, .inl (kcA K 0, 648, .inl (fun _ => 0))), (q6, .inl (kcA K 0, 400, .inl (fun _ => 0))), (q7, .inl (kcA K 0, 80, .inl (fun _ => 0))), (q8, .inl (kcA K 0, 70000, .inl (fun _ => 0))), (q9, .inl (kcA K 1, 400, .inl (fun _ => 0))), (q10, .inl (kcA K 0, 70000, .inl (fun _ => 0))), (q11, .inl (kcA K 1, 400, .inl (fun _ => 0))), (q12, .inl (kcA K 0, 243, .inl (fun _ => 0)))] 119 [(0, .ref h0)] [.ref q12, .ref h0]
  refine cj_putF (ci := 9) (T := TX9) (N := 26) (j := 19) (ty := .array .int) 0 C hk (ab_inws inX9 goX9) rfl (by decide) ⟨by decide +kernel, by decide +kernel⟩ tyX9_ok nmX9 rfl rfl (by decide +kernel) rfl rfl rfl (Nat.le_of_ble_eq_true rfl) dX9_init_119 ?_
  show CJ K 12 142209 [(h0, .inr (9, [.int (Int32.ofInt (2)), .int (Int32.ofInt (7)), .int (Int32.ofInt (7)), .ref q1, .ref q2, .ref q3, .int 0, .ref q4, .ref q5, .ref q6, .ref q7, .int 0, .int 0, .int 0, .int 0, .ref q8, .ref q9, .ref q10, .ref q11, .ref q12, .null, .null, .null, .null, .null, .null])), (q1, .inl (kcA K 0, 10, .inl (fun _ => 0))), (q2, .inl (kcA K 0, 10, .inl (fun _ => 0))), (q3, .inl (kcA K 0, 10, .inl (fun _ => 0))), (q4, .inl (kcA K 0, 8, .inl (fun _ => 0))), (q5, .inl (kcA K 0, 648, .inl (fun _ => 0))), (q6, .inl (kcA K 0, 400, .inl (fun _ => 0))), (q7, .inl (kcA K 0, 80, .inl (fun _ => 0))), (q8, .inl (kcA K 0, 70000, .inl (fun _ => 0))), (q9, .inl (kcA K 1, 400, .inl (fun _ => 0))), (q10, .inl (kcA K 0, 70000, .inl (fun _ => 0))), (q11, .inl (kcA K 1, 400, .inl (fun _ => 0))), (q12, .inl (kcA K 0, 243, .inl (fun _ => 0)))] 122 [(0, .ref h0)] []
  refine cj_aload 0 C dX9_init_122 rfl rfl ?_
  refine cj_sipush C dX9_init_123 (by decide +kernel) ?_
  refine cj_newa (n := 6561) (N := 6561) (ti := 0) (a0 := (6561, .inl (fun _ => 0))) C gwAI rfl (fun _ => rfl) (fun _ _ z => z) (fun _ => rfl) (by decide +kernel) (by decide +kernel) (by decide) (by decide) (by decide) dX9_init_126 (fun q13 => ?_)
  show CJ K 13 148770 [(h0, .inr (9, [.int (Int32.ofInt (2)), .int (Int32.ofInt (7)), .int (Int32.ofInt (7)), .ref q1, .ref q2, .ref q3, .int 0, .ref q4, .ref q5, .ref q6, .ref q7, .int 0, .int 0, .int 0, .int 0, .ref q8, .ref q9, .ref q10, .ref q11, .ref q12, .null, .null, .null, .null, .null, .null])), (q1, .inl (kcA K 0, 10, .inl (fun _ => 0))), (q2, .inl (kcA K 0, 10, .inl (fun _ => 0))), (q3, .inl (kcA K 0, 10, .inl (fun _ => 0))), (q4, .inl (kcA K 0, 8, .inl (fun _ => 0))), (q5, .inl (kcA K 0, 648, .inl (fun _ => 0))), (q6, .inl (kcA K 0, 400, .inl (fun _ => 0))), (q7, .inl (kcA K 0, 80, .inl (fun _ => 0))), (q8, .inl (kcA K 0, 70000, .inl (fun _ => 0))), (q9, .inl (kcA K 1, 400, .inl (fun _ => 0))), (q10, .inl (kcA K 0, 70000, .inl (fun _ => 0))), (q11, .inl (kcA K 1, 400, .inl (fun _ => 0))), (q12, .inl (kcA K 0, 243, .inl (fun _ => 0))), (q13, .inl (kcA K 0, 6561, .inl (fun _ => 0)))] 128 [(0, .ref h0)] [.ref q13, .ref h0]
  refine cj_putF (ci := 9) (T := TX9) (N := 26) (j := 20) (ty := .array .int) 0 C hk (ab_inws inX9 goX9) rfl (by decide) ⟨by decide +kernel, by decide +kernel⟩ tyX9_ok nmX9 rfl rfl (by decide +kernel) rfl rfl rfl (Nat.le_of_ble_eq_true rfl) dX9_init_128 ?_
  show CJ K 13 148770 [(h0, .inr (9, [.int (Int32.ofInt (2)), .int (Int32.ofInt (7)), .int (Int32.ofInt (7)), .ref q1, .ref q2, .ref q3, .int 0, .ref q4, .ref q5, .ref q6, .ref q7, .int 0, .int 0, .int 0, .int 0, .ref q8, .ref q9, .ref q10, .ref q11, .ref q12, .ref q13, .null, .null, .null, .null, .null])), (q1, .inl (kcA K 0, 10, .inl (fun _ => 0))), (q2, .inl (kcA K 0, 10, .inl (fun _ => 0))), (q3, .inl (kcA K 0, 10, .inl (fun _ => 0))), (q4, .inl (kcA K 0, 8, .inl (fun _ => 0))), (q5, .inl (kcA K 0, 648, .inl (fun _ => 0))), (q6, .inl (kcA K 0, 400, .inl (fun _ => 0))), (q7, .inl (kcA K 0, 80, .inl (fun _ => 0))), (q8, .inl (kcA K 0, 70000, .inl (fun _ => 0))), (q9, .inl (kcA K 1, 400, .inl (fun _ => 0))), (q10, .inl (kcA K 0, 70000, .inl (fun _ => 0))), (q11, .inl (kcA K 1, 400, .inl (fun _ => 0))), (q12, .inl (kcA K 0, 243, .inl (fun _ => 0))), (q13, .inl (kcA K 0, 6561, .inl (fun _ => 0)))] 131 [(0, .ref h0)] []
  refine cj_aload 0 C dX9_init_131 rfl rfl ?_
  refine cj_bipush C dX9_init_132 (by decide +kernel) ?_
  refine cj_newa (n := 81) (N := 81) (ti := 1) (a0 := (81, .inl (fun _ => 0))) C gwAZ rfl (fun _ => rfl) (fun _ _ z => z) (fun _ => rfl) (by decide +kernel) (by decide +kernel) (by decide) (by decide) (by decide) dX9_init_134 (fun q14 => ?_)
  show CJ K 14 148851 [(h0, .inr (9, [.int (Int32.ofInt (2)), .int (Int32.ofInt (7)), .int (Int32.ofInt (7)), .ref q1, .ref q2, .ref q3, .int 0, .ref q4, .ref q5, .ref q6, .ref q7, .int 0, .int 0, .int 0, .int 0, .ref q8, .ref q9, .ref q10, .ref q11, .ref q12, .ref q13, .null, .null, .null, .null, .null])), (q1, .inl (kcA K 0, 10, .inl (fun _ => 0))), (q2, .inl (kcA K 0, 10, .inl (fun _ => 0))), (q3, .inl (kcA K 0, 10, .inl (fun _ => 0))), (q4, .inl (kcA K 0, 8, .inl (fun _ => 0))), (q5, .inl (kcA K 0, 648, .inl (fun _ => 0))), (q6, .inl (kcA K 0, 400, .inl (fun _ => 0))), (q7, .inl (kcA K 0, 80, .inl (fun _ => 0))), (q8, .inl (kcA K 0, 70000, .inl (fun _ => 0))), (q9, .inl (kcA K 1, 400, .inl (fun _ => 0))), (q10, .inl (kcA K 0, 70000, .inl (fun _ => 0))), (q11, .inl (kcA K 1, 400, .inl (fun _ => 0))), (q12, .inl (kcA K 0, 243, .inl (fun _ => 0))), (q13, .inl (kcA K 0, 6561, .inl (fun _ => 0))), (q14, .inl (kcA K 1, 81, .inl (fun _ => 0)))] 136 [(0, .ref h0)] [.ref q14, .ref h0]
  refine cj_putF (ci := 9) (T := TX9) (N := 26) (j := 21) (ty := .array .boolean) 0 C hk (ab_inws inX9 goX9) rfl (by decide) ⟨by decide +kernel, by decide +kernel⟩ tyX9_ok nmX9 rfl rfl (by decide +kernel) rfl rfl rfl (Nat.le_of_ble_eq_true rfl) dX9_init_136 ?_
  show CJ K 14 148851 [(h0, .inr (9, [.int (Int32.ofInt (2)), .int (Int32.ofInt (7)), .int (Int32.ofInt (7)), .ref q1, .ref q2, .ref q3, .int 0, .ref q4, .ref q5, .ref q6, .ref q7, .int 0, .int 0, .int 0, .int 0, .ref q8, .ref q9, .ref q10, .ref q11, .ref q12, .ref q13, .ref q14, .null, .null, .null, .null])), (q1, .inl (kcA K 0, 10, .inl (fun _ => 0))), (q2, .inl (kcA K 0, 10, .inl (fun _ => 0))), (q3, .inl (kcA K 0, 10, .inl (fun _ => 0))), (q4, .inl (kcA K 0, 8, .inl (fun _ => 0))), (q5, .inl (kcA K 0, 648, .inl (fun _ => 0))), (q6, .inl (kcA K 0, 400, .inl (fun _ => 0))), (q7, .inl (kcA K 0, 80, .inl (fun _ => 0))), (q8, .inl (kcA K 0, 70000, .inl (fun _ => 0))), (q9, .inl (kcA K 1, 400, .inl (fun _ => 0))), (q10, .inl (kcA K 0, 70000, .inl (fun _ => 0))), (q11, .inl (kcA K 1, 400, .inl (fun _ => 0))), (q12, .inl (kcA K 0, 243, .inl (fun _ => 0))), (q13, .inl (kcA K 0, 6561, .inl (fun _ => 0))), (q14, .inl (kcA K 1, 81, .inl (fun _ => 0)))] 139 [(0, .ref h0)] []
  refine cj_aload 0 C dX9_init_139 rfl rfl ?_
  refine cj_sipush C dX9_init_140 (by decide +kernel) ?_
  refine cj_newa (n := 400) (N := 400) (ti := 0) (a0 := (400, .inl (fun _ => 0))) C gwAI rfl (fun _ => rfl) (fun _ _ z => z) (fun _ => rfl) (by decide +kernel) (by decide +kernel) (by decide) (by decide) (by decide) dX9_init_143 (fun q15 => ?_)
  show CJ K 15 149251 [(h0, .inr (9, [.int (Int32.ofInt (2)), .int (Int32.ofInt (7)), .int (Int32.ofInt (7)), .ref q1, .ref q2, .ref q3, .int 0, .ref q4, .ref q5, .ref q6, .ref q7, .int 0, .int 0, .int 0, .int 0, .ref q8, .ref q9, .ref q10, .ref q11, .ref q12, .ref q13, .ref q14, .null, .null, .null, .null])), (q1, .inl (kcA K 0, 10, .inl (fun _ => 0))), (q2, .inl (kcA K 0, 10, .inl (fun _ => 0))), (q3, .inl (kcA K 0, 10, .inl (fun _ => 0))), (q4, .inl (kcA K 0, 8, .inl (fun _ => 0))), (q5, .inl (kcA K 0, 648, .inl (fun _ => 0))), (q6, .inl (kcA K 0, 400, .inl (fun _ => 0))), (q7, .inl (kcA K 0, 80, .inl (fun _ => 0))), (q8, .inl (kcA K 0, 70000, .inl (fun _ => 0))), (q9, .inl (kcA K 1, 400, .inl (fun _ => 0))), (q10, .inl (kcA K 0, 70000, .inl (fun _ => 0))), (q11, .inl (kcA K 1, 400, .inl (fun _ => 0))), (q12, .inl (kcA K 0, 243, .inl (fun _ => 0))), (q13, .inl (kcA K 0, 6561, .inl (fun _ => 0))), (q14, .inl (kcA K 1, 81, .inl (fun _ => 0))), (q15, .inl (kcA K 0, 400, .inl (fun _ => 0)))] 145 [(0, .ref h0)] [.ref q15, .ref h0]
  refine cj_putF (ci := 9) (T := TX9) (N := 26) (j := 22) (ty := .array .int) 0 C hk (ab_inws inX9 goX9) rfl (by decide) ⟨by decide +kernel, by decide +kernel⟩ tyX9_ok nmX9 rfl rfl (by decide +kernel) rfl rfl rfl (Nat.le_of_ble_eq_true rfl) dX9_init_145 ?_
  show CJ K 15 149251 [(h0, .inr (9, [.int (Int32.ofInt (2)), .int (Int32.ofInt (7)), .int (Int32.ofInt (7)), .ref q1, .ref q2, .ref q3, .int 0, .ref q4, .ref q5, .ref q6, .ref q7, .int 0, .int 0, .int 0, .int 0, .ref q8, .ref q9, .ref q10, .ref q11, .ref q12, .ref q13, .ref q14, .ref q15, .null, .null, .null])), (q1, .inl (kcA K 0, 10, .inl (fun _ => 0))), (q2, .inl (kcA K 0, 10, .inl (fun _ => 0))), (q3, .inl (kcA K 0, 10, .inl (fun _ => 0))), (q4, .inl (kcA K 0, 8, .inl (fun _ => 0))), (q5, .inl (kcA K 0, 648, .inl (fun _ => 0))), (q6, .inl (kcA K 0, 400, .inl (fun _ => 0))), (q7, .inl (kcA K 0, 80, .inl (fun _ => 0))), (q8, .inl (kcA K 0, 70000, .inl (fun _ => 0))), (q9, .inl (kcA K 1, 400, .inl (fun _ => 0))), (q10, .inl (kcA K 0, 70000, .inl (fun _ => 0))), (q11, .inl (kcA K 1, 400, .inl (fun _ => 0))), (q12, .inl (kcA K 0, 243, .inl (fun _ => 0))), (q13, .inl (kcA K 0, 6561, .inl (fun _ => 0))), (q14, .inl (kcA K 1, 81, .inl (fun _ => 0))), (q15, .inl (kcA K 0, 400, .inl (fun _ => 0)))] 148 [(0, .ref h0)] []
  refine cj_aload 0 C dX9_init_148 rfl rfl ?_
  refine cj_iconst C dX9_init_149 ?_
  refine cj_newa (n := 4) (N := 4) (ti := 0) (a0 := (4, .inl (fun _ => 0))) C gwAI rfl (fun _ => rfl) (fun _ _ z => z) (fun _ => rfl) (by decide +kernel) (by decide +kernel) (by decide) (by decide) (by decide) dX9_init_150 (fun q16 => ?_)
  show CJ K 16 149255 [(h0, .inr (9, [.int (Int32.ofInt (2)), .int (Int32.ofInt (7)), .int (Int32.ofInt (7)), .ref q1, .ref q2, .ref q3, .int 0, .ref q4, .ref q5, .ref q6, .ref q7, .int 0, .int 0, .int 0, .int 0, .ref q8, .ref q9, .ref q10, .ref q11, .ref q12, .ref q13, .ref q14, .ref q15, .null, .null, .null])), (q1, .inl (kcA K 0, 10, .inl (fun _ => 0))), (q2, .inl (kcA K 0, 10, .inl (fun _ => 0))), (q3, .inl (kcA K 0, 10, .inl (fun _ => 0))), (q4, .inl (kcA K 0, 8, .inl (fun _ => 0))), (q5, .inl (kcA K 0, 648, .inl (fun _ => 0))), (q6, .inl (kcA K 0, 400, .inl (fun _ => 0))), (q7, .inl (kcA K 0, 80, .inl (fun _ => 0))), (q8, .inl (kcA K 0, 70000, .inl (fun _ => 0))), (q9, .inl (kcA K 1, 400, .inl (fun _ => 0))), (q10, .inl (kcA K 0, 70000, .inl (fun _ => 0))), (q11, .inl (kcA K 1, 400, .inl (fun _ => 0))), (q12, .inl (kcA K 0, 243, .inl (fun _ => 0))), (q13, .inl (kcA K 0, 6561, .inl (fun _ => 0))), (q14, .inl (kcA K 1, 81, .inl (fun _ => 0))), (q15, .inl (kcA K 0, 400, .inl (fun _ => 0))), (q16, .inl (kcA K 0, 4, .inl (fun _ => 0)))] 152 [(0, .ref h0)] [.ref q16, .ref h0]
  refine cj_putF (ci := 9) (T := TX9) (N := 26) (j := 23) (ty := .array .int) 0 C hk (ab_inws inX9 goX9) rfl (by decide) ⟨by decide +kernel, by decide +kernel⟩ tyX9_ok nmX9 rfl rfl (by decide +kernel) rfl rfl rfl (Nat.le_of_ble_eq_true rfl) dX9_init_152 ?_
  show CJ K 16 149255 [(h0, .inr (9, [.int (Int32.ofInt (2)), .int (Int32.ofInt (7)), .int (Int32.ofInt (7)), .ref q1, .ref q2, .ref q3, .int 0, .ref q4, .ref q5, .ref q6, .ref q7, .int 0, .int 0, .int 0, .int 0, .ref q8, .ref q9, .ref q10, .ref q11, .ref q12, .ref q13, .ref q14, .ref q15, .ref q16, .null, .null])), (q1, .inl (kcA K 0, 10, .inl (fun _ => 0))), (q2, .inl (kcA K 0, 10, .inl (fun _ => 0))), (q3, .inl (kcA K 0, 10, .inl (fun _ => 0))), (q4, .inl (kcA K 0, 8, .inl (fun _ => 0))), (q5, .inl (kcA K 0, 648, .inl (fun _ => 0))), (q6, .inl (kcA K 0, 400, .inl (fun _ => 0))), (q7, .inl (kcA K 0, 80, .inl (fun _ => 0))), (q8, .inl (kcA K 0, 70000, .inl (fun _ => 0))), (q9, .inl (kcA K 1, 400, .inl (fun _ => 0))), (q10, .inl (kcA K 0, 70000, .inl (fun _ => 0))), (q11, .inl (kcA K 1, 400, .inl (fun _ => 0))), (q12, .inl (kcA K 0, 243, .inl (fun _ => 0))), (q13, .inl (kcA K 0, 6561, .inl (fun _ => 0))), (q14, .inl (kcA K 1, 81, .inl (fun _ => 0))), (q15, .inl (kcA K 0, 400, .inl (fun _ => 0))), (q16, .inl (kcA K 0, 4, .inl (fun _ => 0)))] 155 [(0, .ref h0)] []
  refine cj_aload 0 C dX9_init_155 rfl rfl ?_
  refine cj_iconst C dX9_init_156 ?_
  refine cj_newa (n := 4) (N := 4) (ti := 0) (a0 := (4, .inl (fun _ => 0))) C gwAI rfl (fun _ => rfl) (fun _ _ z => z) (fun _ => rfl) (by decide +kernel) (by decide +kernel) (by decide) (by decide) (by decide) dX9_init_157 (fun q17 => ?_)
  show CJ K 17 149259 [(h0, .inr (9, [.int (Int32.ofInt (2)), .int (Int32.ofInt (7)), .int (Int32.ofInt (7)), .ref q1, .ref q2, .ref q3, .int 0, .ref q4, .ref q5, .ref q6, .ref q7, .int 0, .int 0, .int 0, .int 0, .ref q8, .ref q9, .ref q10, .ref q11, .ref q12, .ref q13, .ref q14, .ref q15, .ref q16, .null, .null])), (q1, .inl (kcA K 0, 10, .inl (fun _ => 0))), (q2, .inl (kcA K 0, 10, .inl (fun _ => 0))), (q3, .inl (kcA K 0, 10, .inl (fun _ => 0))), (q4, .inl (kcA K 0, 8, .inl (fun _ => 0))), (q5, .inl (kcA K 0, 648, .inl (fun _ => 0))), (q6, .inl (kcA K 0, 400, .inl (fun _ => 0))), (q7, .inl (kcA K 0, 80, .inl (fun _ => 0))), (q8, .inl (kcA K 0, 70000, .inl (fun _ => 0))), (q9, .inl (kcA K 1, 400, .inl (fun _ => 0))), (q10, .inl (kcA K 0, 70000, .inl (fun _ => 0))), (q11, .inl (kcA K 1, 400, .inl (fun _ => 0))), (q12, .inl (kcA K 0, 243, .inl (fun _ => 0))), (q13, .inl (kcA K 0, 6561, .inl (fun _ => 0))), (q14, .inl (kcA K 1, 81, .inl (fun _ => 0))), (q15, .inl (kcA K 0, 400, .inl (fun _ => 0))), (q16, .inl (kcA K 0, 4, .inl (fun _ => 0))), (q17, .inl (kcA K 0, 4, .inl (fun _ => 0)))] 159 [(0, .ref h0)] [.ref q17, .ref h0]
  refine cj_putF (ci := 9) (T := TX9) (N := 26) (j := 24) (ty := .array .int) 0 C hk (ab_inws inX9 goX9) rfl (by decide) ⟨by decide +kernel, by decide +kernel⟩ tyX9_ok nmX9 rfl rfl (by decide +kernel) rfl rfl rfl (Nat.le_of_ble_eq_true rfl) dX9_init_159 ?_
  show CJ K 17 149259 [(h0, .inr (9, [.int (Int32.ofInt (2)), .int (Int32.ofInt (7)), .int (Int32.ofInt (7)), .ref q1, .ref q2, .ref q3, .int 0, .ref q4, .ref q5, .ref q6, .ref q7, .int 0, .int 0, .int 0, .int 0, .ref q8, .ref q9, .ref q10, .ref q11, .ref q12, .ref q13, .ref q14, .ref q15, .ref q16, .ref q17, .null])), (q1, .inl (kcA K 0, 10, .inl (fun _ => 0))), (q2, .inl (kcA K 0, 10, .inl (fun _ => 0))), (q3, .inl (kcA K 0, 10, .inl (fun _ => 0))), (q4, .inl (kcA K 0, 8, .inl (fun _ => 0))), (q5, .inl (kcA K 0, 648, .inl (fun _ => 0))), (q6, .inl (kcA K 0, 400, .inl (fun _ => 0))), (q7, .inl (kcA K 0, 80, .inl (fun _ => 0))), (q8, .inl (kcA K 0, 70000, .inl (fun _ => 0))), (q9, .inl (kcA K 1, 400, .inl (fun _ => 0))), (q10, .inl (kcA K 0, 70000, .inl (fun _ => 0))), (q11, .inl (kcA K 1, 400, .inl (fun _ => 0))), (q12, .inl (kcA K 0, 243, .inl (fun _ => 0))), (q13, .inl (kcA K 0, 6561, .inl (fun _ => 0))), (q14, .inl (kcA K 1, 81, .inl (fun _ => 0))), (q15, .inl (kcA K 0, 400, .inl (fun _ => 0))), (q16, .inl (kcA K 0, 4, .inl (fun _ => 0))), (q17, .inl (kcA K 0, 4, .inl (fun _ => 0)))] 162 [(0, .ref h0)] []
  refine cj_aload 0 C dX9_init_162 rfl rfl ?_
  refine cj_sipush C dX9_init_163 (by decide +kernel) ?_
  refine cj_newa (n := 360) (N := 360) (ti := 0) (a0 := (360, .inl (fun _ => 0))) C gwAI rfl (fun _ => rfl) (fun _ _ z => z) (fun _ => rfl) (by decide +kernel) (by decide +kernel) (by decide) (by decide) (by decide) dX9_init_166 (fun q18 => ?_)
  show CJ K 18 149619 [(h0, .inr (9, [.int (Int32.ofInt (2)), .int (Int32.ofInt (7)), .int (Int32.ofInt (7)), .ref q1, .ref q2, .ref q3, .int 0, .ref q4, .ref q5, .ref q6, .ref q7, .int 0, .int 0, .int 0, .int 0, .ref q8, .ref q9, .ref q10, .ref q11, .ref q12, .ref q13, .ref q14, .ref q15, .ref q16, .ref q17, .null])), (q1, .inl (kcA K 0, 10, .inl (fun _ => 0))), (q2, .inl (kcA K 0, 10, .inl (fun _ => 0))), (q3, .inl (kcA K 0, 10, .inl (fun _ => 0))), (q4, .inl (kcA K 0, 8, .inl (fun _ => 0))), (q5, .inl (kcA K 0, 648, .inl (fun _ => 0))), (q6, .inl (kcA K 0, 400, .inl (fun _ => 0))), (q7, .inl (kcA K 0, 80, .inl (fun _ => 0))), (q8, .inl (kcA K 0, 70000, .inl (fun _ => 0))), (q9, .inl (kcA K 1, 400, .inl (fun _ => 0))), (q10, .inl (kcA K 0, 70000, .inl (fun _ => 0))), (q11, .inl (kcA K 1, 400, .inl (fun _ => 0))), (q12, .inl (kcA K 0, 243, .inl (fun _ => 0))), (q13, .inl (kcA K 0, 6561, .inl (fun _ => 0))), (q14, .inl (kcA K 1, 81, .inl (fun _ => 0))), (q15, .inl (kcA K 0, 400, .inl (fun _ => 0))), (q16, .inl (kcA K 0, 4, .inl (fun _ => 0))), (q17, .inl (kcA K 0, 4, .inl (fun _ => 0))), (q18, .inl (kcA K 0, 360, .inl (fun _ => 0)))] 168 [(0, .ref h0)] [.ref q18, .ref h0]
  refine cj_putF (ci := 9) (T := TX9) (N := 26) (j := 25) (ty := .array .int) 0 C hk (ab_inws inX9 goX9) rfl (by decide) ⟨by decide +kernel, by decide +kernel⟩ tyX9_ok nmX9 rfl rfl (by decide +kernel) rfl rfl rfl (Nat.le_of_ble_eq_true rfl) dX9_init_168 ?_
  show CJ K 18 149619 [(h0, .inr (9, [.int (Int32.ofInt (2)), .int (Int32.ofInt (7)), .int (Int32.ofInt (7)), .ref q1, .ref q2, .ref q3, .int 0, .ref q4, .ref q5, .ref q6, .ref q7, .int 0, .int 0, .int 0, .int 0, .ref q8, .ref q9, .ref q10, .ref q11, .ref q12, .ref q13, .ref q14, .ref q15, .ref q16, .ref q17, .ref q18])), (q1, .inl (kcA K 0, 10, .inl (fun _ => 0))), (q2, .inl (kcA K 0, 10, .inl (fun _ => 0))), (q3, .inl (kcA K 0, 10, .inl (fun _ => 0))), (q4, .inl (kcA K 0, 8, .inl (fun _ => 0))), (q5, .inl (kcA K 0, 648, .inl (fun _ => 0))), (q6, .inl (kcA K 0, 400, .inl (fun _ => 0))), (q7, .inl (kcA K 0, 80, .inl (fun _ => 0))), (q8, .inl (kcA K 0, 70000, .inl (fun _ => 0))), (q9, .inl (kcA K 1, 400, .inl (fun _ => 0))), (q10, .inl (kcA K 0, 70000, .inl (fun _ => 0))), (q11, .inl (kcA K 1, 400, .inl (fun _ => 0))), (q12, .inl (kcA K 0, 243, .inl (fun _ => 0))), (q13, .inl (kcA K 0, 6561, .inl (fun _ => 0))), (q14, .inl (kcA K 1, 81, .inl (fun _ => 0))), (q15, .inl (kcA K 0, 400, .inl (fun _ => 0))), (q16, .inl (kcA K 0, 4, .inl (fun _ => 0))), (q17, .inl (kcA K 0, 4, .inl (fun _ => 0))), (q18, .inl (kcA K 0, 360, .inl (fun _ => 0)))] 171 [(0, .ref h0)] []
  refine cj_to [h0, q1, q2, q3, q4, q5, q6, q7, q8, q9, q10, q11, q12, q13, q14, q15, q16, q17, q18] (S := SM0) (M := M9i) (lvA := [vP 0, vU]) (stA := []) (by rw [ab_w_eq, z32]; rfl) (okM_0 (fun k j => by unfold M9i; split <;> (try split) <;> (try split) <;> (try split) <;> omega)) (by rw [hnL]; rfl) (fun i v hv hu => by
    match i, hv with
    | 0, hv => cases hv; exact List.mem_cons_self
    | 1, hv => cases hv; exact absurd rfl hu) (fun v hv => by
    simp only [List.mem_cons, List.not_mem_nil, or_false] at hv
    rcases hv with rfl | rfl <;> trivial) rfl (fun v hv => by cases hv) ?_
  have C2 := setA_Cx (ads := [h0, q1, q2, q3, q4, q5, q6, q7, q8, q9, q10, q11, q12, q13, q14, q15, q16, q17, q18]) C
  refine ac_iconst C2 dX9_init_171 (by decide) ?_
  refine ac_istore1 (lv := []) C2 rfl dX9_init_172 ?_
  refine ac_mem (M2 := upA M9i 16 (fun j => if 0 ≤ j ∧ j < (0 : Int) then -1 else 0)) (upA_id (fun j => by rw [if_neg (by omega)]; rfl)) ?_
  refine ab_loop (fun i (_ : Unit) => AJc (setA K [h0, q1, q2, q3, q4, q5, q6, q7, q8, q9, q10, q11, q12, q13, q14, q15, q16, q17, q18]) 18 149619 SM0 173 [vP 0, vI i] [] (upA M9i 16 (fun j => if 0 ≤ j ∧ j < i then -1 else 0))) (fun i _ => 0 ≤ i) 4 ?_ 0 () (by omega) (by omega)
  intro i _ hi i0 ih
  refine ac_iload_n C2 dX9_init_173 rfl rfl ?_
  refine ac_iconst C2 dX9_init_174 (by decide) ?_
  refine ac_icmp_ge (tgt := 191) C2 dX9_init_175 rfl (fun h_175 => ?_) (fun h_175 => ?_)
  · have ei : i = 4 := by omega
    subst ei
    refine ac_aload_n C2 dX9_init_191 rfl rfl ?_
    refine ac_callV C2 cl_RX9_76 (m_X9_start (m := 0) (n := 2) (p := 7) sh9 (by decide) (by decide) Pr7 (by rw [upA_k (by decide)]; rfl) (by rw [upA_k (by decide)]; rfl)) (by decide) rfl (show SM0[0]? = _ from rfl) rfl rfl (Nat.le_of_ble_eq_true rfl) (by decide) dX9_init_192 (ac_kV (fun M2 h2 => ?_))
    refine ac_cret C r (Nat.le_refl _) (Nat.le_refl _) (fun hO => ⟨fun k => ([h0, q1, q2, q3, q4, q5, q6, q7, q8, q9, q10, q11, q12, q13, q14, q15, q16, q17, q18] : List Nat).getD k 0, M2, rfl, rfl, hO, ?_⟩) dX9_init_195
    obtain ⟨hA, hs, hj, h6, h13, h15⟩ := h2
    have e : ∀ k j, k ≠ 0 → k ≠ 1 → k ≠ 2 → k ≠ 3 → k ≠ 15 → k ≠ 16 → M2 k j = 0 := fun k j z0 z1 z2 z3 z4 z5 => by
      rw [hs k (by simp; omega), upA_k z5]
      unfold M9i
      rw [if_neg z0]
    have e11 : M2 0 11 = 0 := by
      rw [hj 11 (by decide) (by decide) (by decide), upA_k (by decide)]
      rfl
    have e16 : ∀ k, 0 ≤ k → k < 4 → M2 16 k = -1 := fun k z0 z1 => by
      rw [hs 16 (by simp), upA_s, if_pos ⟨z0, z1⟩]
    refine ⟨hA, ⟨h6, ⟨Int.le_refl 0, by show (0 : Int) ≤ 8; decide⟩, fun i z0 z1 => absurd (show i < 0 from z1) (by omega)⟩, MRd.no h13, ⟨⟨fun j z0 z1 => ⟨h15 j z0 (by omega), Int.le_refl 0, by show (0 : Int) < 7; decide⟩, fun _ _ _ => rfl⟩, fun j z0 z1 => h15 j (by omega) z1⟩, ⟨e11, ⟨Int.le_refl 0, by show (0 : Int) ≤ 80; decide⟩, fun i z0 z1 => absurd (show i < 0 from z1) (by omega)⟩, fun k z0 z1 => ⟨e16 k z0 z1, e 17 k (by decide) (by decide) (by decide) (by decide) (by decide) (by decide), ⟨by show (-1 : Int) ≤ -1; decide, by show (-1 : Int) ≤ 2; decide⟩, ⟨Int.le_refl 0, by show (0 : Int) ≤ 90; decide⟩, fun i _ _ => ⟨e 18 _ (by decide) (by decide) (by decide) (by decide) (by decide) (by decide), by show (-2147483648 : Int) ≤ 0; decide, by show (0 : Int) ≤ 2147483647; decide⟩⟩⟩
  · refine ac_aload_n C2 dX9_init_178 rfl rfl ?_
    refine ac_getP C2 (T := TX9) (j := 23) (ab_inws inX9 goX9) rfl (by decide) gw792 (show SM0[0]? = _ from rfl) (show _ = some (some 16) from rfl) dX9_init_179 ?_
    refine ac_iload_n C2 dX9_init_182 rfl rfl ?_
    refine ac_iconst C2 dX9_init_183 (by decide) ?_
    refine ac_iastore C2 (show SM0[16]? = some (sA 0 4) from rfl) (by omega) (by omega) dX9_init_184 ?_
    refine ac_iinc1 (lv := []) C2 rfl dX9_init_185 (by omega) ?_
    refine ac_goto (tgt := 173) C2 dX9_init_188 rfl ?_
    refine ac_mem (M2 := upA M9i 16 (fun j => if 0 ≤ j ∧ j < (i + 1) then -1 else 0)) ?_ (ih () (by omega) (by omega))
    rw [up_upA]
    exact upA_ext (fun j => by
      by_cases q1 : j = i
      · rw [if_pos q1, if_pos (by omega)]
      · rw [if_neg q1]
        by_cases q2 : 0 ≤ j ∧ j < i
        · rw [if_pos q2, if_pos (by omega)]
        · rw [if_neg q2, if_neg (by omega)])
