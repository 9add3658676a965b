/-! ===== the constructors of the parts ===== -/
theorem gwOI : ab_gw (.instanceMethod objectInit) := ⟨by decide +kernel, by decide +kernel⟩
theorem gwOC : ab_gw (.code objectInit ⟨#[0xb1]⟩ 1 none) := ⟨by decide +kernel, by decide +kernel⟩
theorem gwAI : ab_gw (.arrayClass .int) := ⟨by decide +kernel, by decide +kernel⟩
theorem gwAZ : ab_gw (.arrayClass .boolean) := ⟨by decide +kernel, by decide +kernel⟩
theorem gwAJ : ab_gw (.arrayClass .long) := ⟨by decide +kernel, by decide +kernel⟩
abbrev rc7 : Room := { frames := 1, cells := 1, slots := 80, locals := 20 }
set_option maxRecDepth 100000 in
set_option maxHeartbeats 4000000 in
theorem k_X7 {D : va_G} {cA : Nat → ClassId} : Ctor yX7_init cX7_init 1 rc7 D cA 1 80 7 [.null, .int 0] [] (fun (h0 : Nat) (w1 : va_W) => ∃ q1 : Nat, w1 = [(h0, .inr (7, [.ref q1, .int 0])), (q1, .inl (cA 0, 80, .inl (fun _ => 0)))]) := by
  refine cj_intro (lv := fun h0 => [(0, .ref h0)]) (by decide +kernel) rfl (fun _ => rfl) (fun _ => Nat.le_of_ble_eq_true rfl) ?_
  intro h0 K hKD hKA hnL C hk r
  have C : Cx K cX7_init RX7 rc7 := C
  subst hKD
  subst hKA
  refine cj_aload 0 C dX7_init_0 rfl rfl ?_
  refine cj_obj C ⟨by decide +kernel, by decide +kernel⟩ gwOI gwOC dX7_init_1 (by decide) (by decide) ?_
  refine cj_aload 0 C dX7_init_4 rfl rfl ?_
  refine cj_bipush C dX7_init_5 (by decide +kernel) ?_
  refine cj_newa (n := 80) (N := 80) (ti := 0) (a0 := (80, .inl (fun _ => 0))) C gwAI rfl (fun _ => rfl) (fun _ _ z => z) (fun _ => rfl) (by decide +kernel) (by decide +kernel) (by decide) (by decide) (by decide) dX7_init_7 (fun q1 => ?_)
  show CJ K 1 80 [(h0, .inr (7, [.null, .int 0])), (q1, .inl (kcA K 0, 80, .inl (fun _ => 0)))] 9 [(0, .ref h0)] [.ref q1, .ref h0]
  refine cj_putF (ci := 7) (T := TX7) (N := 2) (j := 0) (ty := .array .int) 0 C hk (ab_inws inX7 goX7) rfl (by decide) ⟨by decide +kernel, by decide +kernel⟩ tyX7_ok nmX7 rfl rfl (by decide +kernel) rfl rfl rfl (Nat.le_of_ble_eq_true rfl) dX7_init_9 ?_
  show CJ K 1 80 [(h0, .inr (7, [.ref q1, .int 0])), (q1, .inl (kcA K 0, 80, .inl (fun _ => 0)))] 12 [(0, .ref h0)] []
  exact cj_ret C r (Nat.le_refl _) (Nat.le_refl _) ⟨q1, rfl⟩ dX7_init_12
abbrev rc6 : Room := { frames := 1, cells := 1, slots := 364, locals := 20 }
set_option maxRecDepth 100000 in
set_option maxHeartbeats 4000000 in
theorem k_X6 {D : va_G} {cA : Nat → ClassId} {a1 : Nat} : Ctor yX6_init cX6_init 2 rc6 D cA 1 364 6 [.null, .null] [.ref a1] (fun (h0 : Nat) (w1 : va_W) => ∃ q1 : Nat, w1 = [(h0, .inr (6, [.ref a1, .ref q1])), (q1, .inl (cA 0, 364, .inl (fun _ => 0)))]) := by
  refine cj_intro (lv := fun h0 => [(0, .ref h0), (1, .ref a1)]) (by decide +kernel) rfl (fun _ => rfl) (fun _ => Nat.le_of_ble_eq_true rfl) ?_
  intro h0 K hKD hKA hnL C hk r
  have C : Cx K cX6_init RX6 rc6 := C
  subst hKD
  subst hKA
  refine cj_aload 0 C dX6_init_0 rfl rfl ?_
  refine cj_obj C ⟨by decide +kernel, by decide +kernel⟩ gwOI gwOC dX6_init_1 (by decide) (by decide) ?_
  refine cj_aload 0 C dX6_init_4 rfl rfl ?_
  refine cj_sipush C dX6_init_5 (by decide +kernel) ?_
  refine cj_newa (n := 364) (N := 364) (ti := 0) (a0 := (364, .inl (fun _ => 0))) C gwAI rfl (fun _ => rfl) (fun _ _ z => z) (fun _ => rfl) (by decide +kernel) (by decide +kernel) (by decide) (by decide) (by decide) dX6_init_8 (fun q1 => ?_)
  show CJ K 1 364 [(h0, .inr (6, [.null, .null])), (q1, .inl (kcA K 0, 364, .inl (fun _ => 0)))] 10 [(0, .ref h0), (1, .ref a1)] [.ref q1, .ref h0]
  refine cj_putF (ci := 6) (T := TX6) (N := 2) (j := 1) (ty := .array .int) 0 C hk (ab_inws inX6 goX6) rfl (by decide) ⟨by decide +kernel, by decide +kernel⟩ tyX6_ok nmX6 rfl rfl (by decide +kernel) rfl rfl rfl (Nat.le_of_ble_eq_true rfl) dX6_init_10 ?_
  show CJ K 1 364 [(h0, .inr (6, [.null, .ref q1])), (q1, .inl (kcA K 0, 364, .inl (fun _ => 0)))] 13 [(0, .ref h0), (1, .ref a1)] []
  refine cj_aload 0 C dX6_init_13 rfl rfl ?_
  refine cj_aload 1 C dX6_init_14 rfl rfl ?_
  refine cj_putF (ci := 6) (T := TX6) (N := 2) (j := 0) (ty := .object "WordLaws$Alphabet") 0 C hk (ab_inws inX6 goX6) rfl (by decide) ⟨by decide +kernel, by decide +kernel⟩ tyX6_ok nmX6 rfl rfl (by decide +kernel) rfl rfl rfl (Nat.le_of_ble_eq_true rfl) dX6_init_15 ?_
  show CJ K 1 364 [(h0, .inr (6, [.ref a1, .ref q1])), (q1, .inl (kcA K 0, 364, .inl (fun _ => 0)))] 18 [(0, .ref h0), (1, .ref a1)] []
  exact cj_ret C r (Nat.le_refl _) (Nat.le_refl _) ⟨q1, rfl⟩ dX6_init_18
abbrev rc3 : Room := { frames := 1, cells := 2, slots := 738, locals := 20 }
set_option maxRecDepth 100000 in
set_option maxHeartbeats 4000000 in
theorem k_X3 {D : va_G} {cA : Nat → ClassId} : Ctor yX3_init cX3_init 1 rc3 D cA 2 738 3 [.null, .null, .int 0] [] (fun (h0 : Nat) (w1 : va_W) => ∃ q1 q2 : Nat, w1 = [(h0, .inr (3, [.ref q1, .ref q2, .int 0])), (q1, .inl (cA 0, 9, .inl (fun _ => 0))), (q2, .inl (cA 0, 729, .inl (fun _ => 0)))]) := by
  refine cj_intro (lv := fun h0 => [(0, .ref h0)]) (by decide +kernel) rfl (fun _ => rfl) (fun _ => Nat.le_of_ble_eq_true rfl) ?_
  intro h0 K hKD hKA hnL C hk r
  have C : Cx K cX3_init RX3 rc3 := C
  subst hKD
  subst hKA
  refine cj_aload 0 C dX3_init_0 rfl rfl ?_
  refine cj_obj C ⟨by decide +kernel, by decide +kernel⟩ gwOI gwOC dX3_init_1 (by decide) (by decide) ?_
  refine cj_aload 0 C dX3_init_4 rfl rfl ?_
  refine cj_bipush C dX3_init_5 (by decide +kernel) ?_
  refine cj_newa (n := 9) (N := 9) (ti := 0) (a0 := (9, .inl (fun _ => 0))) C gwAI rfl (fun _ => rfl) (fun _ _ z => z) (fun _ => rfl) (by decide +kernel) (by decide +kernel) (by decide) (by decide) (by decide) dX3_init_7 (fun q1 => ?_)
  show CJ K 1 9 [(h0, .inr (3, [.null, .null, .int 0])), (q1, .inl (kcA K 0, 9, .inl (fun _ => 0)))] 9 [(0, .ref h0)] [.ref q1, .ref h0]
  refine cj_putF (ci := 3) (T := TX3) (N := 3) (j := 0) (ty := .array .int) 0 C hk (ab_inws inX3 goX3) rfl (by decide) ⟨by decide +kernel, by decide +kernel⟩ tyX3_ok nmX3 rfl rfl (by decide +kernel) rfl rfl rfl (Nat.le_of_ble_eq_true rfl) dX3_init_9 ?_
  show CJ K 1 9 [(h0, .inr (3, [.ref q1, .null, .int 0])), (q1, .inl (kcA K 0, 9, .inl (fun _ => 0)))] 12 [(0, .ref h0)] []
  refine cj_aload 0 C dX3_init_12 rfl rfl ?_
  refine cj_sipush C dX3_init_13 (by decide +kernel) ?_
  refine cj_newa (n := 729) (N := 729) (ti := 0) (a0 := (729, .inl (fun _ => 0))) C gwAI rfl (fun _ => rfl) (fun _ _ z => z) (fun _ => rfl) (by decide +kernel) (by decide +kernel) (by decide) (by decide) (by decide) dX3_init_16 (fun q2 => ?_)
  show CJ K 2 738 [(h0, .inr (3, [.ref q1, .null, .int 0])), (q1, .inl (kcA K 0, 9, .inl (fun _ => 0))), (q2, .inl (kcA K 0, 729, .inl (fun _ => 0)))] 18 [(0, .ref h0)] [.ref q2, .ref h0]
  refine cj_putF (ci := 3) (T := TX3) (N := 3) (j := 1) (ty := .array .int) 0 C hk (ab_inws inX3 goX3) rfl (by decide) ⟨by decide +kernel, by decide +kernel⟩ tyX3_ok nmX3 rfl rfl (by decide +kernel) rfl rfl rfl (Nat.le_of_ble_eq_true rfl) dX3_init_18 ?_
  show CJ K 2 738 [(h0, .inr (3, [.ref q1, .ref q2, .int 0])), (q1, .inl (kcA K 0, 9, .inl (fun _ => 0))), (q2, .inl (kcA K 0, 729, .inl (fun _ => 0)))] 21 [(0, .ref h0)] []
  exact cj_ret C r (Nat.le_refl _) (Nat.le_refl _) ⟨q1, q2, rfl⟩ dX3_init_21
abbrev rc5 : Room := { frames := 1, cells := 1, slots := 90, locals := 20 }
set_option maxRecDepth 100000 in
set_option maxHeartbeats 4000000 in
theorem k_X5 {D : va_G} {cA : Nat → ClassId} : Ctor yX5_init cX5_init 1 rc5 D cA 1 90 5 [.null, .int 0, .int 0] [] (fun (h0 : Nat) (w1 : va_W) => ∃ q1 : Nat, w1 = [(h0, .inr (5, [.ref q1, .int (Int32.ofInt (-1)), .int 0])), (q1, .inl (cA 2, 90, .inr (.inl (fun _ => 0))))]) := by
  refine cj_intro (lv := fun h0 => [(0, .ref h0)]) (by decide +kernel) rfl (fun _ => rfl) (fun _ => Nat.le_of_ble_eq_true rfl) ?_
  intro h0 K hKD hKA hnL C hk r
  have C : Cx K cX5_init RX5 rc5 := C
  subst hKD
  subst hKA
  refine cj_aload 0 C dX5_init_0 rfl rfl ?_
  refine cj_obj C ⟨by decide +kernel, by decide +kernel⟩ gwOI gwOC dX5_init_1 (by decide) (by decide) ?_
  refine cj_aload 0 C dX5_init_4 rfl rfl ?_
  refine cj_bipush C dX5_init_5 (by decide +kernel) ?_
  refine cj_newa (n := 90) (N := 90) (ti := 2) (a0 := (90, .inr (.inl (fun _ => 0)))) C gwAJ rfl (fun _ => rfl) (fun _ _ z => z) (fun _ => rfl) (by decide +kernel) (by decide +kernel) (by decide) (by decide) (by decide) dX5_init_7 (fun q1 => ?_)
  show CJ K 1 90 [(h0, .inr (5, [.null, .int 0, .int 0])), (q1, .inl (kcA K 2, 90, .inr (.inl (fun _ => 0))))] 9 [(0, .ref h0)] [.ref q1, .ref h0]
  refine cj_putF (ci := 5) (T := TX5) (N := 3) (j := 0) (ty := .array .long) 0 C hk (ab_inws inX5 goX5) rfl (by decide) ⟨by decide +kernel, by decide +kernel⟩ tyX5_ok nmX5 rfl rfl (by decide +kernel) rfl rfl rfl (Nat.le_of_ble_eq_true rfl) dX5_init_9 ?_
  show CJ K 1 90 [(h0, .inr (5, [.ref q1, .int 0, .int 0])), (q1, .inl (kcA K 2, 90, .inr (.inl (fun _ => 0))))] 12 [(0, .ref h0)] []
  refine cj_aload 0 C dX5_init_12 rfl rfl ?_
  refine cj_iconst C dX5_init_13 ?_
  refine cj_put (ci := 5) (T := TX5) (N := 3) (j := 1) (ty := .int) 0 C (ab_inws inX5 goX5) rfl (by decide) ⟨by decide +kernel, by decide +kernel⟩ tyX5_ok nmX5 rfl (by decide +kernel) rfl rfl rfl (Nat.le_of_ble_eq_true rfl) dX5_init_14 ?_
  show CJ K 1 90 [(h0, .inr (5, [.ref q1, .int (Int32.ofInt (-1)), .int 0])), (q1, .inl (kcA K 2, 90, .inr (.inl (fun _ => 0))))] 17 [(0, .ref h0)] []
  exact cj_ret C r (Nat.le_refl _) (Nat.le_refl _) ⟨q1, rfl⟩ dX5_init_17
abbrev rc4 : Room := { frames := 1, cells := 0, slots := 0, locals := 20 }
set_option maxRecDepth 100000 in
set_option maxHeartbeats 4000000 in
theorem k_X4 {D : va_G} {cA : Nat → ClassId} {a1 : Nat} : Ctor yX4_init cX4_init 2 rc4 D cA 0 0 4 [.null, .int 0, .int 0, .int 0, .int 0, .int 0, .int 0] [.ref a1] (fun (h0 : Nat) (w1 : va_W) => w1 = [(h0, .inr (4, [.ref a1, .int 0, .int 0, .int 0, .int 0, .int 0, .int 0]))]) := by
  refine cj_intro (lv := fun h0 => [(0, .ref h0), (1, .ref a1)]) (by decide +kernel) rfl (fun _ => rfl) (fun _ => Nat.le_of_ble_eq_true rfl) ?_
  intro h0 K hKD hKA hnL C hk r
  have C : Cx K cX4_init RX4 rc4 := C
  subst hKD
  subst hKA
  refine cj_aload 0 C dX4_init_0 rfl rfl ?_
  refine cj_obj C ⟨by decide +kernel, by decide +kernel⟩ gwOI gwOC dX4_init_1 (by decide) (by decide) ?_
  refine cj_aload 0 C dX4_init_4 rfl rfl ?_
  refine cj_aload 1 C dX4_init_5 rfl rfl ?_
  refine cj_putF (ci := 4) (T := TX4) (N := 7) (j := 0) (ty := .object "WordLaws$Alphabet") 0 C hk (ab_inws inX4 goX4) rfl (by decide) ⟨by decide +kernel, by decide +kernel⟩ tyX4_ok nmX4 rfl rfl (by decide +kernel) rfl rfl rfl (Nat.le_of_ble_eq_true rfl) dX4_init_6 ?_
  show CJ K 0 0 [(h0, .inr (4, [.ref a1, .int 0, .int 0, .int 0, .int 0, .int 0, .int 0]))] 9 [(0, .ref h0), (1, .ref a1)] []
  exact cj_ret C r (Nat.le_refl _) (Nat.le_refl _) rfl dX4_init_9
abbrev rc2 : Room := { frames := 1, cells := 3, slots := 6723, locals := 20 }
set_option maxRecDepth 100000 in
set_option maxHeartbeats 4000000 in
theorem k_X2 {D : va_G} {cA : Nat → ClassId} {a1 : Nat} : Ctor yX2_init cX2_init 2 rc2 D cA 3 6723 2 [.null, .null, .null, .null, .int 0, .int 0] [.ref a1] (fun (h0 : Nat) (w1 : va_W) => ∃ q1 q2 q3 : Nat, w1 = [(h0, .inr (2, [.ref a1, .ref q1, .ref q2, .ref q3, .int 0, .int 0])), (q1, .inl (cA 0, 6561, .inl (fun _ => 0))), (q2, .inl (cA 1, 81, .inl (fun _ => 0))), (q3, .inl (cA 0, 81, .inl (fun _ => 0)))]) := by
  refine cj_intro (lv := fun h0 => [(0, .ref h0), (1, .ref a1)]) (by decide +kernel) rfl (fun _ => rfl) (fun _ => Nat.le_of_ble_eq_true rfl) ?_
  intro h0 K hKD hKA hnL C hk r
  have C : Cx K cX2_init RX2 rc2 := C
  subst hKD
  subst hKA
  refine cj_aload 0 C dX2_init_0 rfl rfl ?_
  refine cj_obj C ⟨by decide +kernel, by decide +kernel⟩ gwOI gwOC dX2_init_1 (by decide) (by decide) ?_
  refine cj_aload 0 C dX2_init_4 rfl rfl ?_
  refine cj_sipush C dX2_init_5 (by decide +kernel) ?_
  refine cj_newa (n := 6561) (N := 6561) (ti := 0) (a0 := (6561, .inl (fun _ => 0))) C gwAI rfl (fun _ => rfl) (fun _ _ z => z) (fun _ => rfl) (by decide +kernel) (by decide +kernel) (by decide) (by decide) (by decide) dX2_init_8 (fun q1 => ?_)
  show CJ K 1 6561 [(h0, .inr (2, [.null, .null, .null, .null, .int 0, .int 0])), (q1, .inl (kcA K 0, 6561, .inl (fun _ => 0)))] 10 [(0, .ref h0), (1, .ref a1)] [.ref q1, .ref h0]
  refine cj_putF (ci := 2) (T := TX2) (N := 6) (j := 1) (ty := .array .int) 0 C hk (ab_inws inX2 goX2) rfl (by decide) ⟨by decide +kernel, by decide +kernel⟩ tyX2_ok nmX2 rfl rfl (by decide +kernel) rfl rfl rfl (Nat.le_of_ble_eq_true rfl) dX2_init_10 ?_
  show CJ K 1 6561 [(h0, .inr (2, [.null, .ref q1, .null, .null, .int 0, .int 0])), (q1, .inl (kcA K 0, 6561, .inl (fun _ => 0)))] 13 [(0, .ref h0), (1, .ref a1)] []
  refine cj_aload 0 C dX2_init_13 rfl rfl ?_
  refine cj_bipush C dX2_init_14 (by decide +kernel) ?_
  refine cj_newa (n := 81) (N := 81) (ti := 1) (a0 := (81, .inl (fun _ => 0))) C gwAZ rfl (fun _ => rfl) (fun _ _ z => z) (fun _ => rfl) (by decide +kernel) (by decide +kernel) (by decide) (by decide) (by decide) dX2_init_16 (fun q2 => ?_)
  show CJ K 2 6642 [(h0, .inr (2, [.null, .ref q1, .null, .null, .int 0, .int 0])), (q1, .inl (kcA K 0, 6561, .inl (fun _ => 0))), (q2, .inl (kcA K 1, 81, .inl (fun _ => 0)))] 18 [(0, .ref h0), (1, .ref a1)] [.ref q2, .ref h0]
  refine cj_putF (ci := 2) (T := TX2) (N := 6) (j := 2) (ty := .array .boolean) 0 C hk (ab_inws inX2 goX2) rfl (by decide) ⟨by decide +kernel, by decide +kernel⟩ tyX2_ok nmX2 rfl rfl (by decide +kernel) rfl rfl rfl (Nat.le_of_ble_eq_true rfl) dX2_init_18 ?_
  show CJ K 2 6642 [(h0, .inr (2, [.null, .ref q1, .ref q2, .null, .int 0, .int 0])), (q1, .inl (kcA K 0, 6561, .inl (fun _ => 0))), (q2, .inl (kcA K 1, 81, .inl (fun _ => 0)))] 21 [(0, .ref h0), (1, .ref a1)] []
  refine cj_aload 0 C dX2_init_21 rfl rfl ?_
  refine cj_bipush C dX2_init_22 (by decide +kernel) ?_
  refine cj_newa (n := 81) (N := 81) (ti := 0) (a0 := (81, .inl (fun _ => 0))) C gwAI rfl (fun _ => rfl) (fun _ _ z => z) (fun _ => rfl) (by decide +kernel) (by decide +kernel) (by decide) (by decide) (by decide) dX2_init_24 (fun q3 => ?_)
  show CJ K 3 6723 [(h0, .inr (2, [.null, .ref q1, .ref q2, .null, .int 0, .int 0])), (q1, .inl (kcA K 0, 6561, .inl (fun _ => 0))), (q2, .inl (kcA K 1, 81, .inl (fun _ => 0))), (q3, .inl (kcA K 0, 81, .inl (fun _ => 0)))] 26 [(0, .ref h0), (1, .ref a1)] [.ref q3, .ref h0]
  refine cj_putF (ci := 2) (T := TX2) (N := 6) (j := 3) (ty := .array .int) 0 C hk (ab_inws inX2 goX2) rfl (by decide) ⟨by decide +kernel, by decide +kernel⟩ tyX2_ok nmX2 rfl rfl (by decide +kernel) rfl rfl rfl (Nat.le_of_ble_eq_true rfl) dX2_init_26 ?_
  show CJ K 3 6723 [(h0, .inr (2, [.null, .ref q1, .ref q2, .ref q3, .int 0, .int 0])), (q1, .inl (kcA K 0, 6561, .inl (fun _ => 0))), (q2, .inl (kcA K 1, 81, .inl (fun _ => 0))), (q3, .inl (kcA K 0, 81, .inl (fun _ => 0)))] 29 [(0, .ref h0), (1, .ref a1)] []
  refine cj_aload 0 C dX2_init_29 rfl rfl ?_
  refine cj_aload 1 C dX2_init_30 rfl rfl ?_
  refine cj_putF (ci := 2) (T := TX2) (N := 6) (j := 0) (ty := .object "WordLaws$Alphabet") 0 C hk (ab_inws inX2 goX2) rfl (by decide) ⟨by decide +kernel, by decide +kernel⟩ tyX2_ok nmX2 rfl rfl (by decide +kernel) rfl rfl rfl (Nat.le_of_ble_eq_true rfl) dX2_init_31 ?_
  show CJ K 3 6723 [(h0, .inr (2, [.ref a1, .ref q1, .ref q2, .ref q3, .int 0, .int 0])), (q1, .inl (kcA K 0, 6561, .inl (fun _ => 0))), (q2, .inl (kcA K 1, 81, .inl (fun _ => 0))), (q3, .inl (kcA K 0, 81, .inl (fun _ => 0)))] 34 [(0, .ref h0), (1, .ref a1)] []
  exact cj_ret C r (Nat.le_refl _) (Nat.le_refl _) ⟨q1, q2, q3, rfl⟩ dX2_init_34
abbrev rc0 : Room := { frames := 1, cells := 6, slots := 34031, locals := 20 }
set_option maxRecDepth 100000 in
set_option maxHeartbeats 4000000 in
theorem k_X0 {D : va_G} {cA : Nat → ClassId} {a1 a2 : Nat} : Ctor yX0_init cX0_init 3 rc0 D cA 6 34031 0 [.null, .null, .null, .null, .null, .null, .null, .null, .int 0] [.ref a1, .ref a2] (fun (h0 : Nat) (w1 : va_W) => ∃ q1 q2 q3 q4 q5 q6 : Nat, w1 = [(h0, .inr (0, [.ref a1, .ref a2, .ref q1, .ref q2, .ref q3, .ref q4, .ref q5, .ref q6, .int (Int32.ofInt (-1))])), (q1, .inl (cA 0, 33397, .inl (fun _ => 0))), (q2, .inl (cA 1, 364, .inl (fun _ => 0))), (q3, .inl (cA 0, 9, .inl (fun _ => 0))), (q4, .inl (cA 0, 9, .inl (fun _ => 0))), (q5, .inl (cA 0, 9, .inl (fun _ => 0))), (q6, .inl (cA 0, 243, .inl (fun _ => 0)))]) := by
  refine cj_intro (lv := fun h0 => [(0, .ref h0), (1, .ref a1), (2, .ref a2)]) (by decide +kernel) rfl (fun _ => rfl) (fun _ => Nat.le_of_ble_eq_true rfl) ?_
  intro h0 K hKD hKA hnL C hk r
  have C : Cx K cX0_init RX0 rc0 := C
  subst hKD
  subst hKA
  refine cj_aload 0 C dX0_init_0 rfl rfl ?_
  refine cj_obj C ⟨by decide +kernel, by decide +kernel⟩ gwOI gwOC dX0_init_1 (by decide) (by decide) ?_
  refine cj_aload 0 C dX0_init_4 rfl rfl ?_
  refine cj_ldc (n := 33397) C gw798 dX0_init_5 (by decide +kernel) ?_
  refine cj_newa (n := 33397) (N := 33397) (ti := 0) (a0 := (33397, .inl (fun _ => 0))) C gwAI rfl (fun _ => rfl) (fun _ _ z => z) (fun _ => rfl) (by decide +kernel) (by decide +kernel) (by decide) (by decide) (by decide) dX0_init_7 (fun q1 => ?_)
  show CJ K 1 33397 [(h0, .inr (0, [.null, .null, .null, .null, .null, .null, .null, .null, .int 0])), (q1, .inl (kcA K 0, 33397, .inl (fun _ => 0)))] 9 [(0, .ref h0), (1, .ref a1), (2, .ref a2)] [.ref q1, .ref h0]
  refine cj_putF (ci := 0) (T := TX0) (N := 9) (j := 2) (ty := .array .int) 0 C hk (ab_inws inX0 goX0) rfl (by decide) ⟨by decide +kernel, by decide +kernel⟩ tyX0_ok nmX0 rfl rfl (by decide +kernel) rfl rfl rfl (Nat.le_of_ble_eq_true rfl) dX0_init_9 ?_
  show CJ K 1 33397 [(h0, .inr (0, [.null, .null, .ref q1, .null, .null, .null, .null, .null, .int 0])), (q1, .inl (kcA K 0, 33397, .inl (fun _ => 0)))] 12 [(0, .ref h0), (1, .ref a1), (2, .ref a2)] []
  refine cj_aload 0 C dX0_init_12 rfl rfl ?_
  refine cj_sipush C dX0_init_13 (by decide +kernel) ?_
  refine cj_newa (n := 364) (N := 364) (ti := 1) (a0 := (364, .inl (fun _ => 0))) C gwAZ rfl (fun _ => rfl) (fun _ _ z => z) (fun _ => rfl) (by decide +kernel) (by decide +kernel) (by decide) (by decide) (by decide) dX0_init_16 (fun q2 => ?_)
  show CJ K 2 33761 [(h0, .inr (0, [.null, .null, .ref q1, .null, .null, .null, .null, .null, .int 0])), (q1, .inl (kcA K 0, 33397, .inl (fun _ => 0))), (q2, .inl (kcA K 1, 364, .inl (fun _ => 0)))] 18 [(0, .ref h0), (1, .ref a1), (2, .ref a2)] [.ref q2, .ref h0]
  refine cj_putF (ci := 0) (T := TX0) (N := 9) (j := 3) (ty := .array .boolean) 0 C hk (ab_inws inX0 goX0) rfl (by decide) ⟨by decide +kernel, by decide +kernel⟩ tyX0_ok nmX0 rfl rfl (by decide +kernel) rfl rfl rfl (Nat.le_of_ble_eq_true rfl) dX0_init_18 ?_
  show CJ K 2 33761 [(h0, .inr (0, [.null, .null, .ref q1, .ref q2, .null, .null, .null, .null, .int 0])), (q1, .inl (kcA K 0, 33397, .inl (fun _ => 0))), (q2, .inl (kcA K 1, 364, .inl (fun _ => 0)))] 21 [(0, .ref h0), (1, .ref a1), (2, .ref a2)] []
  refine cj_aload 0 C dX0_init_21 rfl rfl ?_
  refine cj_bipush C dX0_init_22 (by decide +kernel) ?_
  refine cj_newa (n := 9) (N := 9) (ti := 0) (a0 := (9, .inl (fun _ => 0))) C gwAI rfl (fun _ => rfl) (fun _ _ z => z) (fun _ => rfl) (by decide +kernel) (by decide +kernel) (by decide) (by decide) (by decide) dX0_init_24 (fun q3 => ?_)
  show CJ K 3 33770 [(h0, .inr (0, [.null, .null, .ref q1, .ref q2, .null, .null, .null, .null, .int 0])), (q1, .inl (kcA K 0, 33397, .inl (fun _ => 0))), (q2, .inl (kcA K 1, 364, .inl (fun _ => 0))), (q3, .inl (kcA K 0, 9, .inl (fun _ => 0)))] 26 [(0, .ref h0), (1, .ref a1), (2, .ref a2)] [.ref q3, .ref h0]
  refine cj_putF (ci := 0) (T := TX0) (N := 9) (j := 4) (ty := .array .int) 0 C hk (ab_inws inX0 goX0) rfl (by decide) ⟨by decide +kernel, by decide +kernel⟩ tyX0_ok nmX0 rfl rfl (by decide +kernel) rfl rfl rfl (Nat.le_of_ble_eq_true rfl) dX0_init_26 ?_
  show CJ K 3 33770 [(h0, .inr (0, [.null, .null, .ref q1, .ref q2, .ref q3, .null, .null, .null, .int 0])), (q1, .inl (kcA K 0, 33397, .inl (fun _ => 0))), (q2, .inl (kcA K 1, 364, .inl (fun _ => 0))), (q3, .inl (kcA K 0, 9, .inl (fun _ => 0)))] 29 [(0, .ref h0), (1, .ref a1), (2, .ref a2)] []
  refine cj_aload 0 C dX0_init_29 rfl rfl ?_
  refine cj_bipush C dX0_init_30 (by decide +kernel) ?_
  refine cj_newa (n := 9) (N := 9) (ti := 0) (a0 := (9, .inl (fun _ => 0))) C gwAI rfl (fun _ => rfl) (fun _ _ z => z) (fun _ => rfl) (by decide +kernel) (by decide +kernel) (by decide) (by decide) (by decide) dX0_init_32 (fun q4 => ?_)
  show CJ K 4 33779 [(h0, .inr (0, [.null, .null, .ref q1, .ref q2, .ref q3, .null, .null, .null, .int 0])), (q1, .inl (kcA K 0, 33397, .inl (fun _ => 0))), (q2, .inl (kcA K 1, 364, .inl (fun _ => 0))), (q3, .inl (kcA K 0, 9, .inl (fun _ => 0))), (q4, .inl (kcA K 0, 9, .inl (fun _ => 0)))] 34 [(0, .ref h0), (1, .ref a1), (2, .ref a2)] [.ref q4, .ref h0]
  refine cj_putF (ci := 0) (T := TX0) (N := 9) (j := 5) (ty := .array .int) 0 C hk (ab_inws inX0 goX0) rfl (by decide) ⟨by decide +kernel, by decide +kernel⟩ tyX0_ok nmX0 rfl rfl (by decide +kernel) rfl rfl rfl (Nat.le_of_ble_eq_true rfl) dX0_init_34 ?_
  show CJ K 4 33779 [(h0, .inr (0, [.null, .null, .ref q1, .ref q2, .ref q3, .ref q4, .null, .null, .int 0])), (q1, .inl (kcA K 0, 33397, .inl (fun _ => 0))), (q2, .inl (kcA K 1, 364, .inl (fun _ => 0))), (q3, .inl (kcA K 0, 9, .inl (fun _ => 0))), (q4, .inl (kcA K 0, 9, .inl (fun _ => 0)))] 37 [(0, .ref h0), (1, .ref a1), (2, .ref a2)] []
  refine cj_aload 0 C dX0_init_37 rfl rfl ?_
  refine cj_bipush C dX0_init_38 (by decide +kernel) ?_
  refine cj_newa (n := 9) (N := 9) (ti := 0) (a0 := (9, .inl (fun _ => 0))) C gwAI rfl (fun _ => rfl) (fun _ _ z => z) (fun _ => rfl) (by decide +kernel) (by decide +kernel) (by decide) (by decide) (by decide) dX0_init_40 (fun q5 => ?_)
  show CJ K 5 33788 [(h0, .inr (0, [.null, .null, .ref q1, .ref q2, .ref q3, .ref q4, .null, .null, .int 0])), (q1, .inl (kcA K 0, 33397, .inl (fun _ => 0))), (q2, .inl (kcA K 1, 364, .inl (fun _ => 0))), (q3, .inl (kcA K 0, 9, .inl (fun _ => 0))), (q4, .inl (kcA K 0, 9, .inl (fun _ => 0))), (q5, .inl (kcA K 0, 9, .inl (fun _ => 0)))] 42 [(0, .ref h0), (1, .ref a1), (2, .ref a2)] [.ref q5, .ref h0]
  refine cj_putF (ci := 0) (T := TX0) (N := 9) (j := 6) (ty := .array .int) 0 C hk (ab_inws inX0 goX0) rfl (by decide) ⟨by decide +kernel, by decide +kernel⟩ tyX0_ok nmX0 rfl rfl (by decide +kernel) rfl rfl rfl (Nat.le_of_ble_eq_true rfl) dX0_init_42 ?_
  show CJ K 5 33788 [(h0, .inr (0, [.null, .null, .ref q1, .ref q2, .ref q3, .ref q4, .ref q5, .null, .int 0])), (q1, .inl (kcA K 0, 33397, .inl (fun _ => 0))), (q2, .inl (kcA K 1, 364, .inl (fun _ => 0))), (q3, .inl (kcA K 0, 9, .inl (fun _ => 0))), (q4, .inl (kcA K 0, 9, .inl (fun _ => 0))), (q5, .inl (kcA K 0, 9, .inl (fun _ => 0)))] 45 [(0, .ref h0), (1, .ref a1), (2, .ref a2)] []
  refine cj_aload 0 C dX0_init_45 rfl rfl ?_
  refine cj_sipush C dX0_init_46 (by decide +kernel) ?_
  refine cj_newa (n := 243) (N := 243) (ti := 0) (a0 := (243, .inl (fun _ => 0))) C gwAI rfl (fun _ => rfl) (fun _ _ z => z) (fun _ => rfl) (by decide +kernel) (by decide +kernel) (by decide) (by decide) (by decide) dX0_init_49 (fun q6 => ?_)
  show CJ K 6 34031 [(h0, .inr (0, [.null, .null, .ref q1, .ref q2, .ref q3, .ref q4, .ref q5, .null, .int 0])), (q1, .inl (kcA K 0, 33397, .inl (fun _ => 0))), (q2, .inl (kcA K 1, 364, .inl (fun _ => 0))), (q3, .inl (kcA K 0, 9, .inl (fun _ => 0))), (q4, .inl (kcA K 0, 9, .inl (fun _ => 0))), (q5, .inl (kcA K 0, 9, .inl (fun _ => 0))), (q6, .inl (kcA K 0, 243, .inl (fun _ => 0)))] 51 [(0, .ref h0), (1, .ref a1), (2, .ref a2)] [.ref q6, .ref h0]
  refine cj_putF (ci := 0) (T := TX0) (N := 9) (j := 7) (ty := .array .int) 0 C hk (ab_inws inX0 goX0) rfl (by decide) ⟨by decide +kernel, by decide +kernel⟩ tyX0_ok nmX0 rfl rfl (by decide +kernel) rfl rfl rfl (Nat.le_of_ble_eq_true rfl) dX0_init_51 ?_
  show CJ K 6 34031 [(h0, .inr (0, [.null, .null, .ref q1, .ref q2, .ref q3, .ref q4, .ref q5, .ref q6, .int 0])), (q1, .inl (kcA K 0, 33397, .inl (fun _ => 0))), (q2, .inl (kcA K 1, 364, .inl (fun _ => 0))), (q3, .inl (kcA K 0, 9, .inl (fun _ => 0))), (q4, .inl (kcA K 0, 9, .inl (fun _ => 0))), (q5, .inl (kcA K 0, 9, .inl (fun _ => 0))), (q6, .inl (kcA K 0, 243, .inl (fun _ => 0)))] 54 [(0, .ref h0), (1, .ref a1), (2, .ref a2)] []
  refine cj_aload 0 C dX0_init_54 rfl rfl ?_
  refine cj_iconst C dX0_init_55 ?_
  refine cj_put (ci := 0) (T := TX0) (N := 9) (j := 8) (ty := .int) 0 C (ab_inws inX0 goX0) rfl (by decide) ⟨by decide +kernel, by decide +kernel⟩ tyX0_ok nmX0 rfl (by decide +kernel) rfl rfl rfl (Nat.le_of_ble_eq_true rfl) dX0_init_56 ?_
  show CJ K 6 34031 [(h0, .inr (0, [.null, .null, .ref q1, .ref q2, .ref q3, .ref q4, .ref q5, .ref q6, .int (Int32.ofInt (-1))])), (q1, .inl (kcA K 0, 33397, .inl (fun _ => 0))), (q2, .inl (kcA K 1, 364, .inl (fun _ => 0))), (q3, .inl (kcA K 0, 9, .inl (fun _ => 0))), (q4, .inl (kcA K 0, 9, .inl (fun _ => 0))), (q5, .inl (kcA K 0, 9, .inl (fun _ => 0))), (q6, .inl (kcA K 0, 243, .inl (fun _ => 0)))] 59 [(0, .ref h0), (1, .ref a1), (2, .ref a2)] []
  refine cj_aload 0 C dX0_init_59 rfl rfl ?_
  refine cj_aload 1 C dX0_init_60 rfl rfl ?_
  refine cj_putF (ci := 0) (T := TX0) (N := 9) (j := 0) (ty := .object "WordLaws$Alphabet") 0 C hk (ab_inws inX0 goX0) rfl (by decide) ⟨by decide +kernel, by decide +kernel⟩ tyX0_ok nmX0 rfl rfl (by decide +kernel) rfl rfl rfl (Nat.le_of_ble_eq_true rfl) dX0_init_61 ?_
  show CJ K 6 34031 [(h0, .inr (0, [.ref a1, .null, .ref q1, .ref q2, .ref q3, .ref q4, .ref q5, .ref q6, .int (Int32.ofInt (-1))])), (q1, .inl (kcA K 0, 33397, .inl (fun _ => 0))), (q2, .inl (kcA K 1, 364, .inl (fun _ => 0))), (q3, .inl (kcA K 0, 9, .inl (fun _ => 0))), (q4, .inl (kcA K 0, 9, .inl (fun _ => 0))), (q5, .inl (kcA K 0, 9, .inl (fun _ => 0))), (q6, .inl (kcA K 0, 243, .inl (fun _ => 0)))] 64 [(0, .ref h0), (1, .ref a1), (2, .ref a2)] []
  refine cj_aload 0 C dX0_init_64 rfl rfl ?_
  refine cj_aload 2 C dX0_init_65 rfl rfl ?_
  refine cj_putF (ci := 0) (T := TX0) (N := 9) (j := 1) (ty := .object "WordLaws$LawList") 0 C hk (ab_inws inX0 goX0) rfl (by decide) ⟨by decide +kernel, by decide +kernel⟩ tyX0_ok nmX0 rfl rfl (by decide +kernel) rfl rfl rfl (Nat.le_of_ble_eq_true rfl) dX0_init_66 ?_
  show CJ K 6 34031 [(h0, .inr (0, [.ref a1, .ref a2, .ref q1, .ref q2, .ref q3, .ref q4, .ref q5, .ref q6, .int (Int32.ofInt (-1))])), (q1, .inl (kcA K 0, 33397, .inl (fun _ => 0))), (q2, .inl (kcA K 1, 364, .inl (fun _ => 0))), (q3, .inl (kcA K 0, 9, .inl (fun _ => 0))), (q4, .inl (kcA K 0, 9, .inl (fun _ => 0))), (q5, .inl (kcA K 0, 9, .inl (fun _ => 0))), (q6, .inl (kcA K 0, 243, .inl (fun _ => 0)))] 69 [(0, .ref h0), (1, .ref a1), (2, .ref a2)] []
  exact cj_ret C r (Nat.le_refl _) (Nat.le_refl _) ⟨q1, q2, q3, q4, q5, q6, rfl⟩ dX0_init_69
