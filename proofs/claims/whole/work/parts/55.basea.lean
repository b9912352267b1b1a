/-! SoManyForgotten$Debtor.change(III)I -/
abbrev rmX0_change : Room := { frames := 0, cells := 0, slots := 0, locals := 0 }
set_option maxRecDepth 100000 in
theorem hvX0_change : yX0_change.cls = RX0 ∧ yX0_change.cls ≠ "java/lang/invoke/MethodHandle" ∧ yX0_change.cls ≠ "java/lang/invoke/VarHandle" ∧ (parseMethodDescriptor yX0_change.desc).map (fun d => d.parameters.length) = some 3 := by decide +kernel
set_option maxRecDepth 100000 in
theorem huX0_change : yX0_change.name ≠ "<init>" ∧ (parseMethodDescriptor yX0_change.desc).map (fun d => d.parameters.length) = some 3 := by decide +kernel
set_option maxRecDepth 100000 in
set_option maxHeartbeats 4000000 in
theorem ct_X0_change {ci : Nat} {q : vw_C} (l : Launch) (D : va_G) (tys : List (ClassId × FieldType)) (a : Nat → Nat) (hci : vwCl[ci]? = some q) {x1 : Int32} {x2 : Int32} {x3 : Int32} {r : Int32} (hf : f_X0_change x1 x2 x3 = some r) : Ct l yX0_change (uw (Cond.code yX0_change cX0_change 4 (some .int))) rmX0_change D tys E0 [.ref (a 0), .int x1, .int x2, .int x3] (wP ci a) (some (.int r)) (wP ci a) := by
  refine sm_start (cc := cX0_change) (maxL := 4) (ret := (some .int)) (own := RX0) (by decide) rfl rfl (Nat.le_of_ble_eq_true rfl) (lv := [(0, .ref (a 0)), (1, .int x1), (2, .int x2), (3, .int x3)]) rfl ?_
  intro p e s m below meth c A F hE hA
  unfold f_X0_change at hf
  refine sm_iload_n F dX0_change_0 rfl 2 rfl ?_
  refine sm_bipush F dX0_change_1 kc_b_10 ?_
  refine sm_idiv F dX0_change_3 (by decide) ?_
  refine sm_ineg F dX0_change_4 ?_
  exact sm_iret F dX0_change_5 (Option.some.inj hf) rfl
/-! SoManyForgotten$Dog.change(III)I -/
abbrev rmX1_change : Room := { frames := 0, cells := 0, slots := 0, locals := 0 }
set_option maxRecDepth 100000 in
theorem hvX1_change : yX1_change.cls = RX1 ∧ yX1_change.cls ≠ "java/lang/invoke/MethodHandle" ∧ yX1_change.cls ≠ "java/lang/invoke/VarHandle" ∧ (parseMethodDescriptor yX1_change.desc).map (fun d => d.parameters.length) = some 3 := by decide +kernel
set_option maxRecDepth 100000 in
theorem huX1_change : yX1_change.name ≠ "<init>" ∧ (parseMethodDescriptor yX1_change.desc).map (fun d => d.parameters.length) = some 3 := by decide +kernel
set_option maxRecDepth 100000 in
set_option maxHeartbeats 4000000 in
theorem ct_X1_change {ci : Nat} {q : vw_C} (l : Launch) (D : va_G) (tys : List (ClassId × FieldType)) (a : Nat → Nat) (hci : vwCl[ci]? = some q) {x1 : Int32} {x2 : Int32} {x3 : Int32} {r : Int32} (hf : f_X1_change x1 x2 x3 = some r) : Ct l yX1_change (uw (Cond.code yX1_change cX1_change 4 (some .int))) rmX1_change D tys E0 [.ref (a 0), .int x1, .int x2, .int x3] (wP ci a) (some (.int r)) (wP ci a) := by
  refine sm_start (cc := cX1_change) (maxL := 4) (ret := (some .int)) (own := RX1) (by decide) rfl rfl (Nat.le_of_ble_eq_true rfl) (lv := [(0, .ref (a 0)), (1, .int x1), (2, .int x2), (3, .int x3)]) rfl ?_
  intro p e s m below meth c A F hE hA
  unfold f_X1_change at hf
  refine sm_iconst F dX1_change_0 kc_i_0 ?_
  exact sm_iret F dX1_change_1 (Option.some.inj hf) rfl
/-! SoManyForgotten$Dog.isNamed(I)Z -/
abbrev rmX1_isNamed : Room := { frames := 0, cells := 0, slots := 0, locals := 0 }
set_option maxRecDepth 100000 in
theorem hvX1_isNamed : yX1_isNamed.cls = RX1 ∧ yX1_isNamed.cls ≠ "java/lang/invoke/MethodHandle" ∧ yX1_isNamed.cls ≠ "java/lang/invoke/VarHandle" ∧ (parseMethodDescriptor yX1_isNamed.desc).map (fun d => d.parameters.length) = some 1 := by decide +kernel
set_option maxRecDepth 100000 in
theorem huX1_isNamed : yX1_isNamed.name ≠ "<init>" ∧ (parseMethodDescriptor yX1_isNamed.desc).map (fun d => d.parameters.length) = some 1 := by decide +kernel
set_option maxRecDepth 100000 in
set_option maxHeartbeats 4000000 in
theorem ct_X1_isNamed {ci : Nat} {q : vw_C} (l : Launch) (D : va_G) (tys : List (ClassId × FieldType)) (a : Nat → Nat) (hci : vwCl[ci]? = some q) {x1 : Int32} {r : Int32} (hf : f_X1_isNamed x1 = some r) : Ct l yX1_isNamed (uw (Cond.code yX1_isNamed cX1_isNamed 2 (some .boolean))) rmX1_isNamed D tys E0 [.ref (a 0), .int x1] (wP ci a) (some (.int r)) (wP ci a) := by
  refine sm_start (cc := cX1_isNamed) (maxL := 2) (ret := (some .boolean)) (own := RX1) (by decide) rfl rfl (Nat.le_of_ble_eq_true rfl) (lv := [(0, .ref (a 0)), (1, .int x1)]) rfl ?_
  intro p e s m below meth c A F hE hA
  unfold f_X1_isNamed at hf
  refine sm_iconst F dX1_isNamed_0 kc_i_0 ?_
  exact sm_zret F dX1_isNamed_1 rfl (Option.some.inj hf) rfl
/-! SoManyForgotten$Person.change(III)I -/
abbrev rmX4_change : Room := { frames := 0, cells := 0, slots := 0, locals := 0 }
set_option maxRecDepth 100000 in
theorem hvX4_change : yX4_change.cls = RX4 ∧ yX4_change.cls ≠ "java/lang/invoke/MethodHandle" ∧ yX4_change.cls ≠ "java/lang/invoke/VarHandle" ∧ (parseMethodDescriptor yX4_change.desc).map (fun d => d.parameters.length) = some 3 := by decide +kernel
set_option maxRecDepth 100000 in
theorem huX4_change : yX4_change.name ≠ "<init>" ∧ (parseMethodDescriptor yX4_change.desc).map (fun d => d.parameters.length) = some 3 := by decide +kernel
set_option maxRecDepth 100000 in
set_option maxHeartbeats 4000000 in
theorem ct_X4_change {ci : Nat} {q : vw_C} (l : Launch) (D : va_G) (tys : List (ClassId × FieldType)) (a : Nat → Nat) (hci : vwCl[ci]? = some q) {x1 : Int32} {x2 : Int32} {x3 : Int32} {r : Int32} (hf : f_X4_change x1 x2 x3 = some r) : Ct l yX4_change (uw (Cond.code yX4_change cX4_change 4 (some .int))) rmX4_change D tys E0 [.ref (a 0), .int x1, .int x2, .int x3] (wP ci a) (some (.int r)) (wP ci a) := by
  refine sm_start (cc := cX4_change) (maxL := 4) (ret := (some .int)) (own := RX4) (by decide) rfl rfl (Nat.le_of_ble_eq_true rfl) (lv := [(0, .ref (a 0)), (1, .int x1), (2, .int x2), (3, .int x3)]) rfl ?_
  intro p e s m below meth c A F hE hA
  unfold f_X4_change at hf
  refine sm_iconst F dX4_change_0 kc_i_m1 ?_
  exact sm_iret F dX4_change_1 (Option.some.inj hf) rfl
/-! SoManyForgotten$Kindly.change(III)I -/
abbrev rmX2_change : Room := { frames := 1, cells := 0, slots := 0, locals := 23 }
set_option maxRecDepth 100000 in
theorem hvX2_change : yX2_change.cls = RX2 ∧ yX2_change.cls ≠ "java/lang/invoke/MethodHandle" ∧ yX2_change.cls ≠ "java/lang/invoke/VarHandle" ∧ (parseMethodDescriptor yX2_change.desc).map (fun d => d.parameters.length) = some 3 := by decide +kernel
set_option maxRecDepth 100000 in
theorem huX2_change : yX2_change.name ≠ "<init>" ∧ (parseMethodDescriptor yX2_change.desc).map (fun d => d.parameters.length) = some 3 := by decide +kernel
set_option maxRecDepth 100000 in
set_option maxHeartbeats 4000000 in
theorem s_X2_change_30 {p : Program} {l : Launch} {e : Env} {s : State} {m : MethodId} {args : Array Value} {below : List Frame} {meth : Method} {c : Code} {A : Nat → Prop} {D : va_G} {tys : List (ClassId × FieldType)} {ci : Nat} {q : vw_C} {a : Nat → Nat} (hci : vwCl[ci]? = some q) {r : Int32} (F : smF p s m args meth c cX2_change 6 (some .int) RX2 D tys A) (x1 : Int32) (x2 : Int32) (x3 : Int32)  (y0 : Int32) (hf : f_X2_change_30 x1 x2 x3   y0 = some r) : Sm p l e rmX2_change s m args below meth c D A 6 0 0 (smQ below args s D A (some (.int r)) (wP ci a)) 30 [(0, .ref (a 0)), (1, .int x1), (2, .int x2), (3, .int x3)] [.int y0] (wP ci a) := by
  unfold f_X2_change_30 at hf
  refine sm_istore F [(0, .ref (a 0)), (1, .int x1), (2, .int x2), (3, .int x3), (5, .int y0)] [1, 2, 3, 4, 0] dX2_change_30 (by decide) rfl ?_
  refine sm_aload_n F dX2_change_32 rfl 0 rfl ?_
  refine sm_iload_n F dX2_change_33 rfl 1 rfl ?_
  refine sm_iload_n F dX2_change_34 rfl 2 rfl ?_
  refine sm_iload_n F dX2_change_35 rfl 3 rfl ?_
  obtain ⟨z36, hz36, hf⟩ := bd_some hf
  refine sm_callSU (rest := []) F (ct_X4_change l D tys a hci hz36) (cut_P_id ci a) rfl rfl rfl qw2_239 qw2_229 qw1_50 qw2_227 qw1_2 qw3_8 huX4_change ⟨Nat.le_of_ble_eq_true rfl, Nat.le_of_ble_eq_true rfl⟩ ⟨Nat.zero_le _, Nat.zero_le _⟩ 0 ci hci rfl rfl rfl (Nat.le_of_ble_eq_true rfl) E0_b (fun _ _ _ _ _ _ => trivial) rfl dX2_change_36 [.int z36] rfl ?_
  refine sm_iload F dX2_change_39 4 rfl ?_
  refine sm_if_eq (tgt := 48) F dX2_change_41 (by decide) (fun c41 => ?_) (fun c41 => ?_)
  · replace hf := if_t c41 hf
    refine sm_iconst F dX2_change_48 kc_i_0 ?_
    refine sm_iadd F dX2_change_49 ?_
    exact sm_iret F dX2_change_50 (Option.some.inj hf) rfl
  · replace hf := if_f c41 hf
    refine sm_iconst F dX2_change_44 kc_i_3 ?_
    refine sm_goto (tgt := 49) F dX2_change_45 (by decide) ?_
    refine sm_iadd F dX2_change_49 ?_
    exact sm_iret F dX2_change_50 (Option.some.inj hf) rfl
set_option maxRecDepth 100000 in
set_option maxHeartbeats 4000000 in
theorem ct_X2_change {ci : Nat} {q : vw_C} (l : Launch) (D : va_G) (tys : List (ClassId × FieldType)) (a : Nat → Nat) (hci : vwCl[ci]? = some q) {x1 : Int32} {x2 : Int32} {x3 : Int32} {r : Int32} (hf : f_X2_change x1 x2 x3 = some r) : Ct l yX2_change (uw (Cond.code yX2_change cX2_change 6 (some .int))) rmX2_change D tys E0 [.ref (a 0), .int x1, .int x2, .int x3] (wP ci a) (some (.int r)) (wP ci a) := by
  refine sm_start (cc := cX2_change) (maxL := 6) (ret := (some .int)) (own := RX2) (by decide) rfl rfl (Nat.le_of_ble_eq_true rfl) (lv := [(0, .ref (a 0)), (1, .int x1), (2, .int x2), (3, .int x3)]) rfl ?_
  intro p e s m below meth c A F hE hA
  unfold f_X2_change at hf
  refine sm_iload_n F dX2_change_0 rfl 1 rfl ?_
  refine sm_bipush F dX2_change_1 kc_b_10 ?_
  refine sm_irem F dX2_change_3 (by decide) ?_
  refine sm_istore F [(0, .ref (a 0)), (1, .int x1), (2, .int x2), (3, .int x3), (4, .int (x1 - x1 / (10 : Int32) * (10 : Int32)))] [1, 2, 3, 4, 0] dX2_change_4 (by decide) rfl ?_
  refine sm_iload F dX2_change_6 4 rfl ?_
  refine sm_bipush F dX2_change_8 kc_b_8 ?_
  refine sm_icmp_eq (tgt := 25) F dX2_change_10 (by decide) (fun c10 => ?_) (fun c10 => ?_)
  · replace hf := if_t c10 hf
    refine sm_iconst F dX2_change_25 kc_i_1 ?_
    refine sm_goto (tgt := 30) F dX2_change_26 (by decide) ?_
    refine sm_sub (lv' := [(0, .ref (a 0)), (1, .int x1), (2, .int x2), (3, .int x3)]) [0, 1, 2, 3] rfl ?_
    exact s_X2_change_30 hci F x1 x2 x3 (1 : Int32) hf
  · replace hf := if_f c10 hf
    refine sm_iload F dX2_change_13 4 rfl ?_
    refine sm_bipush F dX2_change_15 kc_b_9 ?_
    refine sm_icmp_eq (tgt := 25) F dX2_change_17 (by decide) (fun c17 => ?_) (fun c17 => ?_)
    · replace hf := if_t c17 hf
      refine sm_iconst F dX2_change_25 kc_i_1 ?_
      refine sm_goto (tgt := 30) F dX2_change_26 (by decide) ?_
      refine sm_sub (lv' := [(0, .ref (a 0)), (1, .int x1), (2, .int x2), (3, .int x3)]) [0, 1, 2, 3] rfl ?_
      exact s_X2_change_30 hci F x1 x2 x3 (1 : Int32) hf
    · replace hf := if_f c17 hf
      refine sm_iload F dX2_change_20 4 rfl ?_
      refine sm_if_ne (tgt := 29) F dX2_change_22 (by decide) (fun c22 => ?_) (fun c22 => ?_)
      · replace hf := if_f c22 hf
        refine sm_iconst F dX2_change_29 kc_i_0 ?_
        refine sm_sub (lv' := [(0, .ref (a 0)), (1, .int x1), (2, .int x2), (3, .int x3)]) [0, 1, 2, 3] rfl ?_
        exact s_X2_change_30 hci F x1 x2 x3 (0 : Int32) hf
      · replace hf := if_t c22 hf
        refine sm_iconst F dX2_change_25 kc_i_1 ?_
        refine sm_goto (tgt := 30) F dX2_change_26 (by decide) ?_
        refine sm_sub (lv' := [(0, .ref (a 0)), (1, .int x1), (2, .int x2), (3, .int x3)]) [0, 1, 2, 3] rfl ?_
        exact s_X2_change_30 hci F x1 x2 x3 (1 : Int32) hf
/-! SoManyForgotten$Quarreller.change(III)I -/
abbrev rmX5_change : Room := { frames := 1, cells := 0, slots := 0, locals := 23 }
set_option maxRecDepth 100000 in
theorem hvX5_change : yX5_change.cls = RX5 ∧ yX5_change.cls ≠ "java/lang/invoke/MethodHandle" ∧ yX5_change.cls ≠ "java/lang/invoke/VarHandle" ∧ (parseMethodDescriptor yX5_change.desc).map (fun d => d.parameters.length) = some 3 := by decide +kernel
set_option maxRecDepth 100000 in
theorem huX5_change : yX5_change.name ≠ "<init>" ∧ (parseMethodDescriptor yX5_change.desc).map (fun d => d.parameters.length) = some 3 := by decide +kernel
set_option maxRecDepth 100000 in
set_option maxHeartbeats 4000000 in
theorem ct_X5_change {ci : Nat} {q : vw_C} (l : Launch) (D : va_G) (tys : List (ClassId × FieldType)) (a : Nat → Nat) (hci : vwCl[ci]? = some q) {x1 : Int32} {x2 : Int32} {x3 : Int32} {r : Int32} (hf : f_X5_change x1 x2 x3 = some r) : Ct l yX5_change (uw (Cond.code yX5_change cX5_change 4 (some .int))) rmX5_change D tys E0 [.ref (a 0), .int x1, .int x2, .int x3] (wP ci a) (some (.int r)) (wP ci a) := by
  refine sm_start (cc := cX5_change) (maxL := 4) (ret := (some .int)) (own := RX5) (by decide) rfl rfl (Nat.le_of_ble_eq_true rfl) (lv := [(0, .ref (a 0)), (1, .int x1), (2, .int x2), (3, .int x3)]) rfl ?_
  intro p e s m below meth c A F hE hA
  unfold f_X5_change at hf
  refine sm_aload_n F dX5_change_0 rfl 0 rfl ?_
  refine sm_iload_n F dX5_change_1 rfl 1 rfl ?_
  refine sm_iload_n F dX5_change_2 rfl 2 rfl ?_
  refine sm_iload_n F dX5_change_3 rfl 3 rfl ?_
  obtain ⟨z4, hz4, hf⟩ := bd_some hf
  refine sm_callSU (rest := []) F (ct_X0_change l D tys a hci hz4) (cut_P_id ci a) rfl rfl rfl qw3_3 qw6_131 qw1_57 qw2_231 qw1_3 qw2_232 huX0_change ⟨Nat.le_of_ble_eq_true rfl, Nat.le_of_ble_eq_true rfl⟩ ⟨Nat.zero_le _, Nat.zero_le _⟩ 0 ci hci rfl rfl rfl (Nat.le_of_ble_eq_true rfl) E0_b (fun _ _ _ _ _ _ => trivial) rfl dX5_change_4 [.int z4] rfl ?_
  refine sm_iload_n F dX5_change_7 rfl 3 rfl ?_
  refine sm_iadd F dX5_change_8 ?_
  exact sm_iret F dX5_change_9 (Option.some.inj hf) rfl
/-! SoManyForgotten$Wife.change(III)I -/
abbrev rmX9_change : Room := { frames := 2, cells := 0, slots := 0, locals := 48 }
set_option maxRecDepth 100000 in
theorem hvX9_change : yX9_change.cls = RX9 ∧ yX9_change.cls ≠ "java/lang/invoke/MethodHandle" ∧ yX9_change.cls ≠ "java/lang/invoke/VarHandle" ∧ (parseMethodDescriptor yX9_change.desc).map (fun d => d.parameters.length) = some 3 := by decide +kernel
set_option maxRecDepth 100000 in
theorem huX9_change : yX9_change.name ≠ "<init>" ∧ (parseMethodDescriptor yX9_change.desc).map (fun d => d.parameters.length) = some 3 := by decide +kernel
set_option maxRecDepth 100000 in
set_option maxHeartbeats 4000000 in
theorem ct_X9_change {ci : Nat} {q : vw_C} (l : Launch) (D : va_G) (tys : List (ClassId × FieldType)) (a : Nat → Nat) (hci : vwCl[ci]? = some q) {x1 : Int32} {x2 : Int32} {x3 : Int32} {r : Int32} (hf : f_X9_change x1 x2 x3 = some r) : Ct l yX9_change (uw (Cond.code yX9_change cX9_change 4 (some .int))) rmX9_change D tys E0 [.ref (a 0), .int x1, .int x2, .int x3] (wP ci a) (some (.int r)) (wP ci a) := by
  refine sm_start (cc := cX9_change) (maxL := 4) (ret := (some .int)) (own := RX9) (by decide) rfl rfl (Nat.le_of_ble_eq_true rfl) (lv := [(0, .ref (a 0)), (1, .int x1), (2, .int x2), (3, .int x3)]) rfl ?_
  intro p e s m below meth c A F hE hA
  unfold f_X9_change at hf
  refine sm_aload_n F dX9_change_0 rfl 0 rfl ?_
  refine sm_iload_n F dX9_change_1 rfl 1 rfl ?_
  refine sm_iload_n F dX9_change_2 rfl 2 rfl ?_
  refine sm_iload_n F dX9_change_3 rfl 3 rfl ?_
  obtain ⟨z4, hz4, hf⟩ := bd_some hf
  refine sm_callSU (rest := []) F (ct_X2_change l D tys a hci hz4) (cut_P_id ci a) rfl rfl rfl qw3_7 qw6_132 qw1_71 qw2_237 qw1_4 qw2_238 huX2_change ⟨Nat.le_of_ble_eq_true rfl, Nat.le_of_ble_eq_true rfl⟩ ⟨Nat.zero_le _, Nat.zero_le _⟩ 0 ci hci rfl rfl rfl (Nat.le_of_ble_eq_true rfl) E0_b (fun _ _ _ _ _ _ => trivial) rfl dX9_change_4 [.int z4] rfl ?_
  refine sm_iload_n F dX9_change_7 rfl 1 rfl ?_
  refine sm_iconst F dX9_change_8 kc_i_2 ?_
  refine sm_irem F dX9_change_9 (by decide) ?_
  refine sm_iconst F dX9_change_10 kc_i_1 ?_
  refine sm_icmp_ne (tgt := 18) F dX9_change_11 (by decide) (fun c11 => ?_) (fun c11 => ?_)
  · replace hf := if_f c11 hf
    refine sm_iconst F dX9_change_18 kc_i_0 ?_
    refine sm_iadd F dX9_change_19 ?_
    exact sm_iret F dX9_change_20 (Option.some.inj hf) rfl
  · replace hf := if_t c11 hf
    refine sm_iconst F dX9_change_14 kc_i_2 ?_
    refine sm_goto (tgt := 19) F dX9_change_15 (by decide) ?_
    refine sm_iadd F dX9_change_19 ?_
    exact sm_iret F dX9_change_20 (Option.some.inj hf) rfl
/-! SoManyForgotten$Person.isNamed(I)Z -/
abbrev rmX4_isNamed : Room := { frames := 0, cells := 0, slots := 0, locals := 0 }
set_option maxRecDepth 100000 in
theorem hvX4_isNamed : yX4_isNamed.cls = RX4 ∧ yX4_isNamed.cls ≠ "java/lang/invoke/MethodHandle" ∧ yX4_isNamed.cls ≠ "java/lang/invoke/VarHandle" ∧ (parseMethodDescriptor yX4_isNamed.desc).map (fun d => d.parameters.length) = some 1 := by decide +kernel
set_option maxRecDepth 100000 in
theorem huX4_isNamed : yX4_isNamed.name ≠ "<init>" ∧ (parseMethodDescriptor yX4_isNamed.desc).map (fun d => d.parameters.length) = some 1 := by decide +kernel
set_option maxRecDepth 100000 in
set_option maxHeartbeats 4000000 in
theorem ct_X4_isNamed {ci : Nat} {q : vw_C} (l : Launch) (D : va_G) (tys : List (ClassId × FieldType)) (a : Nat → Nat) (hci : vwCl[ci]? = some q) {x1 : Int32} {r : Int32} (hf : f_X4_isNamed x1 = some r) : Ct l yX4_isNamed (uw (Cond.code yX4_isNamed cX4_isNamed 2 (some .boolean))) rmX4_isNamed D tys E0 [.ref (a 0), .int x1] (wP ci a) (some (.int r)) (wP ci a) := by
  refine sm_start (cc := cX4_isNamed) (maxL := 2) (ret := (some .boolean)) (own := RX4) (by decide) rfl rfl (Nat.le_of_ble_eq_true rfl) (lv := [(0, .ref (a 0)), (1, .int x1)]) rfl ?_
  intro p e s m below meth c A F hE hA
  unfold f_X4_isNamed at hf
  refine sm_iconst F dX4_isNamed_0 kc_i_1 ?_
  exact sm_zret F dX4_isNamed_1 rfl (Option.some.inj hf) rfl
/-! SoManyForgotten$Wife.isNamed(I)Z -/
abbrev rmX9_isNamed : Room := { frames := 0, cells := 0, slots := 0, locals := 0 }
set_option maxRecDepth 100000 in
theorem hvX9_isNamed : yX9_isNamed.cls = RX9 ∧ yX9_isNamed.cls ≠ "java/lang/invoke/MethodHandle" ∧ yX9_isNamed.cls ≠ "java/lang/invoke/VarHandle" ∧ (parseMethodDescriptor yX9_isNamed.desc).map (fun d => d.parameters.length) = some 1 := by decide +kernel
set_option maxRecDepth 100000 in
theorem huX9_isNamed : yX9_isNamed.name ≠ "<init>" ∧ (parseMethodDescriptor yX9_isNamed.desc).map (fun d => d.parameters.length) = some 1 := by decide +kernel
set_option maxRecDepth 100000 in
set_option maxHeartbeats 4000000 in
theorem ct_X9_isNamed {ci : Nat} {q : vw_C} (l : Launch) (D : va_G) (tys : List (ClassId × FieldType)) (a : Nat → Nat) (hci : vwCl[ci]? = some q) {x1 : Int32} {r : Int32} (hf : f_X9_isNamed x1 = some r) : Ct l yX9_isNamed (uw (Cond.code yX9_isNamed cX9_isNamed 2 (some .boolean))) rmX9_isNamed D tys E0 [.ref (a 0), .int x1] (wP ci a) (some (.int r)) (wP ci a) := by
  refine sm_start (cc := cX9_isNamed) (maxL := 2) (ret := (some .boolean)) (own := RX9) (by decide) rfl rfl (Nat.le_of_ble_eq_true rfl) (lv := [(0, .ref (a 0)), (1, .int x1)]) rfl ?_
  intro p e s m below meth c A F hE hA
  unfold f_X9_isNamed at hf
  refine sm_iload_n F dX9_isNamed_0 rfl 1 rfl ?_
  refine sm_iconst F dX9_isNamed_1 kc_i_5 ?_
  refine sm_icmp_ge (tgt := 9) F dX9_isNamed_2 (by decide) (fun c2 => ?_) (fun c2 => ?_)
  · replace hf := if_t c2 hf
    refine sm_iconst F dX9_isNamed_9 kc_i_0 ?_
    exact sm_zret F dX9_isNamed_10 rfl (Option.some.inj hf) rfl
  · replace hf := if_f c2 hf
    refine sm_iconst F dX9_isNamed_5 kc_i_1 ?_
    refine sm_goto (tgt := 10) F dX9_isNamed_6 (by decide) ?_
    exact sm_zret F dX9_isNamed_10 rfl (Option.some.inj hf) rfl
/-! java/lang/Integer.bitCount(I)I -/
abbrev rmJ6_bitCount_0f7a4 : Room := { frames := 0, cells := 0, slots := 0, locals := 0 }
set_option maxRecDepth 100000 in
theorem hsJ6_bitCount_0f7a4 : yJ6_bitCount_0f7a4.cls ≠ "java/lang/invoke/MethodHandle" ∧ yJ6_bitCount_0f7a4.cls ≠ "java/lang/invoke/VarHandle" ∧ (parseMethodDescriptor yJ6_bitCount_0f7a4.desc).map (fun d => d.parameters.length) = some 1 := by decide +kernel
set_option maxRecDepth 100000 in
set_option maxHeartbeats 4000000 in
theorem ct_J6_bitCount_0f7a4 (l : Launch) (D : va_G) (tys : List (ClassId × FieldType)) {x0 : Int32} {r : Int32} (hf : f_J6_bitCount_0f7a4 x0 = some r) : Ct l yJ6_bitCount_0f7a4 (uw (Cond.code yJ6_bitCount_0f7a4 cJ6_bitCount_0f7a4 1 (some .int))) rmJ6_bitCount_0f7a4 D tys E0 [.int x0] [] (some (.int r)) [] := by
  refine sm_start (cc := cJ6_bitCount_0f7a4) (maxL := 1) (ret := (some .int)) (own := RJ6) (by decide) rfl rfl (Nat.le_of_ble_eq_true rfl) (lv := [(0, .int x0)]) rfl ?_
  intro p e s m below meth c A F hE hA
  unfold f_J6_bitCount_0f7a4 at hf
  refine sm_iload_n F dJ6_bitCount_0f7a4_0 rfl 0 rfl ?_
  refine sm_iload_n F dJ6_bitCount_0f7a4_1 rfl 0 rfl ?_
  refine sm_iconst F dJ6_bitCount_0f7a4_2 kc_i_1 ?_
  refine sm_iushr F dJ6_bitCount_0f7a4_3 ?_
  refine sm_ldcw (v := 1431655765) F qw3_121 dJ6_bitCount_0f7a4_4 ?_
  refine sm_iand F dJ6_bitCount_0f7a4_7 ?_
  refine sm_isub F dJ6_bitCount_0f7a4_8 ?_
  obtain ⟨v9, hv9, hf⟩ := bd_some hf
  refine sm_topi (Option.some.inj hv9) ?_
  refine sm_istore_n F [(0, .int v9)] [0] dJ6_bitCount_0f7a4_9 rfl (by decide) rfl ?_
  refine sm_iload_n F dJ6_bitCount_0f7a4_10 rfl 0 rfl ?_
  refine sm_ldcw (v := 858993459) F qw3_122 dJ6_bitCount_0f7a4_11 ?_
  refine sm_iand F dJ6_bitCount_0f7a4_14 ?_
  refine sm_iload_n F dJ6_bitCount_0f7a4_15 rfl 0 rfl ?_
  refine sm_iconst F dJ6_bitCount_0f7a4_16 kc_i_2 ?_
  refine sm_iushr F dJ6_bitCount_0f7a4_17 ?_
  refine sm_ldcw (v := 858993459) F qw3_122 dJ6_bitCount_0f7a4_18 ?_
  refine sm_iand F dJ6_bitCount_0f7a4_21 ?_
  refine sm_iadd F dJ6_bitCount_0f7a4_22 ?_
  obtain ⟨v23, hv23, hf⟩ := bd_some hf
  refine sm_topi (Option.some.inj hv23) ?_
  refine sm_istore_n F [(0, .int v23)] [0] dJ6_bitCount_0f7a4_23 rfl (by decide) rfl ?_
  refine sm_iload_n F dJ6_bitCount_0f7a4_24 rfl 0 rfl ?_
  refine sm_iload_n F dJ6_bitCount_0f7a4_25 rfl 0 rfl ?_
  refine sm_iconst F dJ6_bitCount_0f7a4_26 kc_i_4 ?_
  refine sm_iushr F dJ6_bitCount_0f7a4_27 ?_
  refine sm_iadd F dJ6_bitCount_0f7a4_28 ?_
  refine sm_ldcw (v := 252645135) F qw3_123 dJ6_bitCount_0f7a4_29 ?_
  refine sm_iand F dJ6_bitCount_0f7a4_32 ?_
  obtain ⟨v33, hv33, hf⟩ := bd_some hf
  refine sm_topi (Option.some.inj hv33) ?_
  refine sm_istore_n F [(0, .int v33)] [0] dJ6_bitCount_0f7a4_33 rfl (by decide) rfl ?_
  refine sm_iload_n F dJ6_bitCount_0f7a4_34 rfl 0 rfl ?_
  refine sm_iload_n F dJ6_bitCount_0f7a4_35 rfl 0 rfl ?_
  refine sm_bipush F dJ6_bitCount_0f7a4_36 kc_b_8 ?_
  refine sm_iushr F dJ6_bitCount_0f7a4_38 ?_
  refine sm_iadd F dJ6_bitCount_0f7a4_39 ?_
  obtain ⟨v40, hv40, hf⟩ := bd_some hf
  refine sm_topi (Option.some.inj hv40) ?_
  refine sm_istore_n F [(0, .int v40)] [0] dJ6_bitCount_0f7a4_40 rfl (by decide) rfl ?_
  refine sm_iload_n F dJ6_bitCount_0f7a4_41 rfl 0 rfl ?_
  refine sm_iload_n F dJ6_bitCount_0f7a4_42 rfl 0 rfl ?_
  refine sm_bipush F dJ6_bitCount_0f7a4_43 kc_b_16 ?_
  refine sm_iushr F dJ6_bitCount_0f7a4_45 ?_
  refine sm_iadd F dJ6_bitCount_0f7a4_46 ?_
  obtain ⟨v47, hv47, hf⟩ := bd_some hf
  refine sm_topi (Option.some.inj hv47) ?_
  refine sm_istore_n F [(0, .int v47)] [0] dJ6_bitCount_0f7a4_47 rfl (by decide) rfl ?_
  refine sm_iload_n F dJ6_bitCount_0f7a4_48 rfl 0 rfl ?_
  refine sm_bipush F dJ6_bitCount_0f7a4_49 kc_b_63 ?_
  refine sm_iand F dJ6_bitCount_0f7a4_51 ?_
  exact sm_iret F dJ6_bitCount_0f7a4_52 (Option.some.inj hf) rfl
/-! SoManyForgotten$Row.isFull()Z -/
abbrev rmX6_isFull : Room := { frames := 0, cells := 0, slots := 0, locals := 0 }
set_option maxRecDepth 100000 in
theorem hvX6_isFull : yX6_isFull.cls = RX6 ∧ yX6_isFull.cls ≠ "java/lang/invoke/MethodHandle" ∧ yX6_isFull.cls ≠ "java/lang/invoke/VarHandle" ∧ (parseMethodDescriptor yX6_isFull.desc).map (fun d => d.parameters.length) = some 0 := by decide +kernel
set_option maxRecDepth 100000 in
set_option maxHeartbeats 4000000 in
theorem ct_X6_isFull (l : Launch) (D : va_G) (cI cZ cO : ClassId) (a : Nat → Nat) {u : RS} {r : Int32} (hf : f_X6_isFull u = some r) : Ct l yX6_isFull (uw (Cond.code yX6_isFull cX6_isFull 1 (some .boolean))) rmX6_isFull D (tyL cI cZ cO) E0 [.ref (a 0)] (wR cI cZ cO a u) (some (.int r)) (wR cI cZ cO a u) := by
  refine sm_start (cc := cX6_isFull) (maxL := 1) (ret := (some .boolean)) (own := RX6) (by decide) rfl rfl (Nat.le_of_ble_eq_true rfl) (lv := [(0, .ref (a 0))]) rfl ?_
  intro p e s m below meth c A F hE hA
  unfold f_X6_isFull at hf
  refine sm_aload_n F dX6_isFull_0 rfl 0 rfl ?_
  refine sm_get (v := .int (gR_size u)) F inX6 0 rfl rfl 1 (by decide) qw1_177 rfl rfl dX6_isFull_1 ?_
  refine sm_bipush F dX6_isFull_4 kc_b_16 ?_
  refine sm_icmp_lt (tgt := 13) F dX6_isFull_6 (by decide) (fun c6 => ?_) (fun c6 => ?_)
  · replace hf := if_t c6 hf
    refine sm_iconst F dX6_isFull_13 kc_i_0 ?_
    exact sm_zret F dX6_isFull_14 rfl (Option.some.inj hf) rfl
  · replace hf := if_f c6 hf
    refine sm_iconst F dX6_isFull_9 kc_i_1 ?_
    refine sm_goto (tgt := 14) F dX6_isFull_10 (by decide) ?_
    exact sm_zret F dX6_isFull_14 rfl (Option.some.inj hf) rfl
/-! SoManyForgotten$Row.add(I)I -/
abbrev rmX6_add : Room := { frames := 0, cells := 0, slots := 0, locals := 0 }
set_option maxRecDepth 100000 in
theorem hvX6_add : yX6_add.cls = RX6 ∧ yX6_add.cls ≠ "java/lang/invoke/MethodHandle" ∧ yX6_add.cls ≠ "java/lang/invoke/VarHandle" ∧ (parseMethodDescriptor yX6_add.desc).map (fun d => d.parameters.length) = some 1 := by decide +kernel
set_option maxRecDepth 100000 in
set_option maxHeartbeats 4000000 in
theorem ct_X6_add (l : Launch) (D : va_G) (cI cZ cO : ClassId) (a : Nat → Nat) {u : RS} {x1 : Int32} {r : Int32} {o : RS} (hf : f_X6_add u x1 = some (r, o)) : Ct l yX6_add (uw (Cond.code yX6_add cX6_add 2 (some .int))) rmX6_add D (tyL cI cZ cO) E0 [.ref (a 0), .int x1] (wR cI cZ cO a u) (some (.int r)) (wR cI cZ cO a o) := by
  refine sm_start (cc := cX6_add) (maxL := 2) (ret := (some .int)) (own := RX6) (by decide) rfl rfl (Nat.le_of_ble_eq_true rfl) (lv := [(0, .ref (a 0)), (1, .int x1)]) rfl ?_
  intro p e s m below meth c A F hE hA
  unfold f_X6_add at hf
  refine sm_aload_n F dX6_add_0 rfl 0 rfl ?_
  refine sm_get (v := .ref (a 1)) F inX6 0 rfl rfl 0 (by decide) qw1_175 rfl rfl dX6_add_1 ?_
  refine sm_aload_n F dX6_add_4 rfl 0 rfl ?_
  refine sm_get (v := .int (gR_size u)) F inX6 0 rfl rfl 1 (by decide) qw1_177 rfl rfl dX6_add_5 ?_
  refine sm_iload_n F dX6_add_8 rfl 1 rfl ?_
  obtain ⟨h9, hf⟩ := ck_some hf
  refine sm_iast F 1 0 rfl rfl h9 (wR cI cZ cO a (sR_num u (upd (gR_num u) (Int32.toNatClampNeg (gR_size u)) x1))) rfl dX6_add_9 ?_
  refine sm_aload_n F dX6_add_10 rfl 0 rfl ?_
  refine sm_dup F dX6_add_11 rfl ?_
  refine sm_get (v := .int (gR_size (sR_num u (upd (gR_num u) (Int32.toNatClampNeg (gR_size u)) x1)))) F inX6 0 rfl rfl 1 (by decide) qw1_177 rfl rfl dX6_add_12 ?_
  refine sm_iconst F dX6_add_15 kc_i_1 ?_
  refine sm_iadd F dX6_add_16 ?_
  obtain ⟨v17, hv17, hf⟩ := bd_some hf
  refine sm_topi (Option.some.inj hv17) ?_
  refine sm_put F inX6 tyX6 tyX6_ok nmX6 0 rfl rfl 1 (by decide) qw1_177 rfl rfl rfl rfl (Nat.le_of_ble_eq_true rfl) (wR cI cZ cO a (sR_size (sR_num u (upd (gR_num u) (Int32.toNatClampNeg (gR_size u)) x1)) v17)) rfl dX6_add_17 ?_
  refine sm_aload_n F dX6_add_20 rfl 0 rfl ?_
  refine sm_get (v := .int (gR_size (sR_size (sR_num u (upd (gR_num u) (Int32.toNatClampNeg (gR_size u)) x1)) v17))) F inX6 0 rfl rfl 1 (by decide) qw1_177 rfl rfl dX6_add_21 ?_
  exact sm_iret F dX6_add_24 (Prod.mk.inj (Option.some.inj hf)).1 (congrArg (fun z => (wR cI cZ cO a z)) (Prod.mk.inj (Option.some.inj hf)).2)
/-! SoManyForgotten$Row.empty()I -/
abbrev rmX6_empty : Room := { frames := 0, cells := 0, slots := 0, locals := 0 }
set_option maxRecDepth 100000 in
theorem hvX6_empty : yX6_empty.cls = RX6 ∧ yX6_empty.cls ≠ "java/lang/invoke/MethodHandle" ∧ yX6_empty.cls ≠ "java/lang/invoke/VarHandle" ∧ (parseMethodDescriptor yX6_empty.desc).map (fun d => d.parameters.length) = some 0 := by decide +kernel
set_option maxRecDepth 100000 in
set_option maxHeartbeats 4000000 in
theorem ct_X6_empty (l : Launch) (D : va_G) (cI cZ cO : ClassId) (a : Nat → Nat) {u : RS} {r : Int32} {o : RS} (hf : f_X6_empty u = some (r, o)) : Ct l yX6_empty (uw (Cond.code yX6_empty cX6_empty 2 (some .int))) rmX6_empty D (tyL cI cZ cO) E0 [.ref (a 0)] (wR cI cZ cO a u) (some (.int r)) (wR cI cZ cO a o) := by
  refine sm_start (cc := cX6_empty) (maxL := 2) (ret := (some .int)) (own := RX6) (by decide) rfl rfl (Nat.le_of_ble_eq_true rfl) (lv := [(0, .ref (a 0))]) rfl ?_
  intro p e s m below meth c A F hE hA
  unfold f_X6_empty at hf
  refine sm_aload_n F dX6_empty_0 rfl 0 rfl ?_
  refine sm_get (v := .int (gR_size u)) F inX6 0 rfl rfl 1 (by decide) qw1_177 rfl rfl dX6_empty_1 ?_
  refine sm_istore_n F [(0, .ref (a 0)), (1, .int (gR_size u))] [1, 0] dX6_empty_4 rfl (by decide) rfl ?_
  refine sm_aload_n F dX6_empty_5 rfl 0 rfl ?_
  refine sm_iconst F dX6_empty_6 kc_i_0 ?_
  refine sm_put F inX6 tyX6 tyX6_ok nmX6 0 rfl rfl 1 (by decide) qw1_177 rfl rfl rfl rfl (Nat.le_of_ble_eq_true rfl) (wR cI cZ cO a (sR_size u (0 : Int32))) rfl dX6_empty_7 ?_
  refine sm_iload_n F dX6_empty_10 rfl 1 rfl ?_
  exact sm_iret F dX6_empty_11 (Prod.mk.inj (Option.some.inj hf)).1 (congrArg (fun z => (wR cI cZ cO a z)) (Prod.mk.inj (Option.some.inj hf)).2)
