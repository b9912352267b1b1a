/-! SoManyForgottenModel.memoryThen(III)I -/
abbrev rmX11_memoryThen : Room := { frames := 7, cells := 0, slots := 0, locals := 153 }
set_option maxRecDepth 100000 in
theorem hvX11_memoryThen : yX11_memoryThen.cls = RX11 ∧ yX11_memoryThen.cls ≠ "java/lang/invoke/MethodHandle" ∧ yX11_memoryThen.cls ≠ "java/lang/invoke/VarHandle" ∧ (parseMethodDescriptor yX11_memoryThen.desc).map (fun d => d.parameters.length) = some 3 := by decide +kernel
set_option maxRecDepth 100000 in
set_option maxHeartbeats 4000000 in
theorem s_X11_memoryThen_20 {p : Program} {l : Launch} {e : Env} {s : State} {m : MethodId} {args : Array Value} {below : List Frame} {meth : Method} {c : Code} {A : Nat → Prop} {D : va_G} {cI cZ cO : ClassId} {a : Nat → Nat} {r : Int32} {o : DS} (F : smF p s m args meth c cX11_memoryThen 5 (some .int) RX11 D (tyL cI cZ cO) A) (x1 : Int32) (x2 : Int32) (x3 : Int32)  (u : DS) (y0 : Int32) (hf : f_X11_memoryThen_20 x1 x2 x3   u y0 = some (r, o)) : Sm p l e rmX11_memoryThen s m args below meth c D A 5 0 0 (smQ below args s D A (some (.int r)) (wD cI cZ cO a o)) 20 [(0, .ref (a 0)), (1, .int x1), (2, .int x2), (3, .int x3)] [.int y0] (wD cI cZ cO a u) := by
  unfold f_X11_memoryThen_20 at hf
  refine sm_istore F [(0, .ref (a 0)), (1, .int x1), (2, .int x2), (3, .int x3), (4, .int y0)] [1, 2, 3, 4, 0] dX11_memoryThen_20 (by decide) rfl ?_
  refine sm_iload F dX11_memoryThen_22 4 rfl ?_
  refine sm_if_eq (tgt := 34) F dX11_memoryThen_24 (by decide) (fun c24 => ?_) (fun c24 => ?_)
  · replace hf := if_t c24 hf
    refine sm_aload_n F dX11_memoryThen_34 rfl 0 rfl ?_
    refine sm_iload_n F dX11_memoryThen_35 rfl 3 rfl ?_
    obtain ⟨z36, hz36, hf⟩ := bd_some hf
    refine sm_callV (rest := []) F (ct_X11_takes l D cI cZ cO a hz36) (cut_D_id cI cZ cO a u z36) rfl rfl rfl qw5_196 qw5_198 qw0_38 qw1_12 qw5_199 hvX11_takes ⟨Nat.le_of_ble_eq_true rfl, Nat.le_of_ble_eq_true rfl⟩ ⟨Nat.zero_le _, Nat.zero_le _⟩ 0 11 rfl rfl rfl rfl (Nat.le_of_ble_eq_true rfl) E0_b (fun _ _ _ _ _ _ => trivial) rfl dX11_memoryThen_36 [] rfl ?_
    refine sm_aload_n F dX11_memoryThen_39 rfl 0 rfl ?_
    refine sm_get (v := .ref (a 2)) F inX11 0 rfl rfl 1 (by decide) qw5_16 rfl rfl dX11_memoryThen_40 ?_
    refine sm_iload_n F dX11_memoryThen_43 rfl 1 rfl ?_
    refine sm_iload_n F dX11_memoryThen_44 rfl 2 rfl ?_
    obtain ⟨z45, hz45, hf⟩ := bd_some hf
    refine sm_callS (rest := [.ref (a 2)]) F (ct_X11_by l D (tyL cI cZ cO) hz45) (cut_D_none cI cZ cO a z36) rfl rfl rfl qw5_103 qw5_104 qw1_12 qw5_105 hsX11_by ⟨Nat.le_of_ble_eq_true rfl, Nat.le_of_ble_eq_true rfl⟩ ⟨Nat.zero_le _, Nat.zero_le _⟩ rfl (Nat.le_of_ble_eq_true rfl) E0_b (fun _ _ _ _ _ _ => trivial) rfl dX11_memoryThen_45 [.int z45, .ref (a 2)] rfl ?_
    obtain ⟨h48, hf⟩ := ck_some hf
    refine sm_iald F 2 0 rfl rfl h48 dX11_memoryThen_48 ?_
    exact sm_iret F dX11_memoryThen_49 (Prod.mk.inj (Option.some.inj hf)).1 (congrArg (fun z => (wD cI cZ cO a z)) (Prod.mk.inj (Option.some.inj hf)).2)
  · replace hf := if_f c24 hf
    refine sm_aload_n F dX11_memoryThen_27 rfl 0 rfl ?_
    refine sm_iload F dX11_memoryThen_28 4 rfl ?_
    obtain ⟨z30, hz30, hf⟩ := bd_some hf
    refine sm_callV (rest := []) F (ct_X11_no l D cI cZ cO a hz30) (cut_D_id cI cZ cO a u z30.2) rfl rfl rfl qw5_59 qw5_61 qw0_29 qw1_12 qw5_62 hvX11_no ⟨Nat.le_of_ble_eq_true rfl, Nat.le_of_ble_eq_true rfl⟩ ⟨Nat.zero_le _, Nat.zero_le _⟩ 0 11 rfl rfl rfl rfl (Nat.le_of_ble_eq_true rfl) E0_b (fun _ _ _ _ _ _ => trivial) rfl dX11_memoryThen_30 [.int z30.1] rfl ?_
    exact sm_iret F dX11_memoryThen_33 (Prod.mk.inj (Option.some.inj hf)).1 (congrArg (fun z => (wD cI cZ cO a z)) (Prod.mk.inj (Option.some.inj hf)).2)
set_option maxRecDepth 100000 in
set_option maxHeartbeats 4000000 in
theorem ct_X11_memoryThen (l : Launch) (D : va_G) (cI cZ cO : ClassId) (a : Nat → Nat) {u : DS} {x1 : Int32} {x2 : Int32} {x3 : Int32} {r : Int32} {o : DS} (hf : f_X11_memoryThen u x1 x2 x3 = some (r, o)) : Ct l yX11_memoryThen (uw (Cond.code yX11_memoryThen cX11_memoryThen 5 (some .int))) rmX11_memoryThen D (tyL cI cZ cO) E0 [.ref (a 0), .int x1, .int x2, .int x3] (wD cI cZ cO a u) (some (.int r)) (wD cI cZ cO a o) := by
  refine sm_start (cc := cX11_memoryThen) (maxL := 5) (ret := (some .int)) (own := RX11) (by decide) rfl rfl (Nat.le_of_ble_eq_true rfl) (lv := [(0, .ref (a 0)), (1, .int x1), (2, .int x2), (3, .int x3)]) rfl ?_
  intro p e s m below meth c A F hE hA
  unfold f_X11_memoryThen at hf
  refine sm_aload_n F dX11_memoryThen_0 rfl 0 rfl ?_
  refine sm_iload_n F dX11_memoryThen_1 rfl 1 rfl ?_
  refine sm_iload_n F dX11_memoryThen_2 rfl 2 rfl ?_
  obtain ⟨z3, hz3, hf⟩ := bd_some hf
  refine sm_callV (rest := []) F (ct_X11_areTwo l D cI cZ cO a hz3) (cut_D_id cI cZ cO a u u) rfl rfl rfl qw5_106 qw5_108 qw0_36 qw1_12 qw5_109 hvX11_areTwo ⟨Nat.le_of_ble_eq_true rfl, Nat.le_of_ble_eq_true rfl⟩ ⟨Nat.zero_le _, Nat.zero_le _⟩ 0 11 rfl rfl rfl rfl (Nat.le_of_ble_eq_true rfl) E0_b (fun _ _ _ _ _ _ => trivial) rfl dX11_memoryThen_3 [.int z3] rfl ?_
  refine sm_if_eq (tgt := 19) F dX11_memoryThen_6 (by decide) (fun c6 => ?_) (fun c6 => ?_)
  · replace hf := if_t c6 hf
    refine sm_iconst F dX11_memoryThen_19 kc_i_m1 ?_
    exact s_X11_memoryThen_20 F x1 x2 x3 u ((-1) : Int32) hf
  · replace hf := if_f c6 hf
    refine sm_iload_n F dX11_memoryThen_9 rfl 3 rfl ?_
    refine sm_iconst F dX11_memoryThen_10 kc_i_0 ?_
    refine sm_bipush F dX11_memoryThen_11 kc_b_99 ?_
    obtain ⟨z13, hz13, hf⟩ := bd_some hf
    refine sm_callS (rest := []) F (ct_X11_wrongBy l D (tyL cI cZ cO) hz13) (cut_D_none cI cZ cO a u) rfl rfl rfl qw5_159 qw5_160 qw1_12 qw5_161 hsX11_wrongBy ⟨Nat.le_of_ble_eq_true rfl, Nat.le_of_ble_eq_true rfl⟩ ⟨Nat.zero_le _, Nat.zero_le _⟩ rfl (Nat.le_of_ble_eq_true rfl) E0_b (fun _ _ _ _ _ _ => trivial) rfl dX11_memoryThen_13 [.int z13] rfl ?_
    refine sm_goto (tgt := 20) F dX11_memoryThen_16 (by decide) ?_
    exact s_X11_memoryThen_20 F x1 x2 x3 u z13 hf
/-! SoManyForgottenModel.knownThen(II)I -/
abbrev rmX11_knownThen : Room := { frames := 7, cells := 0, slots := 0, locals := 153 }
set_option maxRecDepth 100000 in
theorem hvX11_knownThen : yX11_knownThen.cls = RX11 ∧ yX11_knownThen.cls ≠ "java/lang/invoke/MethodHandle" ∧ yX11_knownThen.cls ≠ "java/lang/invoke/VarHandle" ∧ (parseMethodDescriptor yX11_knownThen.desc).map (fun d => d.parameters.length) = some 2 := by decide +kernel
set_option maxRecDepth 100000 in
set_option maxHeartbeats 4000000 in
theorem s_X11_knownThen_19 {p : Program} {l : Launch} {e : Env} {s : State} {m : MethodId} {args : Array Value} {below : List Frame} {meth : Method} {c : Code} {A : Nat → Prop} {D : va_G} {cI cZ cO : ClassId} {a : Nat → Nat} {r : Int32} {o : DS} (F : smF p s m args meth c cX11_knownThen 4 (some .int) RX11 D (tyL cI cZ cO) A) (x1 : Int32) (x2 : Int32)  (u : DS) (y0 : Int32) (hf : f_X11_knownThen_19 x1 x2   u y0 = some (r, o)) : Sm p l e rmX11_knownThen s m args below meth c D A 4 0 0 (smQ below args s D A (some (.int r)) (wD cI cZ cO a o)) 19 [(0, .ref (a 0)), (1, .int x1), (2, .int x2)] [.int y0] (wD cI cZ cO a u) := by
  unfold f_X11_knownThen_19 at hf
  refine sm_istore_n F [(0, .ref (a 0)), (1, .int x1), (2, .int x2), (3, .int y0)] [1, 2, 3, 0] dX11_knownThen_19 rfl (by decide) rfl ?_
  refine sm_iload_n F dX11_knownThen_20 rfl 3 rfl ?_
  refine sm_if_eq (tgt := 30) F dX11_knownThen_21 (by decide) (fun c21 => ?_) (fun c21 => ?_)
  · replace hf := if_t c21 hf
    refine sm_aload_n F dX11_knownThen_30 rfl 0 rfl ?_
    refine sm_iload_n F dX11_knownThen_31 rfl 2 rfl ?_
    obtain ⟨z32, hz32, hf⟩ := bd_some hf
    refine sm_callV (rest := []) F (ct_X11_takes l D cI cZ cO a hz32) (cut_D_id cI cZ cO a u z32) rfl rfl rfl qw5_196 qw5_198 qw0_38 qw1_12 qw5_199 hvX11_takes ⟨Nat.le_of_ble_eq_true rfl, Nat.le_of_ble_eq_true rfl⟩ ⟨Nat.zero_le _, Nat.zero_le _⟩ 0 11 rfl rfl rfl rfl (Nat.le_of_ble_eq_true rfl) E0_b (fun _ _ _ _ _ _ => trivial) rfl dX11_knownThen_32 [] rfl ?_
    refine sm_aload_n F dX11_knownThen_35 rfl 0 rfl ?_
    refine sm_get (v := .ref (a 2)) F inX11 0 rfl rfl 1 (by decide) qw5_16 rfl rfl dX11_knownThen_36 ?_
    refine sm_iload_n F dX11_knownThen_39 rfl 1 rfl ?_
    obtain ⟨z40, hz40, hf⟩ := bd_some hf
    refine sm_callS (rest := []) F (ct_X11_knownIn l D cI cZ cO (fun i => a (pm_D_i2 i)) hz40) (cut_D_i2_ro cI cZ cO a z32) rfl rfl rfl qw5_141 qw5_142 qw1_12 qw5_143 hsX11_knownIn ⟨Nat.le_of_ble_eq_true rfl, Nat.le_of_ble_eq_true rfl⟩ ⟨Nat.zero_le _, Nat.zero_le _⟩ rfl (Nat.le_of_ble_eq_true rfl) E0_b (fun _ _ _ _ _ _ => trivial) rfl dX11_knownThen_40 [.int z40] rfl ?_
    exact sm_iret F dX11_knownThen_43 (Prod.mk.inj (Option.some.inj hf)).1 (congrArg (fun z => (wD cI cZ cO a z)) (Prod.mk.inj (Option.some.inj hf)).2)
  · replace hf := if_f c21 hf
    refine sm_aload_n F dX11_knownThen_24 rfl 0 rfl ?_
    refine sm_iload_n F dX11_knownThen_25 rfl 3 rfl ?_
    obtain ⟨z26, hz26, hf⟩ := bd_some hf
    refine sm_callV (rest := []) F (ct_X11_no l D cI cZ cO a hz26) (cut_D_id cI cZ cO a u z26.2) rfl rfl rfl qw5_59 qw5_61 qw0_29 qw1_12 qw5_62 hvX11_no ⟨Nat.le_of_ble_eq_true rfl, Nat.le_of_ble_eq_true rfl⟩ ⟨Nat.zero_le _, Nat.zero_le _⟩ 0 11 rfl rfl rfl rfl (Nat.le_of_ble_eq_true rfl) E0_b (fun _ _ _ _ _ _ => trivial) rfl dX11_knownThen_26 [.int z26.1] rfl ?_
    exact sm_iret F dX11_knownThen_29 (Prod.mk.inj (Option.some.inj hf)).1 (congrArg (fun z => (wD cI cZ cO a z)) (Prod.mk.inj (Option.some.inj hf)).2)
set_option maxRecDepth 100000 in
set_option maxHeartbeats 4000000 in
theorem ct_X11_knownThen (l : Launch) (D : va_G) (cI cZ cO : ClassId) (a : Nat → Nat) {u : DS} {x1 : Int32} {x2 : Int32} {r : Int32} {o : DS} (hf : f_X11_knownThen u x1 x2 = some (r, o)) : Ct l yX11_knownThen (uw (Cond.code yX11_knownThen cX11_knownThen 4 (some .int))) rmX11_knownThen D (tyL cI cZ cO) E0 [.ref (a 0), .int x1, .int x2] (wD cI cZ cO a u) (some (.int r)) (wD cI cZ cO a o) := by
  refine sm_start (cc := cX11_knownThen) (maxL := 4) (ret := (some .int)) (own := RX11) (by decide) rfl rfl (Nat.le_of_ble_eq_true rfl) (lv := [(0, .ref (a 0)), (1, .int x1), (2, .int x2)]) rfl ?_
  intro p e s m below meth c A F hE hA
  unfold f_X11_knownThen at hf
  refine sm_aload_n F dX11_knownThen_0 rfl 0 rfl ?_
  refine sm_iload_n F dX11_knownThen_1 rfl 1 rfl ?_
  obtain ⟨z2, hz2, hf⟩ := bd_some hf
  refine sm_callV (rest := []) F (ct_X11_isOne l D cI cZ cO a hz2) (cut_D_id cI cZ cO a u u) rfl rfl rfl qw5_110 qw5_112 qw0_37 qw1_12 qw5_113 hvX11_isOne ⟨Nat.le_of_ble_eq_true rfl, Nat.le_of_ble_eq_true rfl⟩ ⟨Nat.zero_le _, Nat.zero_le _⟩ 0 11 rfl rfl rfl rfl (Nat.le_of_ble_eq_true rfl) E0_b (fun _ _ _ _ _ _ => trivial) rfl dX11_knownThen_2 [.int z2] rfl ?_
  refine sm_if_eq (tgt := 18) F dX11_knownThen_5 (by decide) (fun c5 => ?_) (fun c5 => ?_)
  · replace hf := if_t c5 hf
    refine sm_iconst F dX11_knownThen_18 kc_i_m1 ?_
    exact s_X11_knownThen_19 F x1 x2 u ((-1) : Int32) hf
  · replace hf := if_f c5 hf
    refine sm_iload_n F dX11_knownThen_8 rfl 2 rfl ?_
    refine sm_iconst F dX11_knownThen_9 kc_i_0 ?_
    refine sm_bipush F dX11_knownThen_10 kc_b_99 ?_
    obtain ⟨z12, hz12, hf⟩ := bd_some hf
    refine sm_callS (rest := []) F (ct_X11_wrongBy l D (tyL cI cZ cO) hz12) (cut_D_none cI cZ cO a u) rfl rfl rfl qw5_159 qw5_160 qw1_12 qw5_161 hsX11_wrongBy ⟨Nat.le_of_ble_eq_true rfl, Nat.le_of_ble_eq_true rfl⟩ ⟨Nat.zero_le _, Nat.zero_le _⟩ rfl (Nat.le_of_ble_eq_true rfl) E0_b (fun _ _ _ _ _ _ => trivial) rfl dX11_knownThen_12 [.int z12] rfl ?_
    refine sm_goto (tgt := 19) F dX11_knownThen_15 (by decide) ?_
    exact s_X11_knownThen_19 F x1 x2 u z12 hf
/-! SoManyForgottenModel.gone(I)I -/
abbrev rmX11_gone : Room := { frames := 7, cells := 0, slots := 0, locals := 153 }
set_option maxRecDepth 100000 in
theorem hvX11_gone : yX11_gone.cls = RX11 ∧ yX11_gone.cls ≠ "java/lang/invoke/MethodHandle" ∧ yX11_gone.cls ≠ "java/lang/invoke/VarHandle" ∧ (parseMethodDescriptor yX11_gone.desc).map (fun d => d.parameters.length) = some 1 := by decide +kernel
set_option maxRecDepth 100000 in
set_option maxHeartbeats 4000000 in
theorem ct_X11_gone (l : Launch) (D : va_G) (cI cZ cO : ClassId) (a : Nat → Nat) {u : DS} {x1 : Int32} {r : Int32} {o : DS} (hf : f_X11_gone u x1 = some (r, o)) : Ct l yX11_gone (uw (Cond.code yX11_gone cX11_gone 3 (some .int))) rmX11_gone D (tyL cI cZ cO) E0 [.ref (a 0), .int x1] (wD cI cZ cO a u) (some (.int r)) (wD cI cZ cO a o) := by
  refine sm_start (cc := cX11_gone) (maxL := 3) (ret := (some .int)) (own := RX11) (by decide) rfl rfl (Nat.le_of_ble_eq_true rfl) (lv := [(0, .ref (a 0)), (1, .int x1)]) rfl ?_
  intro p e s m below meth c A F hE hA
  unfold f_X11_gone at hf
  refine sm_iload_n F dX11_gone_0 rfl 1 rfl ?_
  refine sm_iconst F dX11_gone_1 kc_i_0 ?_
  refine sm_bipush F dX11_gone_2 kc_b_99 ?_
  obtain ⟨z4, hz4, hf⟩ := bd_some hf
  refine sm_callS (rest := []) F (ct_X11_wrongBy l D (tyL cI cZ cO) hz4) (cut_D_none cI cZ cO a u) rfl rfl rfl qw5_159 qw5_160 qw1_12 qw5_161 hsX11_wrongBy ⟨Nat.le_of_ble_eq_true rfl, Nat.le_of_ble_eq_true rfl⟩ ⟨Nat.zero_le _, Nat.zero_le _⟩ rfl (Nat.le_of_ble_eq_true rfl) E0_b (fun _ _ _ _ _ _ => trivial) rfl dX11_gone_4 [.int z4] rfl ?_
  refine sm_istore_n F [(0, .ref (a 0)), (1, .int x1), (2, .int z4)] [1, 2, 0] dX11_gone_7 rfl (by decide) rfl ?_
  refine sm_iload_n F dX11_gone_8 rfl 2 rfl ?_
  refine sm_if_eq (tgt := 18) F dX11_gone_9 (by decide) (fun c9 => ?_) (fun c9 => ?_)
  · replace hf := if_t c9 hf
    refine sm_aload_n F dX11_gone_18 rfl 0 rfl ?_
    refine sm_iload_n F dX11_gone_19 rfl 1 rfl ?_
    obtain ⟨z20, hz20, hf⟩ := bd_some hf
    refine sm_callV (rest := []) F (ct_X11_takes l D cI cZ cO a hz20) (cut_D_id cI cZ cO a u z20) rfl rfl rfl qw5_196 qw5_198 qw0_38 qw1_12 qw5_199 hvX11_takes ⟨Nat.le_of_ble_eq_true rfl, Nat.le_of_ble_eq_true rfl⟩ ⟨Nat.zero_le _, Nat.zero_le _⟩ 0 11 rfl rfl rfl rfl (Nat.le_of_ble_eq_true rfl) E0_b (fun _ _ _ _ _ _ => trivial) rfl dX11_gone_20 [] rfl ?_
    refine sm_iconst F dX11_gone_23 kc_i_1 ?_
    refine sm_aload_n F dX11_gone_24 rfl 0 rfl ?_
    refine sm_get (v := .ref (a 2)) F inX11 0 rfl rfl 1 (by decide) qw5_16 rfl rfl dX11_gone_25 ?_
    refine sm_iconst F dX11_gone_28 kc_i_0 ?_
    obtain ⟨h29, hf⟩ := ck_some hf
    refine sm_iald F 2 0 rfl rfl h29 dX11_gone_29 ?_
    refine sm_ishl F dX11_gone_30 ?_
    refine sm_iconst F dX11_gone_31 kc_i_1 ?_
    refine sm_isub F dX11_gone_32 ?_
    refine sm_aload_n F dX11_gone_33 rfl 0 rfl ?_
    refine sm_get (v := .ref (a 2)) F inX11 0 rfl rfl 1 (by decide) qw5_16 rfl rfl dX11_gone_34 ?_
    obtain ⟨z37, hz37, hf⟩ := bd_some hf
    refine sm_callS (rest := [.int (((1 : Int32) <<< (((gD_m z20) (Int32.toNatClampNeg (0 : Int32))) &&& 31)) - (1 : Int32))]) F (ct_X11_hereIn l D cI cZ cO (fun i => a (pm_D_i2 i)) hz37) (cut_D_i2_ro cI cZ cO a z20) rfl rfl rfl qw5_174 qw5_175 qw1_12 qw5_176 hsX11_hereIn ⟨Nat.le_of_ble_eq_true rfl, Nat.le_of_ble_eq_true rfl⟩ ⟨Nat.zero_le _, Nat.zero_le _⟩ rfl (Nat.le_of_ble_eq_true rfl) E0_b (fun _ _ _ _ _ _ => trivial) rfl dX11_gone_37 [.int z37, .int (((1 : Int32) <<< (((gD_m z20) (Int32.toNatClampNeg (0 : Int32))) &&& 31)) - (1 : Int32))] rfl ?_
    refine sm_iconst F dX11_gone_40 kc_i_m1 ?_
    refine sm_ixor F dX11_gone_41 ?_
    refine sm_iand F dX11_gone_42 ?_
    exact sm_iret F dX11_gone_43 (Prod.mk.inj (Option.some.inj hf)).1 (congrArg (fun z => (wD cI cZ cO a z)) (Prod.mk.inj (Option.some.inj hf)).2)
  · replace hf := if_f c9 hf
    refine sm_aload_n F dX11_gone_12 rfl 0 rfl ?_
    refine sm_iload_n F dX11_gone_13 rfl 2 rfl ?_
    obtain ⟨z14, hz14, hf⟩ := bd_some hf
    refine sm_callV (rest := []) F (ct_X11_no l D cI cZ cO a hz14) (cut_D_id cI cZ cO a u z14.2) rfl rfl rfl qw5_59 qw5_61 qw0_29 qw1_12 qw5_62 hvX11_no ⟨Nat.le_of_ble_eq_true rfl, Nat.le_of_ble_eq_true rfl⟩ ⟨Nat.zero_le _, Nat.zero_le _⟩ 0 11 rfl rfl rfl rfl (Nat.le_of_ble_eq_true rfl) E0_b (fun _ _ _ _ _ _ => trivial) rfl dX11_gone_14 [.int z14.1] rfl ?_
    exact sm_iret F dX11_gone_17 (Prod.mk.inj (Option.some.inj hf)).1 (congrArg (fun z => (wD cI cZ cO a z)) (Prod.mk.inj (Option.some.inj hf)).2)
/-! SoManyForgottenModel.goesIn(I)I -/
abbrev rmX11_goesIn : Room := { frames := 5, cells := 0, slots := 0, locals := 110 }
set_option maxRecDepth 100000 in
theorem hvX11_goesIn : yX11_goesIn.cls = RX11 ∧ yX11_goesIn.cls ≠ "java/lang/invoke/MethodHandle" ∧ yX11_goesIn.cls ≠ "java/lang/invoke/VarHandle" ∧ (parseMethodDescriptor yX11_goesIn.desc).map (fun d => d.parameters.length) = some 1 := by decide +kernel
set_option maxRecDepth 100000 in
set_option maxHeartbeats 4000000 in
theorem s_X11_goesIn_2_b {p : Program} {l : Launch} {e : Env} {s : State} {m : MethodId} {args : Array Value} {below : List Frame} {meth : Method} {c : Code} {A : Nat → Prop} {D : va_G} {cI cZ cO : ClassId} {a : Nat → Nat} {r : Int32} {o : DS} (F : smF p s m args meth c cX11_goesIn 3 (some .int) RX11 D (tyL cI cZ cO) A) (x1 : Int32) (k2 : DS → Int32 → Option (Int32 × (DS))) (hk2 : ∀ (u' : DS) (x2' : Int32), k2 u' x2' = some (r, o) → Sm p l e rmX11_goesIn s m args below meth c D A 3 0 0 (smQ below args s D A (some (.int r)) (wD cI cZ cO a o)) 2 [(0, .ref (a 0)), (1, .int x1), (2, .int x2')] [] (wD cI cZ cO a u')) (u : DS) (x2 : Int32) (hf : b_X11_goesIn_2 x1  k2 u x2 = some (r, o)) : Sm p l e rmX11_goesIn s m args below meth c D A 3 0 0 (smQ below args s D A (some (.int r)) (wD cI cZ cO a o)) 2 [(0, .ref (a 0)), (1, .int x1), (2, .int x2)] [] (wD cI cZ cO a u) := by
  unfold b_X11_goesIn_2 at hf
  refine sm_iload_n F dX11_goesIn_2 rfl 2 rfl ?_
  refine sm_bipush F dX11_goesIn_3 kc_b_99 ?_
  refine sm_icmp_gt (tgt := 34) F dX11_goesIn_5 (by decide) (fun c5 => ?_) (fun c5 => ?_)
  · replace hf := if_t c5 hf
    refine sm_bipush F dX11_goesIn_34 kc_b_m9 ?_
    exact sm_iret F dX11_goesIn_36 (Prod.mk.inj (Option.some.inj hf)).1 (congrArg (fun z => (wD cI cZ cO a z)) (Prod.mk.inj (Option.some.inj hf)).2)
  · replace hf := if_f c5 hf
    refine sm_aload_n F dX11_goesIn_8 rfl 0 rfl ?_
    refine sm_get (v := .ref (a 2)) F inX11 0 rfl rfl 1 (by decide) qw5_16 rfl rfl dX11_goesIn_9 ?_
    refine sm_iload_n F dX11_goesIn_12 rfl 1 rfl ?_
    obtain ⟨z13, hz13, hf⟩ := bd_some hf
    refine sm_callS (rest := []) F (ct_X11_isHere l D cI cZ cO (fun i => a (pm_D_i2 i)) hz13) (cut_D_i2_ro cI cZ cO a u) rfl rfl rfl qw5_114 qw5_115 qw1_12 qw5_116 hsX11_isHere ⟨Nat.le_of_ble_eq_true rfl, Nat.le_of_ble_eq_true rfl⟩ ⟨Nat.zero_le _, Nat.zero_le _⟩ rfl (Nat.le_of_ble_eq_true rfl) E0_b (fun _ _ _ _ _ _ => trivial) rfl dX11_goesIn_13 [.int z13] rfl ?_
    refine sm_if_ne (tgt := 21) F dX11_goesIn_16 (by decide) (fun c16 => ?_) (fun c16 => ?_)
    · replace hf := if_f c16 hf
      refine sm_aload_n F dX11_goesIn_21 rfl 0 rfl ?_
      refine sm_get (v := .ref (a 2)) F inX11 0 rfl rfl 1 (by decide) qw5_16 rfl rfl dX11_goesIn_22 ?_
      obtain ⟨z25, hz25, hf⟩ := bd_some hf
      refine sm_callS (rest := []) F (ct_X11_week l D cI cZ cO (fun i => a (pm_D_i2 i)) hz25) (cut_D_i2 cI cZ cO a u z25) rfl rfl rfl qw5_129 qw5_130 qw1_12 qw5_131 hsX11_week ⟨Nat.le_of_ble_eq_true rfl, Nat.le_of_ble_eq_true rfl⟩ ⟨Nat.zero_le _, Nat.zero_le _⟩ rfl (Nat.le_of_ble_eq_true rfl) E0_b (fun _ _ _ _ _ _ => trivial) rfl dX11_goesIn_25 [] rfl ?_
      refine sm_iinc F [(0, .ref (a 0)), (1, .int x1), (2, .int (x2 + 1))] 2 [1, 2, 0] dX11_goesIn_28 rfl kc_i_1 (by decide) rfl ?_
      refine sm_goto (tgt := 2) F dX11_goesIn_31 (by decide) ?_
      exact hk2 (sD_m u z25) (x2 + 1) hf
    · replace hf := if_t c16 hf
      refine sm_iload_n F dX11_goesIn_19 rfl 2 rfl ?_
      exact sm_iret F dX11_goesIn_20 (Prod.mk.inj (Option.some.inj hf)).1 (congrArg (fun z => (wD cI cZ cO a z)) (Prod.mk.inj (Option.some.inj hf)).2)
set_option maxRecDepth 100000 in
set_option maxHeartbeats 4000000 in
theorem s_X11_goesIn_2 {p : Program} {l : Launch} {e : Env} {s : State} {m : MethodId} {args : Array Value} {below : List Frame} {meth : Method} {c : Code} {A : Nat → Prop} {D : va_G} {cI cZ cO : ClassId} {a : Nat → Nat} {r : Int32} {o : DS} (F : smF p s m args meth c cX11_goesIn 3 (some .int) RX11 D (tyL cI cZ cO) A) (x1 : Int32)  (n : Nat) (u : DS) (x2 : Int32) (hf : f_X11_goesIn_2 x1  n u x2 = some (r, o)) : Sm p l e rmX11_goesIn s m args below meth c D A 3 0 0 (smQ below args s D A (some (.int r)) (wD cI cZ cO a o)) 2 [(0, .ref (a 0)), (1, .int x1), (2, .int x2)] [] (wD cI cZ cO a u) :=
  lq2_ind (P := fun (u : DS) (x2 : Int32) => Sm p l e rmX11_goesIn s m args below meth c D A 3 0 0 (smQ below args s D A (some (.int r)) (wD cI cZ cO a o)) 2 [(0, .ref (a 0)), (1, .int x1), (2, .int x2)] [] (wD cI cZ cO a u)) (fun k2 hk2 u x2 h9 => s_X11_goesIn_2_b F x1  k2 hk2 u x2 h9) n u x2 hf
set_option maxRecDepth 100000 in
set_option maxHeartbeats 4000000 in
theorem ct_X11_goesIn (l : Launch) (D : va_G) (cI cZ cO : ClassId) (a : Nat → Nat) {u : DS} {x1 : Int32} {r : Int32} {o : DS} (hf : f_X11_goesIn u x1 = some (r, o)) : Ct l yX11_goesIn (uw (Cond.code yX11_goesIn cX11_goesIn 3 (some .int))) rmX11_goesIn D (tyL cI cZ cO) E0 [.ref (a 0), .int x1] (wD cI cZ cO a u) (some (.int r)) (wD cI cZ cO a o) := by
  refine sm_start (cc := cX11_goesIn) (maxL := 3) (ret := (some .int)) (own := RX11) (by decide) rfl rfl (Nat.le_of_ble_eq_true rfl) (lv := [(0, .ref (a 0)), (1, .int x1)]) rfl ?_
  intro p e s m below meth c A F hE hA
  unfold f_X11_goesIn at hf
  refine sm_iconst F dX11_goesIn_0 kc_i_0 ?_
  refine sm_istore_n F [(0, .ref (a 0)), (1, .int x1), (2, .int (0 : Int32))] [1, 2, 0] dX11_goesIn_1 rfl (by decide) rfl ?_
  exact s_X11_goesIn_2 F x1 smN u (0 : Int32) hf
/-! SoManyForgottenModel.goesOf(I)I -/
abbrev rmX11_goesOf : Room := { frames := 6, cells := 0, slots := 0, locals := 132 }
set_option maxRecDepth 100000 in
theorem hvX11_goesOf : yX11_goesOf.cls = RX11 ∧ yX11_goesOf.cls ≠ "java/lang/invoke/MethodHandle" ∧ yX11_goesOf.cls ≠ "java/lang/invoke/VarHandle" ∧ (parseMethodDescriptor yX11_goesOf.desc).map (fun d => d.parameters.length) = some 1 := by decide +kernel
set_option maxRecDepth 100000 in
set_option maxHeartbeats 4000000 in
theorem ct_X11_goesOf (l : Launch) (D : va_G) (cI cZ cO : ClassId) (a : Nat → Nat) {u : DS} {x1 : Int32} {r : Int32} {o : DS} (hf : f_X11_goesOf u x1 = some (r, o)) : Ct l yX11_goesOf (uw (Cond.code yX11_goesOf cX11_goesOf 2 (some .int))) rmX11_goesOf D (tyL cI cZ cO) E0 [.ref (a 0), .int x1] (wD cI cZ cO a u) (some (.int r)) (wD cI cZ cO a o) := by
  refine sm_start (cc := cX11_goesOf) (maxL := 2) (ret := (some .int)) (own := RX11) (by decide) rfl rfl (Nat.le_of_ble_eq_true rfl) (lv := [(0, .ref (a 0)), (1, .int x1)]) rfl ?_
  intro p e s m below meth c A F hE hA
  unfold f_X11_goesOf at hf
  refine sm_aload_n F dX11_goesOf_0 rfl 0 rfl ?_
  refine sm_get (v := .ref (a 1)) F inX11 0 rfl rfl 0 (by decide) qw5_15 rfl rfl dX11_goesOf_1 ?_
  refine sm_aload_n F dX11_goesOf_4 rfl 0 rfl ?_
  refine sm_get (v := .ref (a 2)) F inX11 0 rfl rfl 1 (by decide) qw5_16 rfl rfl dX11_goesOf_5 ?_
  obtain ⟨z8, hz8, hf⟩ := bd_some hf
  refine sm_callS (rest := []) F (ct_X11_copies l D cI cZ cO (fun i => a (pm_D_ii1_2 i)) hz8) (cut_D_ii1_2 cI cZ cO a u z8) rfl rfl rfl qw5_89 qw5_90 qw1_12 qw5_91 hsX11_copies ⟨Nat.le_of_ble_eq_true rfl, Nat.le_of_ble_eq_true rfl⟩ ⟨Nat.zero_le _, Nat.zero_le _⟩ rfl (Nat.le_of_ble_eq_true rfl) E0_b (fun _ _ _ _ _ _ => trivial) rfl dX11_goesOf_8 [] rfl ?_
  refine sm_aload_n F dX11_goesOf_11 rfl 0 rfl ?_
  refine sm_iload_n F dX11_goesOf_12 rfl 1 rfl ?_
  obtain ⟨z13, hz13, hf⟩ := bd_some hf
  refine sm_callV (rest := []) F (ct_X11_goesIn l D cI cZ cO a hz13) (cut_D_id cI cZ cO a (sD_m (sD_s u z8.1) z8.2) z13.2) rfl rfl rfl qw5_216 qw5_218 qw0_40 qw1_12 qw5_219 hvX11_goesIn ⟨Nat.le_of_ble_eq_true rfl, Nat.le_of_ble_eq_true rfl⟩ ⟨Nat.zero_le _, Nat.zero_le _⟩ 0 11 rfl rfl rfl rfl (Nat.le_of_ble_eq_true rfl) E0_b (fun _ _ _ _ _ _ => trivial) rfl dX11_goesOf_13 [.int z13.1] rfl ?_
  exact sm_iret F dX11_goesOf_16 (Prod.mk.inj (Option.some.inj hf)).1 (congrArg (fun z => (wD cI cZ cO a z)) (Prod.mk.inj (Option.some.inj hf)).2)
/-! SoManyForgottenModel.goes(I)I -/
abbrev rmX11_goes : Room := { frames := 7, cells := 0, slots := 0, locals := 153 }
set_option maxRecDepth 100000 in
theorem hvX11_goes : yX11_goes.cls = RX11 ∧ yX11_goes.cls ≠ "java/lang/invoke/MethodHandle" ∧ yX11_goes.cls ≠ "java/lang/invoke/VarHandle" ∧ (parseMethodDescriptor yX11_goes.desc).map (fun d => d.parameters.length) = some 1 := by decide +kernel
set_option maxRecDepth 100000 in
set_option maxHeartbeats 4000000 in
theorem ct_X11_goes (l : Launch) (D : va_G) (cI cZ cO : ClassId) (a : Nat → Nat) {u : DS} {x1 : Int32} {r : Int32} {o : DS} (hf : f_X11_goes u x1 = some (r, o)) : Ct l yX11_goes (uw (Cond.code yX11_goes cX11_goes 2 (some .int))) rmX11_goes D (tyL cI cZ cO) E0 [.ref (a 0), .int x1] (wD cI cZ cO a u) (some (.int r)) (wD cI cZ cO a o) := by
  refine sm_start (cc := cX11_goes) (maxL := 2) (ret := (some .int)) (own := RX11) (by decide) rfl rfl (Nat.le_of_ble_eq_true rfl) (lv := [(0, .ref (a 0)), (1, .int x1)]) rfl ?_
  intro p e s m below meth c A F hE hA
  unfold f_X11_goes at hf
  refine sm_aload_n F dX11_goes_0 rfl 0 rfl ?_
  refine sm_iload_n F dX11_goes_1 rfl 1 rfl ?_
  obtain ⟨z2, hz2, hf⟩ := bd_some hf
  refine sm_callV (rest := []) F (ct_X11_isOne l D cI cZ cO a hz2) (cut_D_id cI cZ cO a u u) rfl rfl rfl qw5_110 qw5_112 qw0_37 qw1_12 qw5_113 hvX11_isOne ⟨Nat.le_of_ble_eq_true rfl, Nat.le_of_ble_eq_true rfl⟩ ⟨Nat.zero_le _, Nat.zero_le _⟩ 0 11 rfl rfl rfl rfl (Nat.le_of_ble_eq_true rfl) E0_b (fun _ _ _ _ _ _ => trivial) rfl dX11_goes_2 [.int z2] rfl ?_
  refine sm_if_eq (tgt := 16) F dX11_goes_5 (by decide) (fun c5 => ?_) (fun c5 => ?_)
  · replace hf := if_t c5 hf
    refine sm_aload_n F dX11_goes_16 rfl 0 rfl ?_
    refine sm_iconst F dX11_goes_17 kc_i_m1 ?_
    obtain ⟨z18, hz18, hf⟩ := bd_some hf
    refine sm_callV (rest := []) F (ct_X11_no l D cI cZ cO a hz18) (cut_D_id cI cZ cO a u z18.2) rfl rfl rfl qw5_59 qw5_61 qw0_29 qw1_12 qw5_62 hvX11_no ⟨Nat.le_of_ble_eq_true rfl, Nat.le_of_ble_eq_true rfl⟩ ⟨Nat.zero_le _, Nat.zero_le _⟩ 0 11 rfl rfl rfl rfl (Nat.le_of_ble_eq_true rfl) E0_b (fun _ _ _ _ _ _ => trivial) rfl dX11_goes_18 [.int z18.1] rfl ?_
    exact sm_iret F dX11_goes_21 (Prod.mk.inj (Option.some.inj hf)).1 (congrArg (fun z => (wD cI cZ cO a z)) (Prod.mk.inj (Option.some.inj hf)).2)
  · replace hf := if_f c5 hf
    refine sm_aload_n F dX11_goes_8 rfl 0 rfl ?_
    refine sm_iload_n F dX11_goes_9 rfl 1 rfl ?_
    obtain ⟨z10, hz10, hf⟩ := bd_some hf
    refine sm_callV (rest := []) F (ct_X11_goesOf l D cI cZ cO a hz10) (cut_D_id cI cZ cO a u z10.2) rfl rfl rfl qw5_212 qw5_214 qw0_39 qw1_12 qw5_215 hvX11_goesOf ⟨Nat.le_of_ble_eq_true rfl, Nat.le_of_ble_eq_true rfl⟩ ⟨Nat.zero_le _, Nat.zero_le _⟩ 0 11 rfl rfl rfl rfl (Nat.le_of_ble_eq_true rfl) E0_b (fun _ _ _ _ _ _ => trivial) rfl dX11_goes_10 [.int z10.1] rfl ?_
    refine sm_goto (tgt := 21) F dX11_goes_13 (by decide) ?_
    exact sm_iret F dX11_goes_21 (Prod.mk.inj (Option.some.inj hf)).1 (congrArg (fun z => (wD cI cZ cO a z)) (Prod.mk.inj (Option.some.inj hf)).2)
/-! SoManyForgottenModel.emptyBehind()I -/
abbrev rmX11_emptyBehind : Room := { frames := 5, cells := 0, slots := 0, locals := 110 }
set_option maxRecDepth 100000 in
theorem hvX11_emptyBehind : yX11_emptyBehind.cls = RX11 ∧ yX11_emptyBehind.cls ≠ "java/lang/invoke/MethodHandle" ∧ yX11_emptyBehind.cls ≠ "java/lang/invoke/VarHandle" ∧ (parseMethodDescriptor yX11_emptyBehind.desc).map (fun d => d.parameters.length) = some 0 := by decide +kernel
set_option maxRecDepth 100000 in
set_option maxHeartbeats 4000000 in
theorem s_X11_emptyBehind_13_b {p : Program} {l : Launch} {e : Env} {s : State} {m : MethodId} {args : Array Value} {below : List Frame} {meth : Method} {c : Code} {A : Nat → Prop} {D : va_G} {cI cZ cO : ClassId} {a : Nat → Nat} {r : Int32} {o : DS} (F : smF p s m args meth c cX11_emptyBehind 2 (some .int) RX11 D (tyL cI cZ cO) A)  (k13 : DS → Int32 → Option (Int32 × (DS))) (hk13 : ∀ (u' : DS) (x1' : Int32), k13 u' x1' = some (r, o) → Sm p l e rmX11_emptyBehind s m args below meth c D A 2 0 0 (smQ below args s D A (some (.int r)) (wD cI cZ cO a o)) 13 [(0, .ref (a 0)), (1, .int x1')] [] (wD cI cZ cO a u')) (u : DS) (x1 : Int32) (hf : b_X11_emptyBehind_13   k13 u x1 = some (r, o)) : Sm p l e rmX11_emptyBehind s m args below meth c D A 2 0 0 (smQ below args s D A (some (.int r)) (wD cI cZ cO a o)) 13 [(0, .ref (a 0)), (1, .int x1)] [] (wD cI cZ cO a u) := by
  unfold b_X11_emptyBehind_13 at hf
  refine sm_iload_n F dX11_emptyBehind_13 rfl 1 rfl ?_
  refine sm_bipush F dX11_emptyBehind_14 kc_b_99 ?_
  refine sm_icmp_gt (tgt := 44) F dX11_emptyBehind_16 (by decide) (fun c16 => ?_) (fun c16 => ?_)
  · replace hf := if_t c16 hf
    refine sm_bipush F dX11_emptyBehind_44 kc_b_m9 ?_
    exact sm_iret F dX11_emptyBehind_46 (Prod.mk.inj (Option.some.inj hf)).1 (congrArg (fun z => (wD cI cZ cO a z)) (Prod.mk.inj (Option.some.inj hf)).2)
  · replace hf := if_f c16 hf
    refine sm_aload_n F dX11_emptyBehind_19 rfl 0 rfl ?_
    refine sm_get (v := .ref (a 2)) F inX11 0 rfl rfl 1 (by decide) qw5_16 rfl rfl dX11_emptyBehind_20 ?_
    obtain ⟨z23, hz23, hf⟩ := bd_some hf
    refine sm_callS (rest := []) F (ct_X11_hereIn l D cI cZ cO (fun i => a (pm_D_i2 i)) hz23) (cut_D_i2_ro cI cZ cO a u) rfl rfl rfl qw5_174 qw5_175 qw1_12 qw5_176 hsX11_hereIn ⟨Nat.le_of_ble_eq_true rfl, Nat.le_of_ble_eq_true rfl⟩ ⟨Nat.zero_le _, Nat.zero_le _⟩ rfl (Nat.le_of_ble_eq_true rfl) E0_b (fun _ _ _ _ _ _ => trivial) rfl dX11_emptyBehind_23 [.int z23] rfl ?_
    refine sm_if_ne (tgt := 31) F dX11_emptyBehind_26 (by decide) (fun c26 => ?_) (fun c26 => ?_)
    · replace hf := if_f c26 hf
      refine sm_aload_n F dX11_emptyBehind_31 rfl 0 rfl ?_
      refine sm_get (v := .ref (a 2)) F inX11 0 rfl rfl 1 (by decide) qw5_16 rfl rfl dX11_emptyBehind_32 ?_
      obtain ⟨z35, hz35, hf⟩ := bd_some hf
      refine sm_callS (rest := []) F (ct_X11_week l D cI cZ cO (fun i => a (pm_D_i2 i)) hz35) (cut_D_i2 cI cZ cO a u z35) rfl rfl rfl qw5_129 qw5_130 qw1_12 qw5_131 hsX11_week ⟨Nat.le_of_ble_eq_true rfl, Nat.le_of_ble_eq_true rfl⟩ ⟨Nat.zero_le _, Nat.zero_le _⟩ rfl (Nat.le_of_ble_eq_true rfl) E0_b (fun _ _ _ _ _ _ => trivial) rfl dX11_emptyBehind_35 [] rfl ?_
      refine sm_iinc F [(0, .ref (a 0)), (1, .int (x1 + 1))] 1 [1, 0] dX11_emptyBehind_38 rfl kc_i_1 (by decide) rfl ?_
      refine sm_goto (tgt := 13) F dX11_emptyBehind_41 (by decide) ?_
      exact hk13 (sD_m u z35) (x1 + 1) hf
    · replace hf := if_t c26 hf
      refine sm_iload_n F dX11_emptyBehind_29 rfl 1 rfl ?_
      exact sm_iret F dX11_emptyBehind_30 (Prod.mk.inj (Option.some.inj hf)).1 (congrArg (fun z => (wD cI cZ cO a z)) (Prod.mk.inj (Option.some.inj hf)).2)
set_option maxRecDepth 100000 in
set_option maxHeartbeats 4000000 in
theorem s_X11_emptyBehind_13 {p : Program} {l : Launch} {e : Env} {s : State} {m : MethodId} {args : Array Value} {below : List Frame} {meth : Method} {c : Code} {A : Nat → Prop} {D : va_G} {cI cZ cO : ClassId} {a : Nat → Nat} {r : Int32} {o : DS} (F : smF p s m args meth c cX11_emptyBehind 2 (some .int) RX11 D (tyL cI cZ cO) A)   (n : Nat) (u : DS) (x1 : Int32) (hf : f_X11_emptyBehind_13   n u x1 = some (r, o)) : Sm p l e rmX11_emptyBehind s m args below meth c D A 2 0 0 (smQ below args s D A (some (.int r)) (wD cI cZ cO a o)) 13 [(0, .ref (a 0)), (1, .int x1)] [] (wD cI cZ cO a u) :=
  lq2_ind (P := fun (u : DS) (x1 : Int32) => Sm p l e rmX11_emptyBehind s m args below meth c D A 2 0 0 (smQ below args s D A (some (.int r)) (wD cI cZ cO a o)) 13 [(0, .ref (a 0)), (1, .int x1)] [] (wD cI cZ cO a u)) (fun k13 hk13 u x1 h9 => s_X11_emptyBehind_13_b F   k13 hk13 u x1 h9) n u x1 hf
set_option maxRecDepth 100000 in
set_option maxHeartbeats 4000000 in
theorem ct_X11_emptyBehind (l : Launch) (D : va_G) (cI cZ cO : ClassId) (a : Nat → Nat) {u : DS} {r : Int32} {o : DS} (hf : f_X11_emptyBehind u = some (r, o)) : Ct l yX11_emptyBehind (uw (Cond.code yX11_emptyBehind cX11_emptyBehind 2 (some .int))) rmX11_emptyBehind D (tyL cI cZ cO) E0 [.ref (a 0)] (wD cI cZ cO a u) (some (.int r)) (wD cI cZ cO a o) := by
  refine sm_start (cc := cX11_emptyBehind) (maxL := 2) (ret := (some .int)) (own := RX11) (by decide) rfl rfl (Nat.le_of_ble_eq_true rfl) (lv := [(0, .ref (a 0))]) rfl ?_
  intro p e s m below meth c A F hE hA
  unfold f_X11_emptyBehind at hf
  refine sm_aload_n F dX11_emptyBehind_0 rfl 0 rfl ?_
  refine sm_get (v := .ref (a 1)) F inX11 0 rfl rfl 0 (by decide) qw5_15 rfl rfl dX11_emptyBehind_1 ?_
  refine sm_aload_n F dX11_emptyBehind_4 rfl 0 rfl ?_
  refine sm_get (v := .ref (a 2)) F inX11 0 rfl rfl 1 (by decide) qw5_16 rfl rfl dX11_emptyBehind_5 ?_
  obtain ⟨z8, hz8, hf⟩ := bd_some hf
  refine sm_callS (rest := []) F (ct_X11_copies l D cI cZ cO (fun i => a (pm_D_ii1_2 i)) hz8) (cut_D_ii1_2 cI cZ cO a u z8) rfl rfl rfl qw5_89 qw5_90 qw1_12 qw5_91 hsX11_copies ⟨Nat.le_of_ble_eq_true rfl, Nat.le_of_ble_eq_true rfl⟩ ⟨Nat.zero_le _, Nat.zero_le _⟩ rfl (Nat.le_of_ble_eq_true rfl) E0_b (fun _ _ _ _ _ _ => trivial) rfl dX11_emptyBehind_8 [] rfl ?_
  refine sm_iconst F dX11_emptyBehind_11 kc_i_0 ?_
  refine sm_istore_n F [(0, .ref (a 0)), (1, .int (0 : Int32))] [1, 0] dX11_emptyBehind_12 rfl (by decide) rfl ?_
  exact s_X11_emptyBehind_13 F  smN (sD_m (sD_s u z8.1) z8.2) (0 : Int32) hf
/-! SoManyForgottenModel.next(I)I -/
abbrev rmX11_next : Room := { frames := 7, cells := 0, slots := 0, locals := 153 }
set_option maxRecDepth 100000 in
theorem hvX11_next : yX11_next.cls = RX11 ∧ yX11_next.cls ≠ "java/lang/invoke/MethodHandle" ∧ yX11_next.cls ≠ "java/lang/invoke/VarHandle" ∧ (parseMethodDescriptor yX11_next.desc).map (fun d => d.parameters.length) = some 1 := by decide +kernel
set_option maxRecDepth 100000 in
set_option maxHeartbeats 4000000 in
theorem s_X11_next_87 {p : Program} {l : Launch} {e : Env} {s : State} {m : MethodId} {args : Array Value} {below : List Frame} {meth : Method} {c : Code} {A : Nat → Prop} {D : va_G} {cI cZ cO : ClassId} {a : Nat → Nat} {r : Int32} {o : DS} (F : smF p s m args meth c cX11_next 6 (some .int) RX11 D (tyL cI cZ cO) A) (x1 : Int32) (k53 : DS → Int32 → Int32 → Int32 → Option (Int32 × (DS))) (hk53 : ∀ (u' : DS) (x2' : Int32) (x3' : Int32) (x4' : Int32), k53 u' x2' x3' x4' = some (r, o) → Sm p l e rmX11_next s m args below meth c D A 6 0 0 (smQ below args s D A (some (.int r)) (wD cI cZ cO a o)) 53 [(0, .ref (a 0)), (1, .int x1), (2, .int x2'), (3, .int x3'), (4, .int x4')] [] (wD cI cZ cO a u')) (u : DS) (x2 : Int32) (x3 : Int32) (x4 : Int32) (y0 : Int32) (hf : f_X11_next_87 x1 k53  u x2 x3 x4 y0 = some (r, o)) : Sm p l e rmX11_next s m args below meth c D A 6 0 0 (smQ below args s D A (some (.int r)) (wD cI cZ cO a o)) 87 [(0, .ref (a 0)), (1, .int x1), (2, .int x2), (3, .int x3), (4, .int x4)] [.int y0] (wD cI cZ cO a u) := by
  unfold f_X11_next_87 at hf
  refine sm_istore F [(0, .ref (a 0)), (1, .int x1), (2, .int x2), (3, .int x3), (4, .int x4), (5, .int y0)] [1, 2, 3, 4, 5, 0] dX11_next_87 (by decide) rfl ?_
  refine sm_iload F dX11_next_89 5 rfl ?_
  refine sm_if_lt (tgt := 109) F dX11_next_91 (by decide) (fun c91 => ?_) (fun c91 => ?_)
  · replace hf := if_t c91 hf
    refine sm_iinc F [(0, .ref (a 0)), (1, .int x1), (2, .int x2), (3, .int x3), (4, .int (x4 + 1)), (5, .int y0)] 4 [1, 2, 3, 4, 0, 5] dX11_next_109 rfl kc_i_1 (by decide) rfl ?_
    refine sm_goto (tgt := 53) F dX11_next_112 (by decide) ?_
    refine sm_sub (lv' := [(0, .ref (a 0)), (1, .int x1), (2, .int x2), (3, .int x3), (4, .int (x4 + 1))]) [0, 1, 2, 3, 4] rfl ?_
    exact hk53 u x2 x3 (x4 + 1) hf
  · replace hf := if_f c91 hf
    refine sm_iload F dX11_next_94 5 rfl ?_
    refine sm_iload_n F dX11_next_96 rfl 3 rfl ?_
    refine sm_icmp_lt (tgt := 103) F dX11_next_97 (by decide) (fun c97 => ?_) (fun c97 => ?_)
    · replace hf := if_t c97 hf
      refine sm_iload F dX11_next_103 4 rfl ?_
      refine sm_istore_n F [(0, .ref (a 0)), (1, .int x1), (2, .int x4), (4, .int x4), (5, .int y0)] [1, 2, 0, 4, 5] dX11_next_105 rfl (by decide) rfl ?_
      refine sm_iload F dX11_next_106 4 rfl ?_
      refine sm_istore_n F [(0, .ref (a 0)), (1, .int x1), (2, .int x4), (3, .int y0), (4, .int x4)] [1, 2, 3, 0, 4] dX11_next_108 rfl (by decide) rfl ?_
      refine sm_iinc F [(0, .ref (a 0)), (1, .int x1), (2, .int x4), (3, .int y0), (4, .int (x4 + 1))] 4 [1, 2, 3, 4, 0] dX11_next_109 rfl kc_i_1 (by decide) rfl ?_
      refine sm_goto (tgt := 53) F dX11_next_112 (by decide) ?_
      exact hk53 u x4 y0 (x4 + 1) hf
    · replace hf := if_f c97 hf
      refine sm_goto (tgt := 109) F dX11_next_100 (by decide) ?_
      refine sm_iinc F [(0, .ref (a 0)), (1, .int x1), (2, .int x2), (3, .int x3), (4, .int (x4 + 1)), (5, .int y0)] 4 [1, 2, 3, 4, 0, 5] dX11_next_109 rfl kc_i_1 (by decide) rfl ?_
      refine sm_goto (tgt := 53) F dX11_next_112 (by decide) ?_
      refine sm_sub (lv' := [(0, .ref (a 0)), (1, .int x1), (2, .int x2), (3, .int x3), (4, .int (x4 + 1))]) [0, 1, 2, 3, 4] rfl ?_
      exact hk53 u x2 x3 (x4 + 1) hf
set_option maxRecDepth 100000 in
set_option maxHeartbeats 4000000 in
theorem s_X11_next_53_b {p : Program} {l : Launch} {e : Env} {s : State} {m : MethodId} {args : Array Value} {below : List Frame} {meth : Method} {c : Code} {A : Nat → Prop} {D : va_G} {cI cZ cO : ClassId} {a : Nat → Nat} {r : Int32} {o : DS} (F : smF p s m args meth c cX11_next 6 (some .int) RX11 D (tyL cI cZ cO) A) (x1 : Int32) (k53 : DS → Int32 → Int32 → Int32 → Option (Int32 × (DS))) (hk53 : ∀ (u' : DS) (x2' : Int32) (x3' : Int32) (x4' : Int32), k53 u' x2' x3' x4' = some (r, o) → Sm p l e rmX11_next s m args below meth c D A 6 0 0 (smQ below args s D A (some (.int r)) (wD cI cZ cO a o)) 53 [(0, .ref (a 0)), (1, .int x1), (2, .int x2'), (3, .int x3'), (4, .int x4')] [] (wD cI cZ cO a u')) (u : DS) (x2 : Int32) (x3 : Int32) (x4 : Int32) (hf : b_X11_next_53 x1  k53 u x2 x3 x4 = some (r, o)) : Sm p l e rmX11_next s m args below meth c D A 6 0 0 (smQ below args s D A (some (.int r)) (wD cI cZ cO a o)) 53 [(0, .ref (a 0)), (1, .int x1), (2, .int x2), (3, .int x3), (4, .int x4)] [] (wD cI cZ cO a u) := by
  unfold b_X11_next_53 at hf
  refine sm_iload F dX11_next_53 4 rfl ?_
  refine sm_aload_n F dX11_next_55 rfl 0 rfl ?_
  refine sm_get (v := .ref (a 1)) F inX11 0 rfl rfl 0 (by decide) qw5_15 rfl rfl dX11_next_56 ?_
  refine sm_iconst F dX11_next_59 kc_i_0 ?_
  obtain ⟨h60, hf⟩ := ck_some hf
  refine sm_iald F 1 0 rfl rfl h60 dX11_next_60 ?_
  refine sm_icmp_ge (tgt := 115) F dX11_next_61 (by decide) (fun c61 => ?_) (fun c61 => ?_)
  · replace hf := if_t c61 hf
    refine sm_iload_n F dX11_next_115 rfl 2 rfl ?_
    refine sm_if_lt (tgt := 123) F dX11_next_116 (by decide) (fun c116 => ?_) (fun c116 => ?_)
    · replace hf := if_t c116 hf
      refine sm_iload_n F dX11_next_123 rfl 2 rfl ?_
      refine sm_goto (tgt := 128) F dX11_next_124 (by decide) ?_
      exact sm_iret F dX11_next_128 (Prod.mk.inj (Option.some.inj hf)).1 (congrArg (fun z => (wD cI cZ cO a z)) (Prod.mk.inj (Option.some.inj hf)).2)
    · replace hf := if_f c116 hf
      refine sm_iload_n F dX11_next_119 rfl 1 rfl ?_
      refine sm_if_ne (tgt := 127) F dX11_next_120 (by decide) (fun c120 => ?_) (fun c120 => ?_)
      · replace hf := if_f c120 hf
        refine sm_iload_n F dX11_next_127 rfl 3 rfl ?_
        exact sm_iret F dX11_next_128 (Prod.mk.inj (Option.some.inj hf)).1 (congrArg (fun z => (wD cI cZ cO a z)) (Prod.mk.inj (Option.some.inj hf)).2)
      · replace hf := if_t c120 hf
        refine sm_iload_n F dX11_next_123 rfl 2 rfl ?_
        refine sm_goto (tgt := 128) F dX11_next_124 (by decide) ?_
        exact sm_iret F dX11_next_128 (Prod.mk.inj (Option.some.inj hf)).1 (congrArg (fun z => (wD cI cZ cO a z)) (Prod.mk.inj (Option.some.inj hf)).2)
  · replace hf := if_f c61 hf
    refine sm_aload_n F dX11_next_64 rfl 0 rfl ?_
    refine sm_get (v := .ref (a 1)) F inX11 0 rfl rfl 0 (by decide) qw5_15 rfl rfl dX11_next_65 ?_
    refine sm_iload F dX11_next_68 4 rfl ?_
    obtain ⟨z70, hz70, hf⟩ := bd_some hf
    refine sm_callS (rest := []) F (ct_X11_isHere l D cI cZ cO (fun i => a (pm_D_i1 i)) hz70) (cut_D_i1_ro cI cZ cO a u) rfl rfl rfl qw5_114 qw5_115 qw1_12 qw5_116 hsX11_isHere ⟨Nat.le_of_ble_eq_true rfl, Nat.le_of_ble_eq_true rfl⟩ ⟨Nat.zero_le _, Nat.zero_le _⟩ rfl (Nat.le_of_ble_eq_true rfl) E0_b (fun _ _ _ _ _ _ => trivial) rfl dX11_next_70 [.int z70] rfl ?_
    refine sm_if_eq (tgt := 85) F dX11_next_73 (by decide) (fun c73 => ?_) (fun c73 => ?_)
    · replace hf := if_t c73 hf
      refine sm_bipush F dX11_next_85 kc_b_m9 ?_
      exact s_X11_next_87 F x1 k53 hk53 u x2 x3 x4 ((-9) : Int32) hf
    · replace hf := if_f c73 hf
      refine sm_aload_n F dX11_next_76 rfl 0 rfl ?_
      refine sm_iload F dX11_next_77 4 rfl ?_
      obtain ⟨z79, hz79, hf⟩ := bd_some hf
      refine sm_callV (rest := []) F (ct_X11_goesOf l D cI cZ cO a hz79) (cut_D_id cI cZ cO a u z79.2) rfl rfl rfl qw5_212 qw5_214 qw0_39 qw1_12 qw5_215 hvX11_goesOf ⟨Nat.le_of_ble_eq_true rfl, Nat.le_of_ble_eq_true rfl⟩ ⟨Nat.zero_le _, Nat.zero_le _⟩ 0 11 rfl rfl rfl rfl (Nat.le_of_ble_eq_true rfl) E0_b (fun _ _ _ _ _ _ => trivial) rfl dX11_next_79 [.int z79.1] rfl ?_
      refine sm_goto (tgt := 87) F dX11_next_82 (by decide) ?_
      exact s_X11_next_87 F x1 k53 hk53 z79.2 x2 x3 x4 z79.1 hf
set_option maxRecDepth 100000 in
set_option maxHeartbeats 4000000 in
theorem s_X11_next_53 {p : Program} {l : Launch} {e : Env} {s : State} {m : MethodId} {args : Array Value} {below : List Frame} {meth : Method} {c : Code} {A : Nat → Prop} {D : va_G} {cI cZ cO : ClassId} {a : Nat → Nat} {r : Int32} {o : DS} (F : smF p s m args meth c cX11_next 6 (some .int) RX11 D (tyL cI cZ cO) A) (x1 : Int32)  (n : Nat) (u : DS) (x2 : Int32) (x3 : Int32) (x4 : Int32) (hf : f_X11_next_53 x1  n u x2 x3 x4 = some (r, o)) : Sm p l e rmX11_next s m args below meth c D A 6 0 0 (smQ below args s D A (some (.int r)) (wD cI cZ cO a o)) 53 [(0, .ref (a 0)), (1, .int x1), (2, .int x2), (3, .int x3), (4, .int x4)] [] (wD cI cZ cO a u) :=
  lq4_ind (P := fun (u : DS) (x2 : Int32) (x3 : Int32) (x4 : Int32) => Sm p l e rmX11_next s m args below meth c D A 6 0 0 (smQ below args s D A (some (.int r)) (wD cI cZ cO a o)) 53 [(0, .ref (a 0)), (1, .int x1), (2, .int x2), (3, .int x3), (4, .int x4)] [] (wD cI cZ cO a u)) (fun k53 hk53 u x2 x3 x4 h9 => s_X11_next_53_b F x1  k53 hk53 u x2 x3 x4 h9) n u x2 x3 x4 hf
set_option maxRecDepth 100000 in
set_option maxHeartbeats 4000000 in
theorem ct_X11_next (l : Launch) (D : va_G) (cI cZ cO : ClassId) (a : Nat → Nat) {u : DS} {x1 : Int32} {r : Int32} {o : DS} (hf : f_X11_next u x1 = some (r, o)) : Ct l yX11_next (uw (Cond.code yX11_next cX11_next 6 (some .int))) rmX11_next D (tyL cI cZ cO) E0 [.ref (a 0), .int x1] (wD cI cZ cO a u) (some (.int r)) (wD cI cZ cO a o) := by
  refine sm_start (cc := cX11_next) (maxL := 6) (ret := (some .int)) (own := RX11) (by decide) rfl rfl (Nat.le_of_ble_eq_true rfl) (lv := [(0, .ref (a 0)), (1, .int x1)]) rfl ?_
  intro p e s m below meth c A F hE hA
  unfold f_X11_next at hf
  refine sm_iload_n F dX11_next_0 rfl 1 rfl ?_
  refine sm_iconst F dX11_next_1 kc_i_0 ?_
  refine sm_iconst F dX11_next_2 kc_i_3 ?_
  obtain ⟨z3, hz3, hf⟩ := bd_some hf
  refine sm_callS (rest := []) F (ct_X11_isIn l D (tyL cI cZ cO) hz3) (cut_D_none cI cZ cO a u) rfl rfl rfl qw5_86 qw5_87 qw1_12 qw5_88 hsX11_isIn ⟨Nat.le_of_ble_eq_true rfl, Nat.le_of_ble_eq_true rfl⟩ ⟨Nat.zero_le _, Nat.zero_le _⟩ rfl (Nat.le_of_ble_eq_true rfl) E0_b (fun _ _ _ _ _ _ => trivial) rfl dX11_next_3 [.int z3] rfl ?_
  refine sm_if_ne (tgt := 16) F dX11_next_6 (by decide) (fun c6 => ?_) (fun c6 => ?_)
  · replace hf := if_f c6 hf
    refine sm_iload_n F dX11_next_16 rfl 1 rfl ?_
    refine sm_iconst F dX11_next_17 kc_i_2 ?_
    refine sm_icmp_ne (tgt := 26) F dX11_next_18 (by decide) (fun c18 => ?_) (fun c18 => ?_)
    · replace hf := if_f c18 hf
      refine sm_iload_n F dX11_next_26 rfl 1 rfl ?_
      refine sm_iconst F dX11_next_27 kc_i_3 ?_
      refine sm_icmp_ne (tgt := 44) F dX11_next_28 (by decide) (fun c28 => ?_) (fun c28 => ?_)
      · replace hf := if_f c28 hf
        refine sm_bipush F dX11_next_44 kc_b_m9 ?_
        refine sm_istore_n F [(0, .ref (a 0)), (1, .int x1), (2, .int ((-9) : Int32))] [1, 2, 0] dX11_next_46 rfl (by decide) rfl ?_
        refine sm_ldc (v := 1000000000) F qw5_228 dX11_next_47 ?_
        refine sm_istore_n F [(0, .ref (a 0)), (1, .int x1), (2, .int ((-9) : Int32)), (3, .int (1000000000 : Int32))] [1, 2, 3, 0] dX11_next_49 rfl (by decide) rfl ?_
        refine sm_iconst F dX11_next_50 kc_i_0 ?_
        refine sm_istore F [(0, .ref (a 0)), (1, .int x1), (2, .int ((-9) : Int32)), (3, .int (1000000000 : Int32)), (4, .int (0 : Int32))] [1, 2, 3, 4, 0] dX11_next_51 (by decide) rfl ?_
        exact s_X11_next_53 F x1 smN u ((-9) : Int32) (1000000000 : Int32) (0 : Int32) hf
      · replace hf := if_t c28 hf
        refine sm_bipush F dX11_next_31 kc_b_10 ?_
        refine sm_aload_n F dX11_next_33 rfl 0 rfl ?_
        refine sm_get (v := .ref (a 1)) F inX11 0 rfl rfl 0 (by decide) qw5_15 rfl rfl dX11_next_34 ?_
        refine sm_iconst F dX11_next_37 kc_i_1 ?_
        obtain ⟨h38, hf⟩ := ck_some hf
        refine sm_iald F 1 0 rfl rfl h38 dX11_next_38 ?_
        refine sm_bipush F dX11_next_39 kc_b_10 ?_
        refine sm_irem F dX11_next_41 (by decide) ?_
        refine sm_isub F dX11_next_42 ?_
        exact sm_iret F dX11_next_43 (Prod.mk.inj (Option.some.inj hf)).1 (congrArg (fun z => (wD cI cZ cO a z)) (Prod.mk.inj (Option.some.inj hf)).2)
    · replace hf := if_t c18 hf
      refine sm_aload_n F dX11_next_21 rfl 0 rfl ?_
      obtain ⟨z22, hz22, hf⟩ := bd_some hf
      refine sm_callV (rest := []) F (ct_X11_emptyBehind l D cI cZ cO a hz22) (cut_D_id cI cZ cO a u z22.2) rfl rfl rfl qw5_224 qw5_226 qw0_41 qw1_12 qw5_227 hvX11_emptyBehind ⟨Nat.le_of_ble_eq_true rfl, Nat.le_of_ble_eq_true rfl⟩ ⟨Nat.zero_le _, Nat.zero_le _⟩ 0 11 rfl rfl rfl rfl (Nat.le_of_ble_eq_true rfl) E0_b (fun _ _ _ _ _ _ => trivial) rfl dX11_next_22 [.int z22.1] rfl ?_
      exact sm_iret F dX11_next_25 (Prod.mk.inj (Option.some.inj hf)).1 (congrArg (fun z => (wD cI cZ cO a z)) (Prod.mk.inj (Option.some.inj hf)).2)
  · replace hf := if_t c6 hf
    refine sm_aload_n F dX11_next_9 rfl 0 rfl ?_
    refine sm_bipush F dX11_next_10 kc_b_m2 ?_
    obtain ⟨z12, hz12, hf⟩ := bd_some hf
    refine sm_callV (rest := []) F (ct_X11_no l D cI cZ cO a hz12) (cut_D_id cI cZ cO a u z12.2) rfl rfl rfl qw5_59 qw5_61 qw0_29 qw1_12 qw5_62 hvX11_no ⟨Nat.le_of_ble_eq_true rfl, Nat.le_of_ble_eq_true rfl⟩ ⟨Nat.zero_le _, Nat.zero_le _⟩ 0 11 rfl rfl rfl rfl (Nat.le_of_ble_eq_true rfl) E0_b (fun _ _ _ _ _ _ => trivial) rfl dX11_next_12 [.int z12.1] rfl ?_
    exact sm_iret F dX11_next_15 (Prod.mk.inj (Option.some.inj hf)).1 (congrArg (fun z => (wD cI cZ cO a z)) (Prod.mk.inj (Option.some.inj hf)).2)
/-! SoManyForgottenModel.least(I)I -/
abbrev rmX11_least : Room := { frames := 4, cells := 0, slots := 0, locals := 87 }
set_option maxRecDepth 100000 in
theorem hvX11_least : yX11_least.cls = RX11 ∧ yX11_least.cls ≠ "java/lang/invoke/MethodHandle" ∧ yX11_least.cls ≠ "java/lang/invoke/VarHandle" ∧ (parseMethodDescriptor yX11_least.desc).map (fun d => d.parameters.length) = some 1 := by decide +kernel
set_option maxRecDepth 100000 in
set_option maxHeartbeats 4000000 in
theorem s_X11_least_33_b {p : Program} {l : Launch} {e : Env} {s : State} {m : MethodId} {args : Array Value} {below : List Frame} {meth : Method} {c : Code} {A : Nat → Prop} {D : va_G} {cI cZ cO : ClassId} {a : Nat → Nat} {r : Int32} {o : DS} (F : smF p s m args meth c cX11_least 4 (some .int) RX11 D (tyL cI cZ cO) A)  (k33 : DS → Int32 → Int32 → Option (Int32 × (DS))) (hk33 : ∀ (u' : DS) (x2' : Int32) (x3' : Int32), k33 u' x2' x3' = some (r, o) → Sm p l e rmX11_least s m args below meth c D A 4 0 0 (smQ below args s D A (some (.int r)) (wD cI cZ cO a o)) 33 [(0, .ref (a 0)), (2, .int x2'), (3, .int x3')] [] (wD cI cZ cO a u')) (u : DS) (x2 : Int32) (x3 : Int32) (hf : b_X11_least_33   k33 u x2 x3 = some (r, o)) : Sm p l e rmX11_least s m args below meth c D A 4 0 0 (smQ below args s D A (some (.int r)) (wD cI cZ cO a o)) 33 [(0, .ref (a 0)), (2, .int x2), (3, .int x3)] [] (wD cI cZ cO a u) := by
  unfold b_X11_least_33 at hf
  refine sm_iload_n F dX11_least_33 rfl 2 rfl ?_
  refine sm_aload_n F dX11_least_34 rfl 0 rfl ?_
  refine sm_get (v := .ref (a 1)) F inX11 0 rfl rfl 0 (by decide) qw5_15 rfl rfl dX11_least_35 ?_
  refine sm_iconst F dX11_least_38 kc_i_0 ?_
  obtain ⟨h39, hf⟩ := ck_some hf
  refine sm_iald F 1 0 rfl rfl h39 dX11_least_39 ?_
  refine sm_icmp_ge (tgt := 85) F dX11_least_40 (by decide) (fun c40 => ?_) (fun c40 => ?_)
  · replace hf := if_t c40 hf
    refine sm_iload_n F dX11_least_85 rfl 1 rfl ?_
    exact sm_iret F dX11_least_86 (Prod.mk.inj (Option.some.inj hf)).1 (congrArg (fun z => (wD cI cZ cO a z)) (Prod.mk.inj (Option.some.inj hf)).2)
  · replace hf := if_f c40 hf
    refine sm_aload_n F dX11_least_43 rfl 0 rfl ?_
    refine sm_get (v := .ref (a 1)) F inX11 0 rfl rfl 0 (by decide) qw5_15 rfl rfl dX11_least_44 ?_
    refine sm_iload_n F dX11_least_47 rfl 2 rfl ?_
    obtain ⟨z48, hz48, hf⟩ := bd_some hf
    refine sm_callS (rest := []) F (ct_X11_isHere l D cI cZ cO (fun i => a (pm_D_i1 i)) hz48) (cut_D_i1_ro cI cZ cO a u) rfl rfl rfl qw5_114 qw5_115 qw1_12 qw5_116 hsX11_isHere ⟨Nat.le_of_ble_eq_true rfl, Nat.le_of_ble_eq_true rfl⟩ ⟨Nat.zero_le _, Nat.zero_le _⟩ rfl (Nat.le_of_ble_eq_true rfl) E0_b (fun _ _ _ _ _ _ => trivial) rfl dX11_least_48 [.int z48] rfl ?_
    refine sm_if_eq (tgt := 79) F dX11_least_51 (by decide) (fun c51 => ?_) (fun c51 => ?_)
    · replace hf := if_t c51 hf
      refine sm_iinc F [(0, .ref (a 0)), (2, .int x2), (3, .int (x3 + 1))] 2 [1, 2, 0] dX11_least_79 rfl kc_i_1 (by decide) rfl ?_
      refine sm_goto (tgt := 33) F dX11_least_82 (by decide) ?_
      exact hk33 u x2 (x3 + 1) hf
    · replace hf := if_f c51 hf
      refine sm_iload_n F dX11_least_54 rfl 1 rfl ?_
      refine sm_if_lt (tgt := 77) F dX11_least_55 (by decide) (fun c55 => ?_) (fun c55 => ?_)
      · replace hf := if_t c55 hf
        refine sm_iload_n F dX11_least_77 rfl 2 rfl ?_
        refine sm_istore_n F [(0, .ref (a 0)), (2, .int x3), (3, .int x3)] [1, 0, 2] dX11_least_78 rfl (by decide) rfl ?_
        refine sm_iinc F [(0, .ref (a 0)), (2, .int x3), (3, .int (x3 + 1))] 2 [1, 2, 0] dX11_least_79 rfl kc_i_1 (by decide) rfl ?_
        refine sm_goto (tgt := 33) F dX11_least_82 (by decide) ?_
        exact hk33 u x3 (x3 + 1) hf
      · replace hf := if_f c55 hf
        refine sm_aload_n F dX11_least_58 rfl 0 rfl ?_
        refine sm_get (v := .ref (a 1)) F inX11 0 rfl rfl 0 (by decide) qw5_15 rfl rfl dX11_least_59 ?_
        refine sm_iload_n F dX11_least_62 rfl 2 rfl ?_
        obtain ⟨z63, hz63, hf⟩ := bd_some hf
        refine sm_callS (rest := []) F (ct_X11_knownIn l D cI cZ cO (fun i => a (pm_D_i1 i)) hz63) (cut_D_i1_ro cI cZ cO a u) rfl rfl rfl qw5_141 qw5_142 qw1_12 qw5_143 hsX11_knownIn ⟨Nat.le_of_ble_eq_true rfl, Nat.le_of_ble_eq_true rfl⟩ ⟨Nat.zero_le _, Nat.zero_le _⟩ rfl (Nat.le_of_ble_eq_true rfl) E0_b (fun _ _ _ _ _ _ => trivial) rfl dX11_least_63 [.int z63] rfl ?_
        refine sm_aload_n F dX11_least_66 rfl 0 rfl ?_
        refine sm_get (v := .ref (a 1)) F inX11 0 rfl rfl 0 (by decide) qw5_15 rfl rfl dX11_least_67 ?_
        refine sm_iload_n F dX11_least_70 rfl 1 rfl ?_
        obtain ⟨z71, hz71, hf⟩ := bd_some hf
        refine sm_callS (rest := [.int z63]) F (ct_X11_knownIn l D cI cZ cO (fun i => a (pm_D_i1 i)) hz71) (cut_D_i1_ro cI cZ cO a u) rfl rfl rfl qw5_141 qw5_142 qw1_12 qw5_143 hsX11_knownIn ⟨Nat.le_of_ble_eq_true rfl, Nat.le_of_ble_eq_true rfl⟩ ⟨Nat.zero_le _, Nat.zero_le _⟩ rfl (Nat.le_of_ble_eq_true rfl) E0_b (fun _ _ _ _ _ _ => trivial) rfl dX11_least_71 [.int z71, .int z63] rfl ?_
        refine sm_icmp_le (tgt := 79) F dX11_least_74 (by decide) (fun c74 => ?_) (fun c74 => ?_)
        · replace hf := if_t c74 hf
          refine sm_iinc F [(0, .ref (a 0)), (2, .int x2), (3, .int (x3 + 1))] 2 [1, 2, 0] dX11_least_79 rfl kc_i_1 (by decide) rfl ?_
          refine sm_goto (tgt := 33) F dX11_least_82 (by decide) ?_
          exact hk33 u x2 (x3 + 1) hf
        · replace hf := if_f c74 hf
          refine sm_iload_n F dX11_least_77 rfl 2 rfl ?_
          refine sm_istore_n F [(0, .ref (a 0)), (2, .int x3), (3, .int x3)] [1, 0, 2] dX11_least_78 rfl (by decide) rfl ?_
          refine sm_iinc F [(0, .ref (a 0)), (2, .int x3), (3, .int (x3 + 1))] 2 [1, 2, 0] dX11_least_79 rfl kc_i_1 (by decide) rfl ?_
          refine sm_goto (tgt := 33) F dX11_least_82 (by decide) ?_
          exact hk33 u x3 (x3 + 1) hf
set_option maxRecDepth 100000 in
set_option maxHeartbeats 4000000 in
theorem s_X11_least_33 {p : Program} {l : Launch} {e : Env} {s : State} {m : MethodId} {args : Array Value} {below : List Frame} {meth : Method} {c : Code} {A : Nat → Prop} {D : va_G} {cI cZ cO : ClassId} {a : Nat → Nat} {r : Int32} {o : DS} (F : smF p s m args meth c cX11_least 4 (some .int) RX11 D (tyL cI cZ cO) A)   (n : Nat) (u : DS) (x2 : Int32) (x3 : Int32) (hf : f_X11_least_33   n u x2 x3 = some (r, o)) : Sm p l e rmX11_least s m args below meth c D A 4 0 0 (smQ below args s D A (some (.int r)) (wD cI cZ cO a o)) 33 [(0, .ref (a 0)), (2, .int x2), (3, .int x3)] [] (wD cI cZ cO a u) :=
  lq3_ind (P := fun (u : DS) (x2 : Int32) (x3 : Int32) => Sm p l e rmX11_least s m args below meth c D A 4 0 0 (smQ below args s D A (some (.int r)) (wD cI cZ cO a o)) 33 [(0, .ref (a 0)), (2, .int x2), (3, .int x3)] [] (wD cI cZ cO a u)) (fun k33 hk33 u x2 x3 h9 => s_X11_least_33_b F   k33 hk33 u x2 x3 h9) n u x2 x3 hf
set_option maxRecDepth 100000 in
set_option maxHeartbeats 4000000 in
theorem ct_X11_least (l : Launch) (D : va_G) (cI cZ cO : ClassId) (a : Nat → Nat) {u : DS} {x1 : Int32} {r : Int32} {o : DS} (hf : f_X11_least u x1 = some (r, o)) : Ct l yX11_least (uw (Cond.code yX11_least cX11_least 4 (some .int))) rmX11_least D (tyL cI cZ cO) E0 [.ref (a 0), .int x1] (wD cI cZ cO a u) (some (.int r)) (wD cI cZ cO a o) := by
  refine sm_start (cc := cX11_least) (maxL := 4) (ret := (some .int)) (own := RX11) (by decide) rfl rfl (Nat.le_of_ble_eq_true rfl) (lv := [(0, .ref (a 0)), (1, .int x1)]) rfl ?_
  intro p e s m below meth c A F hE hA
  unfold f_X11_least at hf
  refine sm_iload_n F dX11_least_0 rfl 1 rfl ?_
  refine sm_iconst F dX11_least_1 kc_i_0 ?_
  refine sm_iconst F dX11_least_2 kc_i_1 ?_
  obtain ⟨z3, hz3, hf⟩ := bd_some hf
  refine sm_callS (rest := []) F (ct_X11_isIn l D (tyL cI cZ cO) hz3) (cut_D_none cI cZ cO a u) rfl rfl rfl qw5_86 qw5_87 qw1_12 qw5_88 hsX11_isIn ⟨Nat.le_of_ble_eq_true rfl, Nat.le_of_ble_eq_true rfl⟩ ⟨Nat.zero_le _, Nat.zero_le _⟩ rfl (Nat.le_of_ble_eq_true rfl) E0_b (fun _ _ _ _ _ _ => trivial) rfl dX11_least_3 [.int z3] rfl ?_
  refine sm_if_ne (tgt := 16) F dX11_least_6 (by decide) (fun c6 => ?_) (fun c6 => ?_)
  · replace hf := if_f c6 hf
    refine sm_iload_n F dX11_least_16 rfl 1 rfl ?_
    refine sm_if_ne (tgt := 28) F dX11_least_17 (by decide) (fun c17 => ?_) (fun c17 => ?_)
    · replace hf := if_f c17 hf
      refine sm_bipush F dX11_least_28 kc_b_m9 ?_
      refine sm_istore_n F [(0, .ref (a 0)), (2, .int ((-9) : Int32))] [1, 0] dX11_least_30 rfl (by decide) rfl ?_
      refine sm_iconst F dX11_least_31 kc_i_0 ?_
      refine sm_istore_n F [(0, .ref (a 0)), (2, .int ((-9) : Int32)), (3, .int (0 : Int32))] [1, 2, 0] dX11_least_32 rfl (by decide) rfl ?_
      exact s_X11_least_33 F  smN u ((-9) : Int32) (0 : Int32) hf
    · replace hf := if_t c17 hf
      refine sm_aload_n F dX11_least_20 rfl 0 rfl ?_
      refine sm_get (v := .ref (a 1)) F inX11 0 rfl rfl 0 (by decide) qw5_15 rfl rfl dX11_least_21 ?_
      obtain ⟨z24, hz24, hf⟩ := bd_some hf
      refine sm_callS (rest := []) F (ct_X11_leastIn l D cI cZ cO (fun i => a (pm_D_i1 i)) hz24) (cut_D_i1_ro cI cZ cO a u) rfl rfl rfl qw5_135 qw5_136 qw1_12 qw5_137 hsX11_leastIn ⟨Nat.le_of_ble_eq_true rfl, Nat.le_of_ble_eq_true rfl⟩ ⟨Nat.zero_le _, Nat.zero_le _⟩ rfl (Nat.le_of_ble_eq_true rfl) E0_b (fun _ _ _ _ _ _ => trivial) rfl dX11_least_24 [.int z24] rfl ?_
      exact sm_iret F dX11_least_27 (Prod.mk.inj (Option.some.inj hf)).1 (congrArg (fun z => (wD cI cZ cO a z)) (Prod.mk.inj (Option.some.inj hf)).2)
  · replace hf := if_t c6 hf
    refine sm_aload_n F dX11_least_9 rfl 0 rfl ?_
    refine sm_bipush F dX11_least_10 kc_b_m2 ?_
    obtain ⟨z12, hz12, hf⟩ := bd_some hf
    refine sm_callV (rest := []) F (ct_X11_no l D cI cZ cO a hz12) (cut_D_id cI cZ cO a u z12.2) rfl rfl rfl qw5_59 qw5_61 qw0_29 qw1_12 qw5_62 hvX11_no ⟨Nat.le_of_ble_eq_true rfl, Nat.le_of_ble_eq_true rfl⟩ ⟨Nat.zero_le _, Nat.zero_le _⟩ 0 11 rfl rfl rfl rfl (Nat.le_of_ble_eq_true rfl) E0_b (fun _ _ _ _ _ _ => trivial) rfl dX11_least_12 [.int z12.1] rfl ?_
    exact sm_iret F dX11_least_15 (Prod.mk.inj (Option.some.inj hf)).1 (congrArg (fun z => (wD cI cZ cO a z)) (Prod.mk.inj (Option.some.inj hf)).2)
/-! SoManyForgottenModel.orNever(I)I -/
abbrev rmX11_orNever : Room := { frames := 0, cells := 0, slots := 0, locals := 0 }
set_option maxRecDepth 100000 in
theorem hsX11_orNever : yX11_orNever.cls ≠ "java/lang/invoke/MethodHandle" ∧ yX11_orNever.cls ≠ "java/lang/invoke/VarHandle" ∧ (parseMethodDescriptor yX11_orNever.desc).map (fun d => d.parameters.length) = some 1 := by decide +kernel
set_option maxRecDepth 100000 in
set_option maxHeartbeats 4000000 in
theorem ct_X11_orNever (l : Launch) (D : va_G) (tys : List (ClassId × FieldType)) {x0 : Int32} {r : Int32} (hf : f_X11_orNever x0 = some r) : Ct l yX11_orNever (uw (Cond.code yX11_orNever cX11_orNever 1 (some .int))) rmX11_orNever D tys E0 [.int x0] [] (some (.int r)) [] := by
  refine sm_start (cc := cX11_orNever) (maxL := 1) (ret := (some .int)) (own := RX11) (by decide) rfl rfl (Nat.le_of_ble_eq_true rfl) (lv := [(0, .int x0)]) rfl ?_
  intro p e s m below meth c A F hE hA
  unfold f_X11_orNever at hf
  refine sm_iload_n F dX11_orNever_0 rfl 0 rfl ?_
  refine sm_if_ge (tgt := 9) F dX11_orNever_1 (by decide) (fun c1 => ?_) (fun c1 => ?_)
  · replace hf := if_t c1 hf
    refine sm_iload_n F dX11_orNever_9 rfl 0 rfl ?_
    exact sm_iret F dX11_orNever_10 (Option.some.inj hf) rfl
  · replace hf := if_f c1 hf
    refine sm_bipush F dX11_orNever_4 kc_b_100 ?_
    refine sm_goto (tgt := 10) F dX11_orNever_6 (by decide) ?_
    exact sm_iret F dX11_orNever_10 (Option.some.inj hf) rfl
/-! SoManyForgottenModel.wrongOne(I)I -/
abbrev rmX11_wrongOne : Room := { frames := 2, cells := 0, slots := 0, locals := 43 }
set_option maxRecDepth 100000 in
theorem hvX11_wrongOne : yX11_wrongOne.cls = RX11 ∧ yX11_wrongOne.cls ≠ "java/lang/invoke/MethodHandle" ∧ yX11_wrongOne.cls ≠ "java/lang/invoke/VarHandle" ∧ (parseMethodDescriptor yX11_wrongOne.desc).map (fun d => d.parameters.length) = some 1 := by decide +kernel
set_option maxRecDepth 100000 in
set_option maxHeartbeats 4000000 in
theorem ct_X11_wrongOne (l : Launch) (D : va_G) (cI cZ cO : ClassId) (a : Nat → Nat) {u : DS} {x1 : Int32} {r : Int32} (hf : f_X11_wrongOne u x1 = some r) : Ct l yX11_wrongOne (uw (Cond.code yX11_wrongOne cX11_wrongOne 2 (some .int))) rmX11_wrongOne D (tyL cI cZ cO) E0 [.ref (a 0), .int x1] (wD cI cZ cO a u) (some (.int r)) (wD cI cZ cO a u) := by
  refine sm_start (cc := cX11_wrongOne) (maxL := 2) (ret := (some .int)) (own := RX11) (by decide) rfl rfl (Nat.le_of_ble_eq_true rfl) (lv := [(0, .ref (a 0)), (1, .int x1)]) rfl ?_
  intro p e s m below meth c A F hE hA
  unfold f_X11_wrongOne at hf
  refine sm_aload_n F dX11_wrongOne_0 rfl 0 rfl ?_
  refine sm_iload_n F dX11_wrongOne_1 rfl 1 rfl ?_
  obtain ⟨z2, hz2, hf⟩ := bd_some hf
  refine sm_callV (rest := []) F (ct_X11_isOne l D cI cZ cO a hz2) (cut_D_id cI cZ cO a u u) rfl rfl rfl qw5_110 qw5_112 qw0_37 qw1_12 qw5_113 hvX11_isOne ⟨Nat.le_of_ble_eq_true rfl, Nat.le_of_ble_eq_true rfl⟩ ⟨Nat.zero_le _, Nat.zero_le _⟩ 0 11 rfl rfl rfl rfl (Nat.le_of_ble_eq_true rfl) E0_b (fun _ _ _ _ _ _ => trivial) rfl dX11_wrongOne_2 [.int z2] rfl ?_
  refine sm_if_ne (tgt := 12) F dX11_wrongOne_5 (by decide) (fun c5 => ?_) (fun c5 => ?_)
  · replace hf := if_f c5 hf
    refine sm_aload_n F dX11_wrongOne_12 rfl 0 rfl ?_
    refine sm_get (v := .ref (a 1)) F inX11 0 rfl rfl 0 (by decide) qw5_15 rfl rfl dX11_wrongOne_13 ?_
    refine sm_iload_n F dX11_wrongOne_16 rfl 1 rfl ?_
    obtain ⟨z17, hz17, hf⟩ := bd_some hf
    refine sm_callS (rest := []) F (ct_X11_isHere l D cI cZ cO (fun i => a (pm_D_i1 i)) hz17) (cut_D_i1_ro cI cZ cO a u) rfl rfl rfl qw5_114 qw5_115 qw1_12 qw5_116 hsX11_isHere ⟨Nat.le_of_ble_eq_true rfl, Nat.le_of_ble_eq_true rfl⟩ ⟨Nat.zero_le _, Nat.zero_le _⟩ rfl (Nat.le_of_ble_eq_true rfl) E0_b (fun _ _ _ _ _ _ => trivial) rfl dX11_wrongOne_17 [.int z17] rfl ?_
    refine sm_if_eq (tgt := 27) F dX11_wrongOne_20 (by decide) (fun c20 => ?_) (fun c20 => ?_)
    · replace hf := if_t c20 hf
      refine sm_bipush F dX11_wrongOne_27 kc_b_m3 ?_
      exact sm_iret F dX11_wrongOne_29 (Option.some.inj hf) rfl
    · replace hf := if_f c20 hf
      refine sm_iconst F dX11_wrongOne_23 kc_i_0 ?_
      refine sm_goto (tgt := 29) F dX11_wrongOne_24 (by decide) ?_
      exact sm_iret F dX11_wrongOne_29 (Option.some.inj hf) rfl
  · replace hf := if_t c5 hf
    refine sm_iconst F dX11_wrongOne_8 kc_i_m1 ?_
    refine sm_goto (tgt := 29) F dX11_wrongOne_9 (by decide) ?_
    exact sm_iret F dX11_wrongOne_29 (Option.some.inj hf) rfl
/-! SoManyForgottenModel.speak(I)I -/
abbrev rmX11_speak : Room := { frames := 7, cells := 0, slots := 0, locals := 153 }
set_option maxRecDepth 100000 in
theorem hvX11_speak : yX11_speak.cls = RX11 ∧ yX11_speak.cls ≠ "java/lang/invoke/MethodHandle" ∧ yX11_speak.cls ≠ "java/lang/invoke/VarHandle" ∧ (parseMethodDescriptor yX11_speak.desc).map (fun d => d.parameters.length) = some 1 := by decide +kernel
set_option maxRecDepth 100000 in
set_option maxHeartbeats 4000000 in
theorem s_X11_speak_32_b {p : Program} {l : Launch} {e : Env} {s : State} {m : MethodId} {args : Array Value} {below : List Frame} {meth : Method} {c : Code} {A : Nat → Prop} {D : va_G} {cI cZ cO : ClassId} {a : Nat → Nat} {r : Int32} {o : DS} (F : smF p s m args meth c cX11_speak 7 (some .int) RX11 D (tyL cI cZ cO) A) (x1 : Int32) (k32 : DS → Int32 → Int32 → Int32 → Option (Int32 × (DS))) (hk32 : ∀ (u' : DS) (x3' : Int32) (x4' : Int32) (x5' : Int32), k32 u' x3' x4' x5' = some (r, o) → Sm p l e rmX11_speak s m args below meth c D A 7 0 0 (smQ below args s D A (some (.int r)) (wD cI cZ cO a o)) 32 [(0, .ref (a 0)), (1, .int x1), (3, .int x3'), (4, .int x4'), (5, .int x5')] [] (wD cI cZ cO a u')) (u : DS) (x3 : Int32) (x4 : Int32) (x5 : Int32) (hf : b_X11_speak_32 x1  k32 u x3 x4 x5 = some (r, o)) : Sm p l e rmX11_speak s m args below meth c D A 7 0 0 (smQ below args s D A (some (.int r)) (wD cI cZ cO a o)) 32 [(0, .ref (a 0)), (1, .int x1), (3, .int x3), (4, .int x4), (5, .int x5)] [] (wD cI cZ cO a u) := by
  unfold b_X11_speak_32 at hf
  refine sm_iload F dX11_speak_32 4 rfl ?_
  refine sm_aload_n F dX11_speak_34 rfl 0 rfl ?_
  refine sm_get (v := .ref (a 1)) F inX11 0 rfl rfl 0 (by decide) qw5_15 rfl rfl dX11_speak_35 ?_
  refine sm_iconst F dX11_speak_38 kc_i_0 ?_
  obtain ⟨h39, hf⟩ := ck_some hf
  refine sm_iald F 1 0 rfl rfl h39 dX11_speak_39 ?_
  refine sm_icmp_ge (tgt := 118) F dX11_speak_40 (by decide) (fun c40 => ?_) (fun c40 => ?_)
  · replace hf := if_t c40 hf
    refine sm_iload_n F dX11_speak_118 rfl 2 rfl ?_
    exact sm_iret F dX11_speak_119 (Prod.mk.inj (Option.some.inj hf)).1 (congrArg (fun z => (wD cI cZ cO a z)) (Prod.mk.inj (Option.some.inj hf)).2)
  · replace hf := if_f c40 hf
    refine sm_iload F dX11_speak_43 4 rfl ?_
    refine sm_iload_n F dX11_speak_45 rfl 1 rfl ?_
    refine sm_icmp_eq (tgt := 112) F dX11_speak_46 (by decide) (fun c46 => ?_) (fun c46 => ?_)
    · replace hf := if_t c46 hf
      refine sm_iinc F [(0, .ref (a 0)), (1, .int x1), (3, .int x3), (4, .int x4), (5, .int (x5 + 1))] 4 [1, 2, 3, 4, 0] dX11_speak_112 rfl kc_i_1 (by decide) rfl ?_
      refine sm_goto (tgt := 32) F dX11_speak_115 (by decide) ?_
      exact hk32 u x3 x4 (x5 + 1) hf
    · replace hf := if_f c46 hf
      refine sm_aload_n F dX11_speak_49 rfl 0 rfl ?_
      refine sm_get (v := .ref (a 1)) F inX11 0 rfl rfl 0 (by decide) qw5_15 rfl rfl dX11_speak_50 ?_
      refine sm_iload F dX11_speak_53 4 rfl ?_
      obtain ⟨z55, hz55, hf⟩ := bd_some hf
      refine sm_callS (rest := []) F (ct_X11_isHere l D cI cZ cO (fun i => a (pm_D_i1 i)) hz55) (cut_D_i1_ro cI cZ cO a u) rfl rfl rfl qw5_114 qw5_115 qw1_12 qw5_116 hsX11_isHere ⟨Nat.le_of_ble_eq_true rfl, Nat.le_of_ble_eq_true rfl⟩ ⟨Nat.zero_le _, Nat.zero_le _⟩ rfl (Nat.le_of_ble_eq_true rfl) E0_b (fun _ _ _ _ _ _ => trivial) rfl dX11_speak_55 [.int z55] rfl ?_
      refine sm_if_ne (tgt := 64) F dX11_speak_58 (by decide) (fun c58 => ?_) (fun c58 => ?_)
      · replace hf := if_f c58 hf
        refine sm_aload_n F dX11_speak_64 rfl 0 rfl ?_
        refine sm_get (v := .ref (a 1)) F inX11 0 rfl rfl 0 (by decide) qw5_15 rfl rfl dX11_speak_65 ?_
        refine sm_aload_n F dX11_speak_68 rfl 0 rfl ?_
        refine sm_get (v := .ref (a 2)) F inX11 0 rfl rfl 1 (by decide) qw5_16 rfl rfl dX11_speak_69 ?_
        obtain ⟨z72, hz72, hf⟩ := bd_some hf
        refine sm_callS (rest := []) F (ct_X11_copies l D cI cZ cO (fun i => a (pm_D_ii1_2 i)) hz72) (cut_D_ii1_2 cI cZ cO a u z72) rfl rfl rfl qw5_89 qw5_90 qw1_12 qw5_91 hsX11_copies ⟨Nat.le_of_ble_eq_true rfl, Nat.le_of_ble_eq_true rfl⟩ ⟨Nat.zero_le _, Nat.zero_le _⟩ rfl (Nat.le_of_ble_eq_true rfl) E0_b (fun _ _ _ _ _ _ => trivial) rfl dX11_speak_72 [] rfl ?_
        refine sm_aload_n F dX11_speak_75 rfl 0 rfl ?_
        refine sm_get (v := .ref (a 2)) F inX11 0 rfl rfl 1 (by decide) qw5_16 rfl rfl dX11_speak_76 ?_
        refine sm_iload_n F dX11_speak_79 rfl 1 rfl ?_
        refine sm_iload F dX11_speak_80 4 rfl ?_
        obtain ⟨z82, hz82, hf⟩ := bd_some hf
        refine sm_callS (rest := []) F (ct_X11_speaksIn l D cI cZ cO (fun i => a (pm_D_i2 i)) hz82) (cut_D_i2 cI cZ cO a (sD_m (sD_s u z72.1) z72.2) z82) rfl rfl rfl qw5_117 qw5_118 qw1_12 qw5_119 hsX11_speaksIn ⟨Nat.le_of_ble_eq_true rfl, Nat.le_of_ble_eq_true rfl⟩ ⟨Nat.zero_le _, Nat.zero_le _⟩ rfl (Nat.le_of_ble_eq_true rfl) E0_b (fun _ _ _ _ _ _ => trivial) rfl dX11_speak_82 [] rfl ?_
        refine sm_aload_n F dX11_speak_85 rfl 0 rfl ?_
        refine sm_iload_n F dX11_speak_86 rfl 1 rfl ?_
        obtain ⟨z87, hz87, hf⟩ := bd_some hf
        refine sm_callV (rest := []) F (ct_X11_goesIn l D cI cZ cO a hz87) (cut_D_id cI cZ cO a (sD_m (sD_m (sD_s u z72.1) z72.2) z82) z87.2) rfl rfl rfl qw5_216 qw5_218 qw0_40 qw1_12 qw5_219 hvX11_goesIn ⟨Nat.le_of_ble_eq_true rfl, Nat.le_of_ble_eq_true rfl⟩ ⟨Nat.zero_le _, Nat.zero_le _⟩ 0 11 rfl rfl rfl rfl (Nat.le_of_ble_eq_true rfl) E0_b (fun _ _ _ _ _ _ => trivial) rfl dX11_speak_87 [.int z87.1] rfl ?_
        obtain ⟨z90, hz90, hf⟩ := bd_some hf
        refine sm_callS (rest := []) F (ct_X11_orNever l D (tyL cI cZ cO) hz90) (cut_D_none cI cZ cO a z87.2) rfl rfl rfl qw6_1 qw6_2 qw1_12 qw6_3 hsX11_orNever ⟨Nat.le_of_ble_eq_true rfl, Nat.le_of_ble_eq_true rfl⟩ ⟨Nat.zero_le _, Nat.zero_le _⟩ rfl (Nat.le_of_ble_eq_true rfl) E0_b (fun _ _ _ _ _ _ => trivial) rfl dX11_speak_90 [.int z90] rfl ?_
        refine sm_istore F [(0, .ref (a 0)), (1, .int x1), (3, .int x3), (4, .int x4), (5, .int x5), (6, .int z90)] [1, 2, 3, 4, 5, 0] dX11_speak_93 (by decide) rfl ?_
        refine sm_iload F dX11_speak_95 5 rfl ?_
        refine sm_iload F dX11_speak_97 3 rfl ?_
        refine sm_icmp_gt (tgt := 105) F dX11_speak_99 (by decide) (fun c99 => ?_) (fun c99 => ?_)
        · replace hf := if_t c99 hf
          refine sm_iload F dX11_speak_105 4 rfl ?_
          refine sm_istore_n F [(0, .ref (a 0)), (1, .int x1), (3, .int x5), (5, .int x5), (6, .int z90)] [1, 2, 0, 4, 5] dX11_speak_107 rfl (by decide) rfl ?_
          refine sm_iload F dX11_speak_108 4 rfl ?_
          refine sm_istore F [(0, .ref (a 0)), (1, .int x1), (3, .int x5), (4, .int z90), (5, .int x5)] [1, 2, 3, 0, 4] dX11_speak_110 (by decide) rfl ?_
          refine sm_iinc F [(0, .ref (a 0)), (1, .int x1), (3, .int x5), (4, .int z90), (5, .int (x5 + 1))] 4 [1, 2, 3, 4, 0] dX11_speak_112 rfl kc_i_1 (by decide) rfl ?_
          refine sm_goto (tgt := 32) F dX11_speak_115 (by decide) ?_
          exact hk32 z87.2 x5 z90 (x5 + 1) hf
        · replace hf := if_f c99 hf
          refine sm_goto (tgt := 112) F dX11_speak_102 (by decide) ?_
          refine sm_iinc F [(0, .ref (a 0)), (1, .int x1), (3, .int x3), (4, .int x4), (5, .int (x5 + 1)), (6, .int z90)] 4 [1, 2, 3, 4, 0, 5] dX11_speak_112 rfl kc_i_1 (by decide) rfl ?_
          refine sm_goto (tgt := 32) F dX11_speak_115 (by decide) ?_
          refine sm_sub (lv' := [(0, .ref (a 0)), (1, .int x1), (3, .int x3), (4, .int x4), (5, .int (x5 + 1))]) [0, 1, 2, 3, 4] rfl ?_
          exact hk32 z87.2 x3 x4 (x5 + 1) hf
      · replace hf := if_t c58 hf
        refine sm_goto (tgt := 112) F dX11_speak_61 (by decide) ?_
        refine sm_iinc F [(0, .ref (a 0)), (1, .int x1), (3, .int x3), (4, .int x4), (5, .int (x5 + 1))] 4 [1, 2, 3, 4, 0] dX11_speak_112 rfl kc_i_1 (by decide) rfl ?_
        refine sm_goto (tgt := 32) F dX11_speak_115 (by decide) ?_
        exact hk32 u x3 x4 (x5 + 1) hf
set_option maxRecDepth 100000 in
set_option maxHeartbeats 4000000 in
theorem s_X11_speak_32 {p : Program} {l : Launch} {e : Env} {s : State} {m : MethodId} {args : Array Value} {below : List Frame} {meth : Method} {c : Code} {A : Nat → Prop} {D : va_G} {cI cZ cO : ClassId} {a : Nat → Nat} {r : Int32} {o : DS} (F : smF p s m args meth c cX11_speak 7 (some .int) RX11 D (tyL cI cZ cO) A) (x1 : Int32)  (n : Nat) (u : DS) (x3 : Int32) (x4 : Int32) (x5 : Int32) (hf : f_X11_speak_32 x1  n u x3 x4 x5 = some (r, o)) : Sm p l e rmX11_speak s m args below meth c D A 7 0 0 (smQ below args s D A (some (.int r)) (wD cI cZ cO a o)) 32 [(0, .ref (a 0)), (1, .int x1), (3, .int x3), (4, .int x4), (5, .int x5)] [] (wD cI cZ cO a u) :=
  lq4_ind (P := fun (u : DS) (x3 : Int32) (x4 : Int32) (x5 : Int32) => Sm p l e rmX11_speak s m args below meth c D A 7 0 0 (smQ below args s D A (some (.int r)) (wD cI cZ cO a o)) 32 [(0, .ref (a 0)), (1, .int x1), (3, .int x3), (4, .int x4), (5, .int x5)] [] (wD cI cZ cO a u)) (fun k32 hk32 u x3 x4 x5 h9 => s_X11_speak_32_b F x1  k32 hk32 u x3 x4 x5 h9) n u x3 x4 x5 hf
set_option maxRecDepth 100000 in
set_option maxHeartbeats 4000000 in
theorem ct_X11_speak (l : Launch) (D : va_G) (cI cZ cO : ClassId) (a : Nat → Nat) {u : DS} {x1 : Int32} {r : Int32} {o : DS} (hf : f_X11_speak u x1 = some (r, o)) : Ct l yX11_speak (uw (Cond.code yX11_speak cX11_speak 7 (some .int))) rmX11_speak D (tyL cI cZ cO) E0 [.ref (a 0), .int x1] (wD cI cZ cO a u) (some (.int r)) (wD cI cZ cO a o) := by
  refine sm_start (cc := cX11_speak) (maxL := 7) (ret := (some .int)) (own := RX11) (by decide) rfl rfl (Nat.le_of_ble_eq_true rfl) (lv := [(0, .ref (a 0)), (1, .int x1)]) rfl ?_
  intro p e s m below meth c A F hE hA
  unfold f_X11_speak at hf
  refine sm_aload_n F dX11_speak_0 rfl 0 rfl ?_
  refine sm_iload_n F dX11_speak_1 rfl 1 rfl ?_
  obtain ⟨z2, hz2, hf⟩ := bd_some hf
  refine sm_callV (rest := []) F (ct_X11_wrongOne l D cI cZ cO a hz2) (cut_D_id cI cZ cO a u u) rfl rfl rfl qw5_237 qw5_239 qw0_42 qw1_12 qw6_0 hvX11_wrongOne ⟨Nat.le_of_ble_eq_true rfl, Nat.le_of_ble_eq_true rfl⟩ ⟨Nat.zero_le _, Nat.zero_le _⟩ 0 11 rfl rfl rfl rfl (Nat.le_of_ble_eq_true rfl) E0_b (fun _ _ _ _ _ _ => trivial) rfl dX11_speak_2 [.int z2] rfl ?_
  refine sm_istore_n F [(0, .ref (a 0)), (1, .int x1), (2, .int z2)] [1, 2, 0] dX11_speak_5 rfl (by decide) rfl ?_
  refine sm_iload_n F dX11_speak_6 rfl 2 rfl ?_
  refine sm_if_eq (tgt := 16) F dX11_speak_7 (by decide) (fun c7 => ?_) (fun c7 => ?_)
  · replace hf := if_t c7 hf
    refine sm_bipush F dX11_speak_16 kc_b_m9 ?_
    refine sm_istore_n F [(0, .ref (a 0)), (1, .int x1), (3, .int ((-9) : Int32))] [1, 2, 0] dX11_speak_18 rfl (by decide) rfl ?_
    refine sm_aload_n F dX11_speak_19 rfl 0 rfl ?_
    refine sm_iload_n F dX11_speak_20 rfl 1 rfl ?_
    obtain ⟨z21, hz21, hf⟩ := bd_some hf
    refine sm_callV (rest := []) F (ct_X11_goesOf l D cI cZ cO a hz21) (cut_D_id cI cZ cO a u z21.2) rfl rfl rfl qw5_212 qw5_214 qw0_39 qw1_12 qw5_215 hvX11_goesOf ⟨Nat.le_of_ble_eq_true rfl, Nat.le_of_ble_eq_true rfl⟩ ⟨Nat.zero_le _, Nat.zero_le _⟩ 0 11 rfl rfl rfl rfl (Nat.le_of_ble_eq_true rfl) E0_b (fun _ _ _ _ _ _ => trivial) rfl dX11_speak_21 [.int z21.1] rfl ?_
    obtain ⟨z24, hz24, hf⟩ := bd_some hf
    refine sm_callS (rest := []) F (ct_X11_orNever l D (tyL cI cZ cO) hz24) (cut_D_none cI cZ cO a z21.2) rfl rfl rfl qw6_1 qw6_2 qw1_12 qw6_3 hsX11_orNever ⟨Nat.le_of_ble_eq_true rfl, Nat.le_of_ble_eq_true rfl⟩ ⟨Nat.zero_le _, Nat.zero_le _⟩ rfl (Nat.le_of_ble_eq_true rfl) E0_b (fun _ _ _ _ _ _ => trivial) rfl dX11_speak_24 [.int z24] rfl ?_
    refine sm_istore F [(0, .ref (a 0)), (1, .int x1), (3, .int ((-9) : Int32)), (4, .int z24)] [1, 2, 3, 0] dX11_speak_27 (by decide) rfl ?_
    refine sm_iconst F dX11_speak_29 kc_i_0 ?_
    refine sm_istore F [(0, .ref (a 0)), (1, .int x1), (3, .int ((-9) : Int32)), (4, .int z24), (5, .int (0 : Int32))] [1, 2, 3, 4, 0] dX11_speak_30 (by decide) rfl ?_
    exact s_X11_speak_32 F x1 smN z21.2 ((-9) : Int32) z24 (0 : Int32) hf
  · replace hf := if_f c7 hf
    refine sm_aload_n F dX11_speak_10 rfl 0 rfl ?_
    refine sm_iload_n F dX11_speak_11 rfl 2 rfl ?_
    obtain ⟨z12, hz12, hf⟩ := bd_some hf
    refine sm_callV (rest := []) F (ct_X11_no l D cI cZ cO a hz12) (cut_D_id cI cZ cO a u z12.2) rfl rfl rfl qw5_59 qw5_61 qw0_29 qw1_12 qw5_62 hvX11_no ⟨Nat.le_of_ble_eq_true rfl, Nat.le_of_ble_eq_true rfl⟩ ⟨Nat.zero_le _, Nat.zero_le _⟩ 0 11 rfl rfl rfl rfl (Nat.le_of_ble_eq_true rfl) E0_b (fun _ _ _ _ _ _ => trivial) rfl dX11_speak_12 [.int z12.1] rfl ?_
    exact sm_iret F dX11_speak_15 (Prod.mk.inj (Option.some.inj hf)).1 (congrArg (fun z => (wD cI cZ cO a z)) (Prod.mk.inj (Option.some.inj hf)).2)
/-! SoManyForgottenModel.isHereBy(IIII)Z -/
abbrev rmX11_isHereBy : Room := { frames := 6, cells := 0, slots := 0, locals := 132 }
set_option maxRecDepth 100000 in
theorem hvX11_isHereBy : yX11_isHereBy.cls = RX11 ∧ yX11_isHereBy.cls ≠ "java/lang/invoke/MethodHandle" ∧ yX11_isHereBy.cls ≠ "java/lang/invoke/VarHandle" ∧ (parseMethodDescriptor yX11_isHereBy.desc).map (fun d => d.parameters.length) = some 4 := by decide +kernel
set_option maxRecDepth 100000 in
set_option maxHeartbeats 4000000 in
theorem s_X11_isHereBy_17_b {p : Program} {l : Launch} {e : Env} {s : State} {m : MethodId} {args : Array Value} {below : List Frame} {meth : Method} {c : Code} {A : Nat → Prop} {D : va_G} {cI cZ cO : ClassId} {a : Nat → Nat} {r : Int32} {o : DS} (F : smF p s m args meth c cX11_isHereBy 8 (some .boolean) RX11 D (tyL cI cZ cO) A) (x1 : Int32) (x2 : Int32) (x4 : Int32) (k17 : DS → Int32 → Int32 → Option (Int32 × (DS))) (hk17 : ∀ (u' : DS) (x5' : Int32) (x6' : Int32), k17 u' x5' x6' = some (r, o) → Sm p l e rmX11_isHereBy s m args below meth c D A 8 0 0 (smQ below args s D A (some (.int r)) (wD cI cZ cO a o)) 17 [(0, .ref (a 0)), (1, .int x1), (2, .int x2), (4, .int x4), (5, .int x5'), (6, .int x6')] [] (wD cI cZ cO a u')) (u : DS) (x5 : Int32) (x6 : Int32) (hf : b_X11_isHereBy_17 x1 x2 x4  k17 u x5 x6 = some (r, o)) : Sm p l e rmX11_isHereBy s m args below meth c D A 8 0 0 (smQ below args s D A (some (.int r)) (wD cI cZ cO a o)) 17 [(0, .ref (a 0)), (1, .int x1), (2, .int x2), (4, .int x4), (5, .int x5), (6, .int x6)] [] (wD cI cZ cO a u) := by
  unfold b_X11_isHereBy_17 at hf
  refine sm_iload F dX11_isHereBy_17 5 rfl ?_
  refine sm_iload_n F dX11_isHereBy_19 rfl 2 rfl ?_
  refine sm_icmp_ge (tgt := 84) F dX11_isHereBy_20 (by decide) (fun c20 => ?_) (fun c20 => ?_)
  · replace hf := if_t c20 hf
    refine sm_aload_n F dX11_isHereBy_84 rfl 0 rfl ?_
    refine sm_get (v := .ref (a 2)) F inX11 0 rfl rfl 1 (by decide) qw5_16 rfl rfl dX11_isHereBy_85 ?_
    refine sm_iload F dX11_isHereBy_88 3 rfl ?_
    obtain ⟨z90, hz90, hf⟩ := bd_some hf
    refine sm_callS (rest := []) F (ct_X11_weeksOn l D cI cZ cO (fun i => a (pm_D_i2 i)) hz90) (cut_D_i2 cI cZ cO a u z90) rfl rfl rfl qw5_126 qw5_127 qw1_12 qw5_128 hsX11_weeksOn ⟨Nat.le_of_ble_eq_true rfl, Nat.le_of_ble_eq_true rfl⟩ ⟨Nat.zero_le _, Nat.zero_le _⟩ rfl (Nat.le_of_ble_eq_true rfl) E0_b (fun _ _ _ _ _ _ => trivial) rfl dX11_isHereBy_90 [] rfl ?_
    refine sm_aload_n F dX11_isHereBy_93 rfl 0 rfl ?_
    refine sm_get (v := .ref (a 2)) F inX11 0 rfl rfl 1 (by decide) qw5_16 rfl rfl dX11_isHereBy_94 ?_
    refine sm_iload_n F dX11_isHereBy_97 rfl 1 rfl ?_
    obtain ⟨z98, hz98, hf⟩ := bd_some hf
    refine sm_callS (rest := []) F (ct_X11_isHere l D cI cZ cO (fun i => a (pm_D_i2 i)) hz98) (cut_D_i2_ro cI cZ cO a (sD_m u z90)) rfl rfl rfl qw5_114 qw5_115 qw1_12 qw5_116 hsX11_isHere ⟨Nat.le_of_ble_eq_true rfl, Nat.le_of_ble_eq_true rfl⟩ ⟨Nat.zero_le _, Nat.zero_le _⟩ rfl (Nat.le_of_ble_eq_true rfl) E0_b (fun _ _ _ _ _ _ => trivial) rfl dX11_isHereBy_98 [.int z98] rfl ?_
    obtain ⟨h101, hf⟩ := zr_some hf
    exact sm_zret F dX11_isHereBy_101 h101 (Prod.mk.inj (Option.some.inj hf)).1 (congrArg (fun z => (wD cI cZ cO a z)) (Prod.mk.inj (Option.some.inj hf)).2)
  · replace hf := if_f c20 hf
    refine sm_iload F dX11_isHereBy_23 4 rfl ?_
    refine sm_bipush F dX11_isHereBy_25 kc_b_8 ?_
    refine sm_irem F dX11_isHereBy_27 (by decide) ?_
    refine sm_istore F [(0, .ref (a 0)), (1, .int x1), (2, .int x2), (4, .int x4), (5, .int x5), (6, .int x6), (7, .int (x5 - x5 / (8 : Int32) * (8 : Int32)))] [1, 2, 3, 4, 5, 6, 0] dX11_isHereBy_28 (by decide) rfl ?_
    refine sm_iload F dX11_isHereBy_30 6 rfl ?_
    refine sm_iload_n F dX11_isHereBy_32 rfl 1 rfl ?_
    refine sm_icmp_eq (tgt := 59) F dX11_isHereBy_33 (by decide) (fun c33 => ?_) (fun c33 => ?_)
    · replace hf := if_t c33 hf
      refine sm_iconst F dX11_isHereBy_59 kc_i_0 ?_
      exact sm_zret F dX11_isHereBy_60 rfl (Prod.mk.inj (Option.some.inj hf)).1 (congrArg (fun z => (wD cI cZ cO a z)) (Prod.mk.inj (Option.some.inj hf)).2)
    · replace hf := if_f c33 hf
      refine sm_iload F dX11_isHereBy_36 6 rfl ?_
      refine sm_aload_n F dX11_isHereBy_38 rfl 0 rfl ?_
      refine sm_get (v := .ref (a 1)) F inX11 0 rfl rfl 0 (by decide) qw5_15 rfl rfl dX11_isHereBy_39 ?_
      refine sm_iconst F dX11_isHereBy_42 kc_i_0 ?_
      obtain ⟨h43, hf⟩ := ck_some hf
      refine sm_iald F 1 0 rfl rfl h43 dX11_isHereBy_43 ?_
      refine sm_icmp_ge (tgt := 59) F dX11_isHereBy_44 (by decide) (fun c44 => ?_) (fun c44 => ?_)
      · replace hf := if_t c44 hf
        refine sm_iconst F dX11_isHereBy_59 kc_i_0 ?_
        exact sm_zret F dX11_isHereBy_60 rfl (Prod.mk.inj (Option.some.inj hf)).1 (congrArg (fun z => (wD cI cZ cO a z)) (Prod.mk.inj (Option.some.inj hf)).2)
      · replace hf := if_f c44 hf
        refine sm_aload_n F dX11_isHereBy_47 rfl 0 rfl ?_
        refine sm_get (v := .ref (a 1)) F inX11 0 rfl rfl 0 (by decide) qw5_15 rfl rfl dX11_isHereBy_48 ?_
        refine sm_iload F dX11_isHereBy_51 6 rfl ?_
        obtain ⟨z53, hz53, hf⟩ := bd_some hf
        refine sm_callS (rest := []) F (ct_X11_isHere l D cI cZ cO (fun i => a (pm_D_i1 i)) hz53) (cut_D_i1_ro cI cZ cO a u) rfl rfl rfl qw5_114 qw5_115 qw1_12 qw5_116 hsX11_isHere ⟨Nat.le_of_ble_eq_true rfl, Nat.le_of_ble_eq_true rfl⟩ ⟨Nat.zero_le _, Nat.zero_le _⟩ rfl (Nat.le_of_ble_eq_true rfl) E0_b (fun _ _ _ _ _ _ => trivial) rfl dX11_isHereBy_53 [.int z53] rfl ?_
        refine sm_if_ne (tgt := 61) F dX11_isHereBy_56 (by decide) (fun c56 => ?_) (fun c56 => ?_)
        · replace hf := if_f c56 hf
          refine sm_aload_n F dX11_isHereBy_61 rfl 0 rfl ?_
          refine sm_get (v := .ref (a 2)) F inX11 0 rfl rfl 1 (by decide) qw5_16 rfl rfl dX11_isHereBy_62 ?_
          refine sm_iload_n F dX11_isHereBy_65 rfl 1 rfl ?_
          refine sm_iload F dX11_isHereBy_66 6 rfl ?_
          obtain ⟨z68, hz68, hf⟩ := bd_some hf
          refine sm_callS (rest := []) F (ct_X11_speaksIn l D cI cZ cO (fun i => a (pm_D_i2 i)) hz68) (cut_D_i2 cI cZ cO a u z68) rfl rfl rfl qw5_117 qw5_118 qw1_12 qw5_119 hsX11_speaksIn ⟨Nat.le_of_ble_eq_true rfl, Nat.le_of_ble_eq_true rfl⟩ ⟨Nat.zero_le _, Nat.zero_le _⟩ rfl (Nat.le_of_ble_eq_true rfl) E0_b (fun _ _ _ _ _ _ => trivial) rfl dX11_isHereBy_68 [] rfl ?_
          refine sm_iload F dX11_isHereBy_71 4 rfl ?_
          refine sm_bipush F dX11_isHereBy_73 kc_b_8 ?_
          refine sm_idiv F dX11_isHereBy_75 (by decide) ?_
          refine sm_istore F [(0, .ref (a 0)), (1, .int x1), (2, .int x2), (4, .int x4), (5, .int (x5 / (8 : Int32))), (6, .int x6)] [1, 2, 3, 4, 0, 5] dX11_isHereBy_76 (by decide) rfl ?_
          refine sm_iinc F [(0, .ref (a 0)), (1, .int x1), (2, .int x2), (4, .int x4), (5, .int (x5 / (8 : Int32))), (6, .int (x6 + 1))] 5 [1, 2, 3, 4, 5, 0] dX11_isHereBy_78 rfl kc_i_1 (by decide) rfl ?_
          refine sm_goto (tgt := 17) F dX11_isHereBy_81 (by decide) ?_
          exact hk17 (sD_m u z68) (x5 / (8 : Int32)) (x6 + 1) hf
        · replace hf := if_t c56 hf
          refine sm_iconst F dX11_isHereBy_59 kc_i_0 ?_
          exact sm_zret F dX11_isHereBy_60 rfl (Prod.mk.inj (Option.some.inj hf)).1 (congrArg (fun z => (wD cI cZ cO a z)) (Prod.mk.inj (Option.some.inj hf)).2)
set_option maxRecDepth 100000 in
set_option maxHeartbeats 4000000 in
theorem s_X11_isHereBy_17 {p : Program} {l : Launch} {e : Env} {s : State} {m : MethodId} {args : Array Value} {below : List Frame} {meth : Method} {c : Code} {A : Nat → Prop} {D : va_G} {cI cZ cO : ClassId} {a : Nat → Nat} {r : Int32} {o : DS} (F : smF p s m args meth c cX11_isHereBy 8 (some .boolean) RX11 D (tyL cI cZ cO) A) (x1 : Int32) (x2 : Int32) (x4 : Int32)  (n : Nat) (u : DS) (x5 : Int32) (x6 : Int32) (hf : f_X11_isHereBy_17 x1 x2 x4  n u x5 x6 = some (r, o)) : Sm p l e rmX11_isHereBy s m args below meth c D A 8 0 0 (smQ below args s D A (some (.int r)) (wD cI cZ cO a o)) 17 [(0, .ref (a 0)), (1, .int x1), (2, .int x2), (4, .int x4), (5, .int x5), (6, .int x6)] [] (wD cI cZ cO a u) :=
  lq3_ind (P := fun (u : DS) (x5 : Int32) (x6 : Int32) => Sm p l e rmX11_isHereBy s m args below meth c D A 8 0 0 (smQ below args s D A (some (.int r)) (wD cI cZ cO a o)) 17 [(0, .ref (a 0)), (1, .int x1), (2, .int x2), (4, .int x4), (5, .int x5), (6, .int x6)] [] (wD cI cZ cO a u)) (fun k17 hk17 u x5 x6 h9 => s_X11_isHereBy_17_b F x1 x2 x4  k17 hk17 u x5 x6 h9) n u x5 x6 hf
set_option maxRecDepth 100000 in
set_option maxHeartbeats 4000000 in
theorem ct_X11_isHereBy (l : Launch) (D : va_G) (cI cZ cO : ClassId) (a : Nat → Nat) {u : DS} {x1 : Int32} {x2 : Int32} {x3 : Int32} {x4 : Int32} {r : Int32} {o : DS} (hf : f_X11_isHereBy u x1 x2 x3 x4 = some (r, o)) : Ct l yX11_isHereBy (uw (Cond.code yX11_isHereBy cX11_isHereBy 8 (some .boolean))) rmX11_isHereBy D (tyL cI cZ cO) E0 [.ref (a 0), .int x1, .int x2, .int x3, .int x4] (wD cI cZ cO a u) (some (.int r)) (wD cI cZ cO a o) := by
  refine sm_start (cc := cX11_isHereBy) (maxL := 8) (ret := (some .boolean)) (own := RX11) (by decide) rfl rfl (Nat.le_of_ble_eq_true rfl) (lv := [(0, .ref (a 0)), (1, .int x1), (2, .int x2), (3, .int x3), (4, .int x4)]) rfl ?_
  intro p e s m below meth c A F hE hA
  unfold f_X11_isHereBy at hf
  refine sm_aload_n F dX11_isHereBy_0 rfl 0 rfl ?_
  refine sm_get (v := .ref (a 1)) F inX11 0 rfl rfl 0 (by decide) qw5_15 rfl rfl dX11_isHereBy_1 ?_
  refine sm_aload_n F dX11_isHereBy_4 rfl 0 rfl ?_
  refine sm_get (v := .ref (a 2)) F inX11 0 rfl rfl 1 (by decide) qw5_16 rfl rfl dX11_isHereBy_5 ?_
  obtain ⟨z8, hz8, hf⟩ := bd_some hf
  refine sm_callS (rest := []) F (ct_X11_copies l D cI cZ cO (fun i => a (pm_D_ii1_2 i)) hz8) (cut_D_ii1_2 cI cZ cO a u z8) rfl rfl rfl qw5_89 qw5_90 qw1_12 qw5_91 hsX11_copies ⟨Nat.le_of_ble_eq_true rfl, Nat.le_of_ble_eq_true rfl⟩ ⟨Nat.zero_le _, Nat.zero_le _⟩ rfl (Nat.le_of_ble_eq_true rfl) E0_b (fun _ _ _ _ _ _ => trivial) rfl dX11_isHereBy_8 [] rfl ?_
  refine sm_iload_n F dX11_isHereBy_11 rfl 3 rfl ?_
  refine sm_istore F [(0, .ref (a 0)), (1, .int x1), (2, .int x2), (4, .int x4), (5, .int x3)] [1, 2, 3, 5, 0] dX11_isHereBy_12 (by decide) rfl ?_
  refine sm_iconst F dX11_isHereBy_14 kc_i_0 ?_
  refine sm_istore F [(0, .ref (a 0)), (1, .int x1), (2, .int x2), (4, .int x4), (5, .int x3), (6, .int (0 : Int32))] [1, 2, 3, 4, 5, 0] dX11_isHereBy_15 (by decide) rfl ?_
  exact s_X11_isHereBy_17 F x1 x2 x4 smN (sD_m (sD_s u z8.1) z8.2) x3 (0 : Int32) hf
/-! SoManyForgottenModel.fewest(II)I -/
abbrev rmX11_fewest : Room := { frames := 7, cells := 0, slots := 0, locals := 159 }
set_option maxRecDepth 100000 in
theorem hvX11_fewest : yX11_fewest.cls = RX11 ∧ yX11_fewest.cls ≠ "java/lang/invoke/MethodHandle" ∧ yX11_fewest.cls ≠ "java/lang/invoke/VarHandle" ∧ (parseMethodDescriptor yX11_fewest.desc).map (fun d => d.parameters.length) = some 2 := by decide +kernel
set_option maxRecDepth 100000 in
set_option maxHeartbeats 4000000 in
theorem s_X11_fewest_63_b {p : Program} {l : Launch} {e : Env} {s : State} {m : MethodId} {args : Array Value} {below : List Frame} {meth : Method} {c : Code} {A : Nat → Prop} {D : va_G} {cI cZ cO : ClassId} {a : Nat → Nat} {r : Int32} {o : DS} (F : smF p s m args meth c cX11_fewest 7 (some .int) RX11 D (tyL cI cZ cO) A) (x1 : Int32) (x2 : Int32) (k54 : DS → Int32 → Int32 → Option (Int32 × (DS))) (hk54 : ∀ (u' : DS) (x4' : Int32) (x5' : Int32), k54 u' x4' x5' = some (r, o) → Sm p l e rmX11_fewest s m args below meth c D A 7 0 0 (smQ below args s D A (some (.int r)) (wD cI cZ cO a o)) 54 [(0, .ref (a 0)), (1, .int x1), (2, .int x2), (4, .int x4'), (5, .int x5')] [] (wD cI cZ cO a u')) (k63 : DS → Int32 → Int32 → Int32 → Option (Int32 × (DS))) (hk63 : ∀ (u' : DS) (x4' : Int32) (x5' : Int32) (x6' : Int32), k63 u' x4' x5' x6' = some (r, o) → Sm p l e rmX11_fewest s m args below meth c D A 7 0 0 (smQ below args s D A (some (.int r)) (wD cI cZ cO a o)) 63 [(0, .ref (a 0)), (1, .int x1), (2, .int x2), (4, .int x4'), (5, .int x5'), (6, .int x6')] [] (wD cI cZ cO a u')) (u : DS) (x4 : Int32) (x5 : Int32) (x6 : Int32) (hf : b_X11_fewest_63 x1 x2 k54 k63 u x4 x5 x6 = some (r, o)) : Sm p l e rmX11_fewest s m args below meth c D A 7 0 0 (smQ below args s D A (some (.int r)) (wD cI cZ cO a o)) 63 [(0, .ref (a 0)), (1, .int x1), (2, .int x2), (4, .int x4), (5, .int x5), (6, .int x6)] [] (wD cI cZ cO a u) := by
  unfold b_X11_fewest_63 at hf
  refine sm_iload F dX11_fewest_63 5 rfl ?_
  refine sm_iload F dX11_fewest_65 3 rfl ?_
  refine sm_icmp_ge (tgt := 92) F dX11_fewest_67 (by decide) (fun c67 => ?_) (fun c67 => ?_)
  · replace hf := if_t c67 hf
    refine sm_iload F dX11_fewest_92 3 rfl ?_
    refine sm_bipush F dX11_fewest_94 kc_b_8 ?_
    refine sm_imul F dX11_fewest_96 ?_
    refine sm_istore F [(0, .ref (a 0)), (1, .int x1), (2, .int x2), (4, .int (x4 * (8 : Int32))), (5, .int x5)] [1, 2, 3, 0, 4] dX11_fewest_97 (by decide) rfl ?_
    refine sm_iinc F [(0, .ref (a 0)), (1, .int x1), (2, .int x2), (4, .int (x4 * (8 : Int32))), (5, .int (x5 + 1))] 4 [1, 2, 3, 4, 0] dX11_fewest_99 rfl kc_i_1 (by decide) rfl ?_
    refine sm_goto (tgt := 54) F dX11_fewest_102 (by decide) ?_
    exact hk54 u (x4 * (8 : Int32)) (x5 + 1) hf
  · replace hf := if_f c67 hf
    refine sm_aload_n F dX11_fewest_70 rfl 0 rfl ?_
    refine sm_iload_n F dX11_fewest_71 rfl 1 rfl ?_
    refine sm_iload F dX11_fewest_72 4 rfl ?_
    refine sm_iload F dX11_fewest_74 5 rfl ?_
    refine sm_iload_n F dX11_fewest_76 rfl 2 rfl ?_
    obtain ⟨z77, hz77, hf⟩ := bd_some hf
    refine sm_callV (rest := []) F (ct_X11_isHereBy l D cI cZ cO a hz77) (cut_D_id cI cZ cO a u z77.2) rfl rfl rfl qw6_8 qw6_10 qw0_43 qw1_12 qw6_11 hvX11_isHereBy ⟨Nat.le_of_ble_eq_true rfl, Nat.le_of_ble_eq_true rfl⟩ ⟨Nat.zero_le _, Nat.zero_le _⟩ 0 11 rfl rfl rfl rfl (Nat.le_of_ble_eq_true rfl) E0_b (fun _ _ _ _ _ _ => trivial) rfl dX11_fewest_77 [.int z77.1] rfl ?_
    refine sm_if_eq (tgt := 86) F dX11_fewest_80 (by decide) (fun c80 => ?_) (fun c80 => ?_)
    · replace hf := if_t c80 hf
      refine sm_iinc F [(0, .ref (a 0)), (1, .int x1), (2, .int x2), (4, .int x4), (5, .int x5), (6, .int (x6 + 1))] 5 [1, 2, 3, 4, 5, 0] dX11_fewest_86 rfl kc_i_1 (by decide) rfl ?_
      refine sm_goto (tgt := 63) F dX11_fewest_89 (by decide) ?_
      exact hk63 z77.2 x4 x5 (x6 + 1) hf
    · replace hf := if_f c80 hf
      refine sm_iload F dX11_fewest_83 4 rfl ?_
      exact sm_iret F dX11_fewest_85 (Prod.mk.inj (Option.some.inj hf)).1 (congrArg (fun z => (wD cI cZ cO a z)) (Prod.mk.inj (Option.some.inj hf)).2)
set_option maxRecDepth 100000 in
set_option maxHeartbeats 4000000 in
theorem s_X11_fewest_63 {p : Program} {l : Launch} {e : Env} {s : State} {m : MethodId} {args : Array Value} {below : List Frame} {meth : Method} {c : Code} {A : Nat → Prop} {D : va_G} {cI cZ cO : ClassId} {a : Nat → Nat} {r : Int32} {o : DS} (F : smF p s m args meth c cX11_fewest 7 (some .int) RX11 D (tyL cI cZ cO) A) (x1 : Int32) (x2 : Int32) (k54 : DS → Int32 → Int32 → Option (Int32 × (DS))) (hk54 : ∀ (u' : DS) (x4' : Int32) (x5' : Int32), k54 u' x4' x5' = some (r, o) → Sm p l e rmX11_fewest s m args below meth c D A 7 0 0 (smQ below args s D A (some (.int r)) (wD cI cZ cO a o)) 54 [(0, .ref (a 0)), (1, .int x1), (2, .int x2), (4, .int x4'), (5, .int x5')] [] (wD cI cZ cO a u')) (n : Nat) (u : DS) (x4 : Int32) (x5 : Int32) (x6 : Int32) (hf : f_X11_fewest_63 x1 x2 k54 n u x4 x5 x6 = some (r, o)) : Sm p l e rmX11_fewest s m args below meth c D A 7 0 0 (smQ below args s D A (some (.int r)) (wD cI cZ cO a o)) 63 [(0, .ref (a 0)), (1, .int x1), (2, .int x2), (4, .int x4), (5, .int x5), (6, .int x6)] [] (wD cI cZ cO a u) :=
  lq4_ind (P := fun (u : DS) (x4 : Int32) (x5 : Int32) (x6 : Int32) => Sm p l e rmX11_fewest s m args below meth c D A 7 0 0 (smQ below args s D A (some (.int r)) (wD cI cZ cO a o)) 63 [(0, .ref (a 0)), (1, .int x1), (2, .int x2), (4, .int x4), (5, .int x5), (6, .int x6)] [] (wD cI cZ cO a u)) (fun k63 hk63 u x4 x5 x6 h9 => s_X11_fewest_63_b F x1 x2 k54 hk54 k63 hk63 u x4 x5 x6 h9) n u x4 x5 x6 hf
set_option maxRecDepth 100000 in
set_option maxHeartbeats 4000000 in
theorem s_X11_fewest_54_b {p : Program} {l : Launch} {e : Env} {s : State} {m : MethodId} {args : Array Value} {below : List Frame} {meth : Method} {c : Code} {A : Nat → Prop} {D : va_G} {cI cZ cO : ClassId} {a : Nat → Nat} {r : Int32} {o : DS} (F : smF p s m args meth c cX11_fewest 7 (some .int) RX11 D (tyL cI cZ cO) A) (x1 : Int32) (x2 : Int32) (k54 : DS → Int32 → Int32 → Option (Int32 × (DS))) (hk54 : ∀ (u' : DS) (x4' : Int32) (x5' : Int32), k54 u' x4' x5' = some (r, o) → Sm p l e rmX11_fewest s m args below meth c D A 7 0 0 (smQ below args s D A (some (.int r)) (wD cI cZ cO a o)) 54 [(0, .ref (a 0)), (1, .int x1), (2, .int x2), (4, .int x4'), (5, .int x5')] [] (wD cI cZ cO a u')) (u : DS) (x4 : Int32) (x5 : Int32) (hf : b_X11_fewest_54 x1 x2  k54 u x4 x5 = some (r, o)) : Sm p l e rmX11_fewest s m args below meth c D A 7 0 0 (smQ below args s D A (some (.int r)) (wD cI cZ cO a o)) 54 [(0, .ref (a 0)), (1, .int x1), (2, .int x2), (4, .int x4), (5, .int x5)] [] (wD cI cZ cO a u) := by
  unfold b_X11_fewest_54 at hf
  refine sm_iload F dX11_fewest_54 4 rfl ?_
  refine sm_iconst F dX11_fewest_56 kc_i_3 ?_
  refine sm_icmp_gt (tgt := 105) F dX11_fewest_57 (by decide) (fun c57 => ?_) (fun c57 => ?_)
  · replace hf := if_t c57 hf
    refine sm_bipush F dX11_fewest_105 kc_b_m9 ?_
    exact sm_iret F dX11_fewest_107 (Prod.mk.inj (Option.some.inj hf)).1 (congrArg (fun z => (wD cI cZ cO a z)) (Prod.mk.inj (Option.some.inj hf)).2)
  · replace hf := if_f c57 hf
    refine sm_iconst F dX11_fewest_60 kc_i_0 ?_
    refine sm_istore F [(0, .ref (a 0)), (1, .int x1), (2, .int x2), (4, .int x4), (5, .int x5), (6, .int (0 : Int32))] [1, 2, 3, 4, 5, 0] dX11_fewest_61 (by decide) rfl ?_
    exact s_X11_fewest_63 F x1 x2 k54 hk54 smN u x4 x5 (0 : Int32) hf
set_option maxRecDepth 100000 in
set_option maxHeartbeats 4000000 in
theorem s_X11_fewest_54 {p : Program} {l : Launch} {e : Env} {s : State} {m : MethodId} {args : Array Value} {below : List Frame} {meth : Method} {c : Code} {A : Nat → Prop} {D : va_G} {cI cZ cO : ClassId} {a : Nat → Nat} {r : Int32} {o : DS} (F : smF p s m args meth c cX11_fewest 7 (some .int) RX11 D (tyL cI cZ cO) A) (x1 : Int32) (x2 : Int32)  (n : Nat) (u : DS) (x4 : Int32) (x5 : Int32) (hf : f_X11_fewest_54 x1 x2  n u x4 x5 = some (r, o)) : Sm p l e rmX11_fewest s m args below meth c D A 7 0 0 (smQ below args s D A (some (.int r)) (wD cI cZ cO a o)) 54 [(0, .ref (a 0)), (1, .int x1), (2, .int x2), (4, .int x4), (5, .int x5)] [] (wD cI cZ cO a u) :=
  lq3_ind (P := fun (u : DS) (x4 : Int32) (x5 : Int32) => Sm p l e rmX11_fewest s m args below meth c D A 7 0 0 (smQ below args s D A (some (.int r)) (wD cI cZ cO a o)) 54 [(0, .ref (a 0)), (1, .int x1), (2, .int x2), (4, .int x4), (5, .int x5)] [] (wD cI cZ cO a u)) (fun k54 hk54 u x4 x5 h9 => s_X11_fewest_54_b F x1 x2  k54 hk54 u x4 x5 h9) n u x4 x5 hf
set_option maxRecDepth 100000 in
set_option maxHeartbeats 4000000 in
theorem s_X11_fewest_38 {p : Program} {l : Launch} {e : Env} {s : State} {m : MethodId} {args : Array Value} {below : List Frame} {meth : Method} {c : Code} {A : Nat → Prop} {D : va_G} {cI cZ cO : ClassId} {a : Nat → Nat} {r : Int32} {o : DS} (F : smF p s m args meth c cX11_fewest 7 (some .int) RX11 D (tyL cI cZ cO) A) (x1 : Int32) (x2 : Int32)  (u : DS) (x3 : Int32) (hf : f_X11_fewest_38 x1 x2   u x3 = some (r, o)) : Sm p l e rmX11_fewest s m args below meth c D A 7 0 0 (smQ below args s D A (some (.int r)) (wD cI cZ cO a o)) 38 [(0, .ref (a 0)), (1, .int x1), (2, .int x2), (3, .int x3)] [] (wD cI cZ cO a u) := by
  unfold f_X11_fewest_38 at hf
  refine sm_iload_n F dX11_fewest_38 rfl 3 rfl ?_
  refine sm_if_eq (tgt := 48) F dX11_fewest_39 (by decide) (fun c39 => ?_) (fun c39 => ?_)
  · replace hf := if_t c39 hf
    refine sm_iconst F dX11_fewest_48 kc_i_1 ?_
    refine sm_istore F [(0, .ref (a 0)), (1, .int x1), (2, .int x2), (4, .int (1 : Int32))] [1, 2, 3, 0] dX11_fewest_49 (by decide) rfl ?_
    refine sm_iconst F dX11_fewest_51 kc_i_0 ?_
    refine sm_istore F [(0, .ref (a 0)), (1, .int x1), (2, .int x2), (4, .int (1 : Int32)), (5, .int (0 : Int32))] [1, 2, 3, 4, 0] dX11_fewest_52 (by decide) rfl ?_
    exact s_X11_fewest_54 F x1 x2 smN u (1 : Int32) (0 : Int32) hf
  · replace hf := if_f c39 hf
    refine sm_aload_n F dX11_fewest_42 rfl 0 rfl ?_
    refine sm_iload_n F dX11_fewest_43 rfl 3 rfl ?_
    obtain ⟨z44, hz44, hf⟩ := bd_some hf
    refine sm_callV (rest := []) F (ct_X11_no l D cI cZ cO a hz44) (cut_D_id cI cZ cO a u z44.2) rfl rfl rfl qw5_59 qw5_61 qw0_29 qw1_12 qw5_62 hvX11_no ⟨Nat.le_of_ble_eq_true rfl, Nat.le_of_ble_eq_true rfl⟩ ⟨Nat.zero_le _, Nat.zero_le _⟩ 0 11 rfl rfl rfl rfl (Nat.le_of_ble_eq_true rfl) E0_b (fun _ _ _ _ _ _ => trivial) rfl dX11_fewest_44 [.int z44.1] rfl ?_
    exact sm_iret F dX11_fewest_47 (Prod.mk.inj (Option.some.inj hf)).1 (congrArg (fun z => (wD cI cZ cO a z)) (Prod.mk.inj (Option.some.inj hf)).2)
set_option maxRecDepth 100000 in
set_option maxHeartbeats 4000000 in
theorem s_X11_fewest_19 {p : Program} {l : Launch} {e : Env} {s : State} {m : MethodId} {args : Array Value} {below : List Frame} {meth : Method} {c : Code} {A : Nat → Prop} {D : va_G} {cI cZ cO : ClassId} {a : Nat → Nat} {r : Int32} {o : DS} (F : smF p s m args meth c cX11_fewest 7 (some .int) RX11 D (tyL cI cZ cO) A) (x1 : Int32) (x2 : Int32)  (u : DS) (y0 : Int32) (hf : f_X11_fewest_19 x1 x2   u y0 = some (r, o)) : Sm p l e rmX11_fewest s m args below meth c D A 7 0 0 (smQ below args s D A (some (.int r)) (wD cI cZ cO a o)) 19 [(0, .ref (a 0)), (1, .int x1), (2, .int x2)] [.int y0] (wD cI cZ cO a u) := by
  unfold f_X11_fewest_19 at hf
  refine sm_istore_n F [(0, .ref (a 0)), (1, .int x1), (2, .int x2), (3, .int y0)] [1, 2, 3, 0] dX11_fewest_19 rfl (by decide) rfl ?_
  refine sm_iload_n F dX11_fewest_20 rfl 3 rfl ?_
  refine sm_if_ne (tgt := 38) F dX11_fewest_21 (by decide) (fun c21 => ?_) (fun c21 => ?_)
  · replace hf := if_f c21 hf
    exact s_X11_fewest_38 F x1 x2 u y0 hf
  · replace hf := if_t c21 hf
    refine sm_aload_n F dX11_fewest_24 rfl 0 rfl ?_
    refine sm_get (v := .ref (a 1)) F inX11 0 rfl rfl 0 (by decide) qw5_15 rfl rfl dX11_fewest_25 ?_
    refine sm_iload_n F dX11_fewest_28 rfl 1 rfl ?_
    obtain ⟨z29, hz29, hf⟩ := bd_some hf
    refine sm_callS (rest := []) F (ct_X11_isHere l D cI cZ cO (fun i => a (pm_D_i1 i)) hz29) (cut_D_i1_ro cI cZ cO a u) rfl rfl rfl qw5_114 qw5_115 qw1_12 qw5_116 hsX11_isHere ⟨Nat.le_of_ble_eq_true rfl, Nat.le_of_ble_eq_true rfl⟩ ⟨Nat.zero_le _, Nat.zero_le _⟩ rfl (Nat.le_of_ble_eq_true rfl) E0_b (fun _ _ _ _ _ _ => trivial) rfl dX11_fewest_29 [.int z29] rfl ?_
    refine sm_if_ne (tgt := 38) F dX11_fewest_32 (by decide) (fun c32 => ?_) (fun c32 => ?_)
    · replace hf := if_f c32 hf
      exact s_X11_fewest_38 F x1 x2 u y0 hf
    · replace hf := if_t c32 hf
      refine sm_bipush F dX11_fewest_35 kc_b_m3 ?_
      refine sm_istore_n F [(0, .ref (a 0)), (1, .int x1), (2, .int x2), (3, .int ((-3) : Int32))] [1, 2, 3, 0] dX11_fewest_37 rfl (by decide) rfl ?_
      exact s_X11_fewest_38 F x1 x2 u ((-3) : Int32) hf
set_option maxRecDepth 100000 in
set_option maxHeartbeats 4000000 in
theorem ct_X11_fewest (l : Launch) (D : va_G) (cI cZ cO : ClassId) (a : Nat → Nat) {u : DS} {x1 : Int32} {x2 : Int32} {r : Int32} {o : DS} (hf : f_X11_fewest u x1 x2 = some (r, o)) : Ct l yX11_fewest (uw (Cond.code yX11_fewest cX11_fewest 7 (some .int))) rmX11_fewest D (tyL cI cZ cO) E0 [.ref (a 0), .int x1, .int x2] (wD cI cZ cO a u) (some (.int r)) (wD cI cZ cO a o) := by
  refine sm_start (cc := cX11_fewest) (maxL := 7) (ret := (some .int)) (own := RX11) (by decide) rfl rfl (Nat.le_of_ble_eq_true rfl) (lv := [(0, .ref (a 0)), (1, .int x1), (2, .int x2)]) rfl ?_
  intro p e s m below meth c A F hE hA
  unfold f_X11_fewest at hf
  refine sm_aload_n F dX11_fewest_0 rfl 0 rfl ?_
  refine sm_iload_n F dX11_fewest_1 rfl 1 rfl ?_
  obtain ⟨z2, hz2, hf⟩ := bd_some hf
  refine sm_callV (rest := []) F (ct_X11_isOne l D cI cZ cO a hz2) (cut_D_id cI cZ cO a u u) rfl rfl rfl qw5_110 qw5_112 qw0_37 qw1_12 qw5_113 hvX11_isOne ⟨Nat.le_of_ble_eq_true rfl, Nat.le_of_ble_eq_true rfl⟩ ⟨Nat.zero_le _, Nat.zero_le _⟩ 0 11 rfl rfl rfl rfl (Nat.le_of_ble_eq_true rfl) E0_b (fun _ _ _ _ _ _ => trivial) rfl dX11_fewest_2 [.int z2] rfl ?_
  refine sm_if_eq (tgt := 18) F dX11_fewest_5 (by decide) (fun c5 => ?_) (fun c5 => ?_)
  · replace hf := if_t c5 hf
    refine sm_iconst F dX11_fewest_18 kc_i_m1 ?_
    exact s_X11_fewest_19 F x1 x2 u ((-1) : Int32) hf
  · replace hf := if_f c5 hf
    refine sm_iload_n F dX11_fewest_8 rfl 2 rfl ?_
    refine sm_iconst F dX11_fewest_9 kc_i_0 ?_
    refine sm_bipush F dX11_fewest_10 kc_b_60 ?_
    obtain ⟨z12, hz12, hf⟩ := bd_some hf
    refine sm_callS (rest := []) F (ct_X11_wrongBy l D (tyL cI cZ cO) hz12) (cut_D_none cI cZ cO a u) rfl rfl rfl qw5_159 qw5_160 qw1_12 qw5_161 hsX11_wrongBy ⟨Nat.le_of_ble_eq_true rfl, Nat.le_of_ble_eq_true rfl⟩ ⟨Nat.zero_le _, Nat.zero_le _⟩ rfl (Nat.le_of_ble_eq_true rfl) E0_b (fun _ _ _ _ _ _ => trivial) rfl dX11_fewest_12 [.int z12] rfl ?_
    refine sm_goto (tgt := 19) F dX11_fewest_15 (by decide) ?_
    exact s_X11_fewest_19 F x1 x2 u z12 hf
/-! SoManyForgottenModel.save(I)I -/
abbrev rmX11_save : Room := { frames := 7, cells := 0, slots := 0, locals := 153 }
set_option maxRecDepth 100000 in
theorem hvX11_save : yX11_save.cls = RX11 ∧ yX11_save.cls ≠ "java/lang/invoke/MethodHandle" ∧ yX11_save.cls ≠ "java/lang/invoke/VarHandle" ∧ (parseMethodDescriptor yX11_save.desc).map (fun d => d.parameters.length) = some 1 := by decide +kernel
set_option maxRecDepth 100000 in
set_option maxHeartbeats 4000000 in
theorem s_X11_save_41_b {p : Program} {l : Launch} {e : Env} {s : State} {m : MethodId} {args : Array Value} {below : List Frame} {meth : Method} {c : Code} {A : Nat → Prop} {D : va_G} {cI cZ cO : ClassId} {a : Nat → Nat} {r : Int32} {o : DS} (F : smF p s m args meth c cX11_save 7 (some .int) RX11 D (tyL cI cZ cO) A) (x1 : Int32) (k41 : DS → Int32 → Int32 → Int32 → Option (Int32 × (DS))) (hk41 : ∀ (u' : DS) (x3' : Int32) (x4' : Int32) (x5' : Int32), k41 u' x3' x4' x5' = some (r, o) → Sm p l e rmX11_save s m args below meth c D A 7 0 0 (smQ below args s D A (some (.int r)) (wD cI cZ cO a o)) 41 [(0, .ref (a 0)), (1, .int x1), (3, .int x3'), (4, .int x4'), (5, .int x5')] [] (wD cI cZ cO a u')) (u : DS) (x3 : Int32) (x4 : Int32) (x5 : Int32) (hf : b_X11_save_41 x1  k41 u x3 x4 x5 = some (r, o)) : Sm p l e rmX11_save s m args below meth c D A 7 0 0 (smQ below args s D A (some (.int r)) (wD cI cZ cO a o)) 41 [(0, .ref (a 0)), (1, .int x1), (3, .int x3), (4, .int x4), (5, .int x5)] [] (wD cI cZ cO a u) := by
  unfold b_X11_save_41 at hf
  refine sm_iload F dX11_save_41 4 rfl ?_
  refine sm_aload_n F dX11_save_43 rfl 0 rfl ?_
  refine sm_get (v := .ref (a 1)) F inX11 0 rfl rfl 0 (by decide) qw5_15 rfl rfl dX11_save_44 ?_
  refine sm_iconst F dX11_save_47 kc_i_0 ?_
  obtain ⟨h48, hf⟩ := ck_some hf
  refine sm_iald F 1 0 rfl rfl h48 dX11_save_48 ?_
  refine sm_icmp_ge (tgt := 132) F dX11_save_49 (by decide) (fun c49 => ?_) (fun c49 => ?_)
  · replace hf := if_t c49 hf
    refine sm_iload F dX11_save_132 3 rfl ?_
    exact sm_iret F dX11_save_134 (Prod.mk.inj (Option.some.inj hf)).1 (congrArg (fun z => (wD cI cZ cO a z)) (Prod.mk.inj (Option.some.inj hf)).2)
  · replace hf := if_f c49 hf
    refine sm_aload_n F dX11_save_52 rfl 0 rfl ?_
    refine sm_get (v := .ref (a 1)) F inX11 0 rfl rfl 0 (by decide) qw5_15 rfl rfl dX11_save_53 ?_
    refine sm_iload F dX11_save_56 4 rfl ?_
    obtain ⟨z58, hz58, hf⟩ := bd_some hf
    refine sm_callS (rest := []) F (ct_X11_isHere l D cI cZ cO (fun i => a (pm_D_i1 i)) hz58) (cut_D_i1_ro cI cZ cO a u) rfl rfl rfl qw5_114 qw5_115 qw1_12 qw5_116 hsX11_isHere ⟨Nat.le_of_ble_eq_true rfl, Nat.le_of_ble_eq_true rfl⟩ ⟨Nat.zero_le _, Nat.zero_le _⟩ rfl (Nat.le_of_ble_eq_true rfl) E0_b (fun _ _ _ _ _ _ => trivial) rfl dX11_save_58 [.int z58] rfl ?_
    refine sm_if_ne (tgt := 67) F dX11_save_61 (by decide) (fun c61 => ?_) (fun c61 => ?_)
    · replace hf := if_f c61 hf
      refine sm_aload_n F dX11_save_67 rfl 0 rfl ?_
      refine sm_get (v := .ref (a 1)) F inX11 0 rfl rfl 0 (by decide) qw5_15 rfl rfl dX11_save_68 ?_
      refine sm_aload_n F dX11_save_71 rfl 0 rfl ?_
      refine sm_get (v := .ref (a 2)) F inX11 0 rfl rfl 1 (by decide) qw5_16 rfl rfl dX11_save_72 ?_
      obtain ⟨z75, hz75, hf⟩ := bd_some hf
      refine sm_callS (rest := []) F (ct_X11_copies l D cI cZ cO (fun i => a (pm_D_ii1_2 i)) hz75) (cut_D_ii1_2 cI cZ cO a u z75) rfl rfl rfl qw5_89 qw5_90 qw1_12 qw5_91 hsX11_copies ⟨Nat.le_of_ble_eq_true rfl, Nat.le_of_ble_eq_true rfl⟩ ⟨Nat.zero_le _, Nat.zero_le _⟩ rfl (Nat.le_of_ble_eq_true rfl) E0_b (fun _ _ _ _ _ _ => trivial) rfl dX11_save_75 [] rfl ?_
      refine sm_aload_n F dX11_save_78 rfl 0 rfl ?_
      refine sm_get (v := .ref (a 2)) F inX11 0 rfl rfl 1 (by decide) qw5_16 rfl rfl dX11_save_79 ?_
      refine sm_iload F dX11_save_82 4 rfl ?_
      refine sm_iconst F dX11_save_84 kc_i_0 ?_
      obtain ⟨z85, hz85, hf⟩ := bd_some hf
      refine sm_callS (rest := [.ref (a 2)]) F (ct_X11_of l D (tyL cI cZ cO) hz85) (cut_D_none cI cZ cO a (sD_m (sD_s u z75.1) z75.2)) rfl rfl rfl qw5_100 qw5_101 qw1_12 qw5_102 hsX11_of ⟨Nat.le_of_ble_eq_true rfl, Nat.le_of_ble_eq_true rfl⟩ ⟨Nat.zero_le _, Nat.zero_le _⟩ rfl (Nat.le_of_ble_eq_true rfl) E0_b (fun _ _ _ _ _ _ => trivial) rfl dX11_save_85 [.int z85, .ref (a 2)] rfl ?_
      refine sm_iconst F dX11_save_88 kc_i_4 ?_
      obtain ⟨h89, hf⟩ := ck_some hf
      refine sm_iast F 2 0 rfl rfl h89 (wD cI cZ cO a (sD_m (sD_m (sD_s u z75.1) z75.2) (upd (gD_m (sD_m (sD_s u z75.1) z75.2)) (Int32.toNatClampNeg z85) (4 : Int32)))) rfl dX11_save_89 ?_
      obtain ⟨u89, hu89, hf⟩ := bd_some hf
      refine sm_ws (ws' := (wD cI cZ cO a u89)) (congrArg (fun z => (wD cI cZ cO a z)) (Option.some.inj hu89)) ?_
      refine sm_aload_n F dX11_save_90 rfl 0 rfl ?_
      refine sm_get (v := .ref (a 2)) F inX11 0 rfl rfl 1 (by decide) qw5_16 rfl rfl dX11_save_91 ?_
      refine sm_iload_n F dX11_save_94 rfl 1 rfl ?_
      obtain ⟨z95, hz95, hf⟩ := bd_some hf
      refine sm_callS (rest := []) F (ct_X11_weeksOn l D cI cZ cO (fun i => a (pm_D_i2 i)) hz95) (cut_D_i2 cI cZ cO a u89 z95) rfl rfl rfl qw5_126 qw5_127 qw1_12 qw5_128 hsX11_weeksOn ⟨Nat.le_of_ble_eq_true rfl, Nat.le_of_ble_eq_true rfl⟩ ⟨Nat.zero_le _, Nat.zero_le _⟩ rfl (Nat.le_of_ble_eq_true rfl) E0_b (fun _ _ _ _ _ _ => trivial) rfl dX11_save_95 [] rfl ?_
      refine sm_aload_n F dX11_save_98 rfl 0 rfl ?_
      refine sm_get (v := .ref (a 2)) F inX11 0 rfl rfl 1 (by decide) qw5_16 rfl rfl dX11_save_99 ?_
      obtain ⟨z102, hz102, hf⟩ := bd_some hf
      refine sm_callS (rest := []) F (ct_X11_hereIn l D cI cZ cO (fun i => a (pm_D_i2 i)) hz102) (cut_D_i2_ro cI cZ cO a (sD_m u89 z95)) rfl rfl rfl qw5_174 qw5_175 qw1_12 qw5_176 hsX11_hereIn ⟨Nat.le_of_ble_eq_true rfl, Nat.le_of_ble_eq_true rfl⟩ ⟨Nat.zero_le _, Nat.zero_le _⟩ rfl (Nat.le_of_ble_eq_true rfl) E0_b (fun _ _ _ _ _ _ => trivial) rfl dX11_save_102 [.int z102] rfl ?_
      obtain ⟨z105, hz105, hf⟩ := bd_some hf
      refine sm_callS (rest := []) F (ct_X11_bits l D (tyL cI cZ cO) hz105) (cut_D_none cI cZ cO a (sD_m u89 z95)) rfl rfl rfl qw5_177 qw5_178 qw1_12 qw5_179 hsX11_bits ⟨Nat.le_of_ble_eq_true rfl, Nat.le_of_ble_eq_true rfl⟩ ⟨Nat.zero_le _, Nat.zero_le _⟩ rfl (Nat.le_of_ble_eq_true rfl) E0_b (fun _ _ _ _ _ _ => trivial) rfl dX11_save_105 [.int z105] rfl ?_
      refine sm_istore F [(0, .ref (a 0)), (1, .int x1), (3, .int x3), (4, .int x4), (5, .int x5), (6, .int z105)] [1, 2, 3, 4, 5, 0] dX11_save_108 (by decide) rfl ?_
      refine sm_iload F dX11_save_110 5 rfl ?_
      refine sm_iload_n F dX11_save_112 rfl 2 rfl ?_
      refine sm_icmp_gt (tgt := 119) F dX11_save_113 (by decide) (fun c113 => ?_) (fun c113 => ?_)
      · replace hf := if_t c113 hf
        refine sm_iload F dX11_save_119 4 rfl ?_
        refine sm_istore F [(0, .ref (a 0)), (1, .int x1), (4, .int x5), (5, .int x5), (6, .int z105)] [1, 2, 0, 4, 5] dX11_save_121 (by decide) rfl ?_
        refine sm_iload F dX11_save_123 4 rfl ?_
        refine sm_istore_n F [(0, .ref (a 0)), (1, .int x1), (3, .int z105), (4, .int x5), (5, .int x5)] [1, 2, 0, 3, 4] dX11_save_125 rfl (by decide) rfl ?_
        refine sm_iinc F [(0, .ref (a 0)), (1, .int x1), (3, .int z105), (4, .int x5), (5, .int (x5 + 1))] 4 [1, 2, 3, 4, 0] dX11_save_126 rfl kc_i_1 (by decide) rfl ?_
        refine sm_goto (tgt := 41) F dX11_save_129 (by decide) ?_
        exact hk41 (sD_m u89 z95) z105 x5 (x5 + 1) hf
      · replace hf := if_f c113 hf
        refine sm_goto (tgt := 126) F dX11_save_116 (by decide) ?_
        refine sm_iinc F [(0, .ref (a 0)), (1, .int x1), (3, .int x3), (4, .int x4), (5, .int (x5 + 1)), (6, .int z105)] 4 [1, 2, 3, 4, 0, 5] dX11_save_126 rfl kc_i_1 (by decide) rfl ?_
        refine sm_goto (tgt := 41) F dX11_save_129 (by decide) ?_
        refine sm_sub (lv' := [(0, .ref (a 0)), (1, .int x1), (3, .int x3), (4, .int x4), (5, .int (x5 + 1))]) [0, 1, 2, 3, 4] rfl ?_
        exact hk41 (sD_m u89 z95) x3 x4 (x5 + 1) hf
    · replace hf := if_t c61 hf
      refine sm_goto (tgt := 126) F dX11_save_64 (by decide) ?_
      refine sm_iinc F [(0, .ref (a 0)), (1, .int x1), (3, .int x3), (4, .int x4), (5, .int (x5 + 1))] 4 [1, 2, 3, 4, 0] dX11_save_126 rfl kc_i_1 (by decide) rfl ?_
      refine sm_goto (tgt := 41) F dX11_save_129 (by decide) ?_
      exact hk41 u x3 x4 (x5 + 1) hf
set_option maxRecDepth 100000 in
set_option maxHeartbeats 4000000 in
theorem s_X11_save_41 {p : Program} {l : Launch} {e : Env} {s : State} {m : MethodId} {args : Array Value} {below : List Frame} {meth : Method} {c : Code} {A : Nat → Prop} {D : va_G} {cI cZ cO : ClassId} {a : Nat → Nat} {r : Int32} {o : DS} (F : smF p s m args meth c cX11_save 7 (some .int) RX11 D (tyL cI cZ cO) A) (x1 : Int32)  (n : Nat) (u : DS) (x3 : Int32) (x4 : Int32) (x5 : Int32) (hf : f_X11_save_41 x1  n u x3 x4 x5 = some (r, o)) : Sm p l e rmX11_save s m args below meth c D A 7 0 0 (smQ below args s D A (some (.int r)) (wD cI cZ cO a o)) 41 [(0, .ref (a 0)), (1, .int x1), (3, .int x3), (4, .int x4), (5, .int x5)] [] (wD cI cZ cO a u) :=
  lq4_ind (P := fun (u : DS) (x3 : Int32) (x4 : Int32) (x5 : Int32) => Sm p l e rmX11_save s m args below meth c D A 7 0 0 (smQ below args s D A (some (.int r)) (wD cI cZ cO a o)) 41 [(0, .ref (a 0)), (1, .int x1), (3, .int x3), (4, .int x4), (5, .int x5)] [] (wD cI cZ cO a u)) (fun k41 hk41 u x3 x4 x5 h9 => s_X11_save_41_b F x1  k41 hk41 u x3 x4 x5 h9) n u x3 x4 x5 hf
set_option maxRecDepth 100000 in
set_option maxHeartbeats 4000000 in
theorem ct_X11_save (l : Launch) (D : va_G) (cI cZ cO : ClassId) (a : Nat → Nat) {u : DS} {x1 : Int32} {r : Int32} {o : DS} (hf : f_X11_save u x1 = some (r, o)) : Ct l yX11_save (uw (Cond.code yX11_save cX11_save 7 (some .int))) rmX11_save D (tyL cI cZ cO) E0 [.ref (a 0), .int x1] (wD cI cZ cO a u) (some (.int r)) (wD cI cZ cO a o) := by
  refine sm_start (cc := cX11_save) (maxL := 7) (ret := (some .int)) (own := RX11) (by decide) rfl rfl (Nat.le_of_ble_eq_true rfl) (lv := [(0, .ref (a 0)), (1, .int x1)]) rfl ?_
  intro p e s m below meth c A F hE hA
  unfold f_X11_save at hf
  refine sm_iload_n F dX11_save_0 rfl 1 rfl ?_
  refine sm_iconst F dX11_save_1 kc_i_0 ?_
  refine sm_bipush F dX11_save_2 kc_b_60 ?_
  obtain ⟨z4, hz4, hf⟩ := bd_some hf
  refine sm_callS (rest := []) F (ct_X11_wrongBy l D (tyL cI cZ cO) hz4) (cut_D_none cI cZ cO a u) rfl rfl rfl qw5_159 qw5_160 qw1_12 qw5_161 hsX11_wrongBy ⟨Nat.le_of_ble_eq_true rfl, Nat.le_of_ble_eq_true rfl⟩ ⟨Nat.zero_le _, Nat.zero_le _⟩ rfl (Nat.le_of_ble_eq_true rfl) E0_b (fun _ _ _ _ _ _ => trivial) rfl dX11_save_4 [.int z4] rfl ?_
  refine sm_istore_n F [(0, .ref (a 0)), (1, .int x1), (2, .int z4)] [1, 2, 0] dX11_save_7 rfl (by decide) rfl ?_
  refine sm_iload_n F dX11_save_8 rfl 2 rfl ?_
  refine sm_if_eq (tgt := 18) F dX11_save_9 (by decide) (fun c9 => ?_) (fun c9 => ?_)
  · replace hf := if_t c9 hf
    refine sm_aload_n F dX11_save_18 rfl 0 rfl ?_
    refine sm_iload_n F dX11_save_19 rfl 1 rfl ?_
    obtain ⟨z20, hz20, hf⟩ := bd_some hf
    refine sm_callV (rest := []) F (ct_X11_takes l D cI cZ cO a hz20) (cut_D_id cI cZ cO a u z20) rfl rfl rfl qw5_196 qw5_198 qw0_38 qw1_12 qw5_199 hvX11_takes ⟨Nat.le_of_ble_eq_true rfl, Nat.le_of_ble_eq_true rfl⟩ ⟨Nat.zero_le _, Nat.zero_le _⟩ 0 11 rfl rfl rfl rfl (Nat.le_of_ble_eq_true rfl) E0_b (fun _ _ _ _ _ _ => trivial) rfl dX11_save_20 [] rfl ?_
    refine sm_aload_n F dX11_save_23 rfl 0 rfl ?_
    refine sm_get (v := .ref (a 2)) F inX11 0 rfl rfl 1 (by decide) qw5_16 rfl rfl dX11_save_24 ?_
    obtain ⟨z27, hz27, hf⟩ := bd_some hf
    refine sm_callS (rest := []) F (ct_X11_hereIn l D cI cZ cO (fun i => a (pm_D_i2 i)) hz27) (cut_D_i2_ro cI cZ cO a z20) rfl rfl rfl qw5_174 qw5_175 qw1_12 qw5_176 hsX11_hereIn ⟨Nat.le_of_ble_eq_true rfl, Nat.le_of_ble_eq_true rfl⟩ ⟨Nat.zero_le _, Nat.zero_le _⟩ rfl (Nat.le_of_ble_eq_true rfl) E0_b (fun _ _ _ _ _ _ => trivial) rfl dX11_save_27 [.int z27] rfl ?_
    obtain ⟨z30, hz30, hf⟩ := bd_some hf
    refine sm_callS (rest := []) F (ct_X11_bits l D (tyL cI cZ cO) hz30) (cut_D_none cI cZ cO a z20) rfl rfl rfl qw5_177 qw5_178 qw1_12 qw5_179 hsX11_bits ⟨Nat.le_of_ble_eq_true rfl, Nat.le_of_ble_eq_true rfl⟩ ⟨Nat.zero_le _, Nat.zero_le _⟩ rfl (Nat.le_of_ble_eq_true rfl) E0_b (fun _ _ _ _ _ _ => trivial) rfl dX11_save_30 [.int z30] rfl ?_
    refine sm_istore_n F [(0, .ref (a 0)), (1, .int x1), (3, .int z30)] [1, 2, 0] dX11_save_33 rfl (by decide) rfl ?_
    refine sm_bipush F dX11_save_34 kc_b_m9 ?_
    refine sm_istore F [(0, .ref (a 0)), (1, .int x1), (3, .int z30), (4, .int ((-9) : Int32))] [1, 2, 3, 0] dX11_save_36 (by decide) rfl ?_
    refine sm_iconst F dX11_save_38 kc_i_0 ?_
    refine sm_istore F [(0, .ref (a 0)), (1, .int x1), (3, .int z30), (4, .int ((-9) : Int32)), (5, .int (0 : Int32))] [1, 2, 3, 4, 0] dX11_save_39 (by decide) rfl ?_
    exact s_X11_save_41 F x1 smN z20 z30 ((-9) : Int32) (0 : Int32) hf
  · replace hf := if_f c9 hf
    refine sm_aload_n F dX11_save_12 rfl 0 rfl ?_
    refine sm_iload_n F dX11_save_13 rfl 2 rfl ?_
    obtain ⟨z14, hz14, hf⟩ := bd_some hf
    refine sm_callV (rest := []) F (ct_X11_no l D cI cZ cO a hz14) (cut_D_id cI cZ cO a u z14.2) rfl rfl rfl qw5_59 qw5_61 qw0_29 qw1_12 qw5_62 hvX11_no ⟨Nat.le_of_ble_eq_true rfl, Nat.le_of_ble_eq_true rfl⟩ ⟨Nat.zero_le _, Nat.zero_le _⟩ 0 11 rfl rfl rfl rfl (Nat.le_of_ble_eq_true rfl) E0_b (fun _ _ _ _ _ _ => trivial) rfl dX11_save_14 [.int z14.1] rfl ?_
    exact sm_iret F dX11_save_17 (Prod.mk.inj (Option.some.inj hf)).1 (congrArg (fun z => (wD cI cZ cO a z)) (Prod.mk.inj (Option.some.inj hf)).2)
/-! SoManyForgottenModel.bring(I)I -/
abbrev rmX11_bring : Room := { frames := 6, cells := 0, slots := 0, locals := 132 }
set_option maxRecDepth 100000 in
theorem hvX11_bring : yX11_bring.cls = RX11 ∧ yX11_bring.cls ≠ "java/lang/invoke/MethodHandle" ∧ yX11_bring.cls ≠ "java/lang/invoke/VarHandle" ∧ (parseMethodDescriptor yX11_bring.desc).map (fun d => d.parameters.length) = some 1 := by decide +kernel
set_option maxRecDepth 100000 in
set_option maxHeartbeats 4000000 in
theorem s_X11_bring_90 {p : Program} {l : Launch} {e : Env} {s : State} {m : MethodId} {args : Array Value} {below : List Frame} {meth : Method} {c : Code} {A : Nat → Prop} {D : va_G} {cI cZ cO : ClassId} {a : Nat → Nat} {r : Int32} {o : DS} (F : smF p s m args meth c cX11_bring 6 (some .int) RX11 D (tyL cI cZ cO) A) (x1 : Int32) (k24 : DS → Int32 → Int32 → Int32 → Option (Int32 × (DS))) (hk24 : ∀ (u' : DS) (x2' : Int32) (x3' : Int32) (x4' : Int32), k24 u' x2' x3' x4' = some (r, o) → Sm p l e rmX11_bring s m args below meth c D A 6 0 0 (smQ below args s D A (some (.int r)) (wD cI cZ cO a o)) 24 [(0, .ref (a 0)), (1, .int x1), (2, .int x2'), (3, .int x3'), (4, .int x4')] [] (wD cI cZ cO a u')) (u : DS) (x2 : Int32) (x3 : Int32) (x4 : Int32) (y0 : Int32) (hf : f_X11_bring_90 x1 k24  u x2 x3 x4 y0 = some (r, o)) : Sm p l e rmX11_bring s m args below meth c D A 6 0 0 (smQ below args s D A (some (.int r)) (wD cI cZ cO a o)) 90 [(0, .ref (a 0)), (1, .int x1), (2, .int x2), (3, .int x3), (4, .int x4)] [.int y0] (wD cI cZ cO a u) := by
  unfold f_X11_bring_90 at hf
  refine sm_istore F [(0, .ref (a 0)), (1, .int x1), (2, .int x2), (3, .int x3), (4, .int x4), (5, .int y0)] [1, 2, 3, 4, 5, 0] dX11_bring_90 (by decide) rfl ?_
  refine sm_iload F dX11_bring_92 5 rfl ?_
  refine sm_iload_n F dX11_bring_94 rfl 3 rfl ?_
  refine sm_icmp_gt (tgt := 101) F dX11_bring_95 (by decide) (fun c95 => ?_) (fun c95 => ?_)
  · replace hf := if_t c95 hf
    refine sm_iload F dX11_bring_101 4 rfl ?_
    refine sm_istore_n F [(0, .ref (a 0)), (1, .int x1), (2, .int x4), (4, .int x4), (5, .int y0)] [1, 2, 0, 4, 5] dX11_bring_103 rfl (by decide) rfl ?_
    refine sm_iload F dX11_bring_104 4 rfl ?_
    refine sm_istore_n F [(0, .ref (a 0)), (1, .int x1), (2, .int x4), (3, .int y0), (4, .int x4)] [1, 2, 3, 0, 4] dX11_bring_106 rfl (by decide) rfl ?_
    refine sm_iinc F [(0, .ref (a 0)), (1, .int x1), (2, .int x4), (3, .int y0), (4, .int (x4 + 1))] 4 [1, 2, 3, 4, 0] dX11_bring_107 rfl kc_i_1 (by decide) rfl ?_
    refine sm_goto (tgt := 24) F dX11_bring_110 (by decide) ?_
    exact hk24 u x4 y0 (x4 + 1) hf
  · replace hf := if_f c95 hf
    refine sm_goto (tgt := 107) F dX11_bring_98 (by decide) ?_
    refine sm_iinc F [(0, .ref (a 0)), (1, .int x1), (2, .int x2), (3, .int x3), (4, .int (x4 + 1)), (5, .int y0)] 4 [1, 2, 3, 4, 0, 5] dX11_bring_107 rfl kc_i_1 (by decide) rfl ?_
    refine sm_goto (tgt := 24) F dX11_bring_110 (by decide) ?_
    refine sm_sub (lv' := [(0, .ref (a 0)), (1, .int x1), (2, .int x2), (3, .int x3), (4, .int (x4 + 1))]) [0, 1, 2, 3, 4] rfl ?_
    exact hk24 u x2 x3 (x4 + 1) hf
set_option maxRecDepth 100000 in
set_option maxHeartbeats 4000000 in
theorem s_X11_bring_24_b {p : Program} {l : Launch} {e : Env} {s : State} {m : MethodId} {args : Array Value} {below : List Frame} {meth : Method} {c : Code} {A : Nat → Prop} {D : va_G} {cI cZ cO : ClassId} {a : Nat → Nat} {r : Int32} {o : DS} (F : smF p s m args meth c cX11_bring 6 (some .int) RX11 D (tyL cI cZ cO) A) (x1 : Int32) (k24 : DS → Int32 → Int32 → Int32 → Option (Int32 × (DS))) (hk24 : ∀ (u' : DS) (x2' : Int32) (x3' : Int32) (x4' : Int32), k24 u' x2' x3' x4' = some (r, o) → Sm p l e rmX11_bring s m args below meth c D A 6 0 0 (smQ below args s D A (some (.int r)) (wD cI cZ cO a o)) 24 [(0, .ref (a 0)), (1, .int x1), (2, .int x2'), (3, .int x3'), (4, .int x4')] [] (wD cI cZ cO a u')) (u : DS) (x2 : Int32) (x3 : Int32) (x4 : Int32) (hf : b_X11_bring_24 x1  k24 u x2 x3 x4 = some (r, o)) : Sm p l e rmX11_bring s m args below meth c D A 6 0 0 (smQ below args s D A (some (.int r)) (wD cI cZ cO a o)) 24 [(0, .ref (a 0)), (1, .int x1), (2, .int x2), (3, .int x3), (4, .int x4)] [] (wD cI cZ cO a u) := by
  unfold b_X11_bring_24 at hf
  refine sm_iload F dX11_bring_24 4 rfl ?_
  refine sm_aload_n F dX11_bring_26 rfl 0 rfl ?_
  refine sm_get (v := .ref (a 1)) F inX11 0 rfl rfl 0 (by decide) qw5_15 rfl rfl dX11_bring_27 ?_
  refine sm_iconst F dX11_bring_30 kc_i_0 ?_
  obtain ⟨h31, hf⟩ := ck_some hf
  refine sm_iald F 1 0 rfl rfl h31 dX11_bring_31 ?_
  refine sm_icmp_ge (tgt := 113) F dX11_bring_32 (by decide) (fun c32 => ?_) (fun c32 => ?_)
  · replace hf := if_t c32 hf
    refine sm_iload_n F dX11_bring_113 rfl 2 rfl ?_
    refine sm_if_lt (tgt := 121) F dX11_bring_114 (by decide) (fun c114 => ?_) (fun c114 => ?_)
    · replace hf := if_t c114 hf
      refine sm_iload_n F dX11_bring_121 rfl 2 rfl ?_
      refine sm_goto (tgt := 126) F dX11_bring_122 (by decide) ?_
      exact sm_iret F dX11_bring_126 (Prod.mk.inj (Option.some.inj hf)).1 (congrArg (fun z => (wD cI cZ cO a z)) (Prod.mk.inj (Option.some.inj hf)).2)
    · replace hf := if_f c114 hf
      refine sm_iload_n F dX11_bring_117 rfl 1 rfl ?_
      refine sm_if_ne (tgt := 125) F dX11_bring_118 (by decide) (fun c118 => ?_) (fun c118 => ?_)
      · replace hf := if_f c118 hf
        refine sm_iload_n F dX11_bring_125 rfl 3 rfl ?_
        exact sm_iret F dX11_bring_126 (Prod.mk.inj (Option.some.inj hf)).1 (congrArg (fun z => (wD cI cZ cO a z)) (Prod.mk.inj (Option.some.inj hf)).2)
      · replace hf := if_t c118 hf
        refine sm_iload_n F dX11_bring_121 rfl 2 rfl ?_
        refine sm_goto (tgt := 126) F dX11_bring_122 (by decide) ?_
        exact sm_iret F dX11_bring_126 (Prod.mk.inj (Option.some.inj hf)).1 (congrArg (fun z => (wD cI cZ cO a z)) (Prod.mk.inj (Option.some.inj hf)).2)
  · replace hf := if_f c32 hf
    refine sm_aload_n F dX11_bring_35 rfl 0 rfl ?_
    refine sm_get (v := .ref (a 1)) F inX11 0 rfl rfl 0 (by decide) qw5_15 rfl rfl dX11_bring_36 ?_
    refine sm_iload F dX11_bring_39 4 rfl ?_
    obtain ⟨z41, hz41, hf⟩ := bd_some hf
    refine sm_callS (rest := []) F (ct_X11_isHere l D cI cZ cO (fun i => a (pm_D_i1 i)) hz41) (cut_D_i1_ro cI cZ cO a u) rfl rfl rfl qw5_114 qw5_115 qw1_12 qw5_116 hsX11_isHere ⟨Nat.le_of_ble_eq_true rfl, Nat.le_of_ble_eq_true rfl⟩ ⟨Nat.zero_le _, Nat.zero_le _⟩ rfl (Nat.le_of_ble_eq_true rfl) E0_b (fun _ _ _ _ _ _ => trivial) rfl dX11_bring_41 [.int z41] rfl ?_
    refine sm_if_eq (tgt := 50) F dX11_bring_44 (by decide) (fun c44 => ?_) (fun c44 => ?_)
    · replace hf := if_t c44 hf
      refine sm_aload_n F dX11_bring_50 rfl 0 rfl ?_
      refine sm_get (v := .ref (a 1)) F inX11 0 rfl rfl 0 (by decide) qw5_15 rfl rfl dX11_bring_51 ?_
      refine sm_aload_n F dX11_bring_54 rfl 0 rfl ?_
      refine sm_get (v := .ref (a 2)) F inX11 0 rfl rfl 1 (by decide) qw5_16 rfl rfl dX11_bring_55 ?_
      obtain ⟨z58, hz58, hf⟩ := bd_some hf
      refine sm_callS (rest := []) F (ct_X11_copies l D cI cZ cO (fun i => a (pm_D_ii1_2 i)) hz58) (cut_D_ii1_2 cI cZ cO a u z58) rfl rfl rfl qw5_89 qw5_90 qw1_12 qw5_91 hsX11_copies ⟨Nat.le_of_ble_eq_true rfl, Nat.le_of_ble_eq_true rfl⟩ ⟨Nat.zero_le _, Nat.zero_le _⟩ rfl (Nat.le_of_ble_eq_true rfl) E0_b (fun _ _ _ _ _ _ => trivial) rfl dX11_bring_58 [] rfl ?_
      refine sm_aload_n F dX11_bring_61 rfl 0 rfl ?_
      refine sm_get (v := .ref (a 2)) F inX11 0 rfl rfl 1 (by decide) qw5_16 rfl rfl dX11_bring_62 ?_
      refine sm_iload F dX11_bring_65 4 rfl ?_
      obtain ⟨z67, hz67, hf⟩ := bd_some hf
      refine sm_callS (rest := []) F (ct_X11_comesBack l D cI cZ cO (fun i => a (pm_D_i2 i)) hz67) (cut_D_i2 cI cZ cO a (sD_m (sD_s u z58.1) z58.2) z67) rfl rfl rfl qw5_123 qw5_124 qw1_12 qw5_125 hsX11_comesBack ⟨Nat.le_of_ble_eq_true rfl, Nat.le_of_ble_eq_true rfl⟩ ⟨Nat.zero_le _, Nat.zero_le _⟩ rfl (Nat.le_of_ble_eq_true rfl) E0_b (fun _ _ _ _ _ _ => trivial) rfl dX11_bring_67 [] rfl ?_
      refine sm_aload_n F dX11_bring_70 rfl 0 rfl ?_
      refine sm_iload F dX11_bring_71 4 rfl ?_
      obtain ⟨z73, hz73, hf⟩ := bd_some hf
      refine sm_callV (rest := []) F (ct_X11_goesIn l D cI cZ cO a hz73) (cut_D_id cI cZ cO a (sD_m (sD_m (sD_s u z58.1) z58.2) z67) z73.2) rfl rfl rfl qw5_216 qw5_218 qw0_40 qw1_12 qw5_219 hvX11_goesIn ⟨Nat.le_of_ble_eq_true rfl, Nat.le_of_ble_eq_true rfl⟩ ⟨Nat.zero_le _, Nat.zero_le _⟩ 0 11 rfl rfl rfl rfl (Nat.le_of_ble_eq_true rfl) E0_b (fun _ _ _ _ _ _ => trivial) rfl dX11_bring_73 [.int z73.1] rfl ?_
      refine sm_istore F [(0, .ref (a 0)), (1, .int x1), (2, .int x2), (3, .int x3), (4, .int x4), (5, .int z73.1)] [1, 2, 3, 4, 5, 0] dX11_bring_76 (by decide) rfl ?_
      refine sm_iload F dX11_bring_78 5 rfl ?_
      refine sm_if_ge (tgt := 88) F dX11_bring_80 (by decide) (fun c80 => ?_) (fun c80 => ?_)
      · replace hf := if_t c80 hf
        refine sm_iload F dX11_bring_88 5 rfl ?_
        refine sm_sub (lv' := [(0, .ref (a 0)), (1, .int x1), (2, .int x2), (3, .int x3), (4, .int x4)]) [0, 1, 2, 3, 4] rfl ?_
        exact s_X11_bring_90 F x1 k24 hk24 z73.2 x2 x3 x4 z73.1 hf
      · replace hf := if_f c80 hf
        refine sm_bipush F dX11_bring_83 kc_b_99 ?_
        refine sm_goto (tgt := 90) F dX11_bring_85 (by decide) ?_
        refine sm_sub (lv' := [(0, .ref (a 0)), (1, .int x1), (2, .int x2), (3, .int x3), (4, .int x4)]) [0, 1, 2, 3, 4] rfl ?_
        exact s_X11_bring_90 F x1 k24 hk24 z73.2 x2 x3 x4 (99 : Int32) hf
    · replace hf := if_f c44 hf
      refine sm_goto (tgt := 107) F dX11_bring_47 (by decide) ?_
      refine sm_iinc F [(0, .ref (a 0)), (1, .int x1), (2, .int x2), (3, .int x3), (4, .int (x4 + 1))] 4 [1, 2, 3, 4, 0] dX11_bring_107 rfl kc_i_1 (by decide) rfl ?_
      refine sm_goto (tgt := 24) F dX11_bring_110 (by decide) ?_
      exact hk24 u x2 x3 (x4 + 1) hf
set_option maxRecDepth 100000 in
set_option maxHeartbeats 4000000 in
theorem s_X11_bring_24 {p : Program} {l : Launch} {e : Env} {s : State} {m : MethodId} {args : Array Value} {below : List Frame} {meth : Method} {c : Code} {A : Nat → Prop} {D : va_G} {cI cZ cO : ClassId} {a : Nat → Nat} {r : Int32} {o : DS} (F : smF p s m args meth c cX11_bring 6 (some .int) RX11 D (tyL cI cZ cO) A) (x1 : Int32)  (n : Nat) (u : DS) (x2 : Int32) (x3 : Int32) (x4 : Int32) (hf : f_X11_bring_24 x1  n u x2 x3 x4 = some (r, o)) : Sm p l e rmX11_bring s m args below meth c D A 6 0 0 (smQ below args s D A (some (.int r)) (wD cI cZ cO a o)) 24 [(0, .ref (a 0)), (1, .int x1), (2, .int x2), (3, .int x3), (4, .int x4)] [] (wD cI cZ cO a u) :=
  lq4_ind (P := fun (u : DS) (x2 : Int32) (x3 : Int32) (x4 : Int32) => Sm p l e rmX11_bring s m args below meth c D A 6 0 0 (smQ below args s D A (some (.int r)) (wD cI cZ cO a o)) 24 [(0, .ref (a 0)), (1, .int x1), (2, .int x2), (3, .int x3), (4, .int x4)] [] (wD cI cZ cO a u)) (fun k24 hk24 u x2 x3 x4 h9 => s_X11_bring_24_b F x1  k24 hk24 u x2 x3 x4 h9) n u x2 x3 x4 hf
set_option maxRecDepth 100000 in
set_option maxHeartbeats 4000000 in
theorem ct_X11_bring (l : Launch) (D : va_G) (cI cZ cO : ClassId) (a : Nat → Nat) {u : DS} {x1 : Int32} {r : Int32} {o : DS} (hf : f_X11_bring u x1 = some (r, o)) : Ct l yX11_bring (uw (Cond.code yX11_bring cX11_bring 6 (some .int))) rmX11_bring D (tyL cI cZ cO) E0 [.ref (a 0), .int x1] (wD cI cZ cO a u) (some (.int r)) (wD cI cZ cO a o) := by
  refine sm_start (cc := cX11_bring) (maxL := 6) (ret := (some .int)) (own := RX11) (by decide) rfl rfl (Nat.le_of_ble_eq_true rfl) (lv := [(0, .ref (a 0)), (1, .int x1)]) rfl ?_
  intro p e s m below meth c A F hE hA
  unfold f_X11_bring at hf
  refine sm_iload_n F dX11_bring_0 rfl 1 rfl ?_
  refine sm_iconst F dX11_bring_1 kc_i_0 ?_
  refine sm_iconst F dX11_bring_2 kc_i_1 ?_
  obtain ⟨z3, hz3, hf⟩ := bd_some hf
  refine sm_callS (rest := []) F (ct_X11_isIn l D (tyL cI cZ cO) hz3) (cut_D_none cI cZ cO a u) rfl rfl rfl qw5_86 qw5_87 qw1_12 qw5_88 hsX11_isIn ⟨Nat.le_of_ble_eq_true rfl, Nat.le_of_ble_eq_true rfl⟩ ⟨Nat.zero_le _, Nat.zero_le _⟩ rfl (Nat.le_of_ble_eq_true rfl) E0_b (fun _ _ _ _ _ _ => trivial) rfl dX11_bring_3 [.int z3] rfl ?_
  refine sm_if_ne (tgt := 16) F dX11_bring_6 (by decide) (fun c6 => ?_) (fun c6 => ?_)
  · replace hf := if_f c6 hf
    refine sm_bipush F dX11_bring_16 kc_b_m9 ?_
    refine sm_istore_n F [(0, .ref (a 0)), (1, .int x1), (2, .int ((-9) : Int32))] [1, 2, 0] dX11_bring_18 rfl (by decide) rfl ?_
    refine sm_iconst F dX11_bring_19 kc_i_m1 ?_
    refine sm_istore_n F [(0, .ref (a 0)), (1, .int x1), (2, .int ((-9) : Int32)), (3, .int ((-1) : Int32))] [1, 2, 3, 0] dX11_bring_20 rfl (by decide) rfl ?_
    refine sm_iconst F dX11_bring_21 kc_i_0 ?_
    refine sm_istore F [(0, .ref (a 0)), (1, .int x1), (2, .int ((-9) : Int32)), (3, .int ((-1) : Int32)), (4, .int (0 : Int32))] [1, 2, 3, 4, 0] dX11_bring_22 (by decide) rfl ?_
    exact s_X11_bring_24 F x1 smN u ((-9) : Int32) ((-1) : Int32) (0 : Int32) hf
  · replace hf := if_t c6 hf
    refine sm_aload_n F dX11_bring_9 rfl 0 rfl ?_
    refine sm_bipush F dX11_bring_10 kc_b_m2 ?_
    obtain ⟨z12, hz12, hf⟩ := bd_some hf
    refine sm_callV (rest := []) F (ct_X11_no l D cI cZ cO a hz12) (cut_D_id cI cZ cO a u z12.2) rfl rfl rfl qw5_59 qw5_61 qw0_29 qw1_12 qw5_62 hvX11_no ⟨Nat.le_of_ble_eq_true rfl, Nat.le_of_ble_eq_true rfl⟩ ⟨Nat.zero_le _, Nat.zero_le _⟩ 0 11 rfl rfl rfl rfl (Nat.le_of_ble_eq_true rfl) E0_b (fun _ _ _ _ _ _ => trivial) rfl dX11_bring_12 [.int z12.1] rfl ?_
    exact sm_iret F dX11_bring_15 (Prod.mk.inj (Option.some.inj hf)).1 (congrArg (fun z => (wD cI cZ cO a z)) (Prod.mk.inj (Option.some.inj hf)).2)
/-! SoManyForgottenModel.areLeagued(II)Z -/
abbrev rmX11_areLeagued : Room := { frames := 2, cells := 0, slots := 0, locals := 42 }
set_option maxRecDepth 100000 in
theorem hvX11_areLeagued : yX11_areLeagued.cls = RX11 ∧ yX11_areLeagued.cls ≠ "java/lang/invoke/MethodHandle" ∧ yX11_areLeagued.cls ≠ "java/lang/invoke/VarHandle" ∧ (parseMethodDescriptor yX11_areLeagued.desc).map (fun d => d.parameters.length) = some 2 := by decide +kernel
set_option maxRecDepth 100000 in
set_option maxHeartbeats 4000000 in
theorem ct_X11_areLeagued (l : Launch) (D : va_G) (cI cZ cO : ClassId) (a : Nat → Nat) {u : DS} {x1 : Int32} {x2 : Int32} {r : Int32} (hf : f_X11_areLeagued u x1 x2 = some r) : Ct l yX11_areLeagued (uw (Cond.code yX11_areLeagued cX11_areLeagued 3 (some .boolean))) rmX11_areLeagued D (tyL cI cZ cO) E0 [.ref (a 0), .int x1, .int x2] (wD cI cZ cO a u) (some (.int r)) (wD cI cZ cO a u) := by
  refine sm_start (cc := cX11_areLeagued) (maxL := 3) (ret := (some .boolean)) (own := RX11) (by decide) rfl rfl (Nat.le_of_ble_eq_true rfl) (lv := [(0, .ref (a 0)), (1, .int x1), (2, .int x2)]) rfl ?_
  intro p e s m below meth c A F hE hA
  unfold f_X11_areLeagued at hf
  refine sm_aload_n F dX11_areLeagued_0 rfl 0 rfl ?_
  refine sm_get (v := .ref (a 1)) F inX11 0 rfl rfl 0 (by decide) qw5_15 rfl rfl dX11_areLeagued_1 ?_
  refine sm_iload_n F dX11_areLeagued_4 rfl 1 rfl ?_
  obtain ⟨z5, hz5, hf⟩ := bd_some hf
  refine sm_callS (rest := []) F (ct_X11_isHere l D cI cZ cO (fun i => a (pm_D_i1 i)) hz5) (cut_D_i1_ro cI cZ cO a u) rfl rfl rfl qw5_114 qw5_115 qw1_12 qw5_116 hsX11_isHere ⟨Nat.le_of_ble_eq_true rfl, Nat.le_of_ble_eq_true rfl⟩ ⟨Nat.zero_le _, Nat.zero_le _⟩ rfl (Nat.le_of_ble_eq_true rfl) E0_b (fun _ _ _ _ _ _ => trivial) rfl dX11_areLeagued_5 [.int z5] rfl ?_
  refine sm_if_eq (tgt := 56) F dX11_areLeagued_8 (by decide) (fun c8 => ?_) (fun c8 => ?_)
  · replace hf := if_t c8 hf
    refine sm_iconst F dX11_areLeagued_56 kc_i_0 ?_
    exact sm_zret F dX11_areLeagued_57 rfl (Option.some.inj hf) rfl
  · replace hf := if_f c8 hf
    refine sm_aload_n F dX11_areLeagued_11 rfl 0 rfl ?_
    refine sm_get (v := .ref (a 1)) F inX11 0 rfl rfl 0 (by decide) qw5_15 rfl rfl dX11_areLeagued_12 ?_
    refine sm_iload_n F dX11_areLeagued_15 rfl 2 rfl ?_
    obtain ⟨z16, hz16, hf⟩ := bd_some hf
    refine sm_callS (rest := []) F (ct_X11_isHere l D cI cZ cO (fun i => a (pm_D_i1 i)) hz16) (cut_D_i1_ro cI cZ cO a u) rfl rfl rfl qw5_114 qw5_115 qw1_12 qw5_116 hsX11_isHere ⟨Nat.le_of_ble_eq_true rfl, Nat.le_of_ble_eq_true rfl⟩ ⟨Nat.zero_le _, Nat.zero_le _⟩ rfl (Nat.le_of_ble_eq_true rfl) E0_b (fun _ _ _ _ _ _ => trivial) rfl dX11_areLeagued_16 [.int z16] rfl ?_
    refine sm_if_eq (tgt := 56) F dX11_areLeagued_19 (by decide) (fun c19 => ?_) (fun c19 => ?_)
    · replace hf := if_t c19 hf
      refine sm_iconst F dX11_areLeagued_56 kc_i_0 ?_
      exact sm_zret F dX11_areLeagued_57 rfl (Option.some.inj hf) rfl
    · replace hf := if_f c19 hf
      refine sm_aload_n F dX11_areLeagued_22 rfl 0 rfl ?_
      refine sm_get (v := .ref (a 1)) F inX11 0 rfl rfl 0 (by decide) qw5_15 rfl rfl dX11_areLeagued_23 ?_
      refine sm_iload_n F dX11_areLeagued_26 rfl 1 rfl ?_
      refine sm_iload_n F dX11_areLeagued_27 rfl 2 rfl ?_
      obtain ⟨z28, hz28, hf⟩ := bd_some hf
      refine sm_callS (rest := [.ref (a 1)]) F (ct_X11_by l D (tyL cI cZ cO) hz28) (cut_D_none cI cZ cO a u) rfl rfl rfl qw5_103 qw5_104 qw1_12 qw5_105 hsX11_by ⟨Nat.le_of_ble_eq_true rfl, Nat.le_of_ble_eq_true rfl⟩ ⟨Nat.zero_le _, Nat.zero_le _⟩ rfl (Nat.le_of_ble_eq_true rfl) E0_b (fun _ _ _ _ _ _ => trivial) rfl dX11_areLeagued_28 [.int z28, .ref (a 1)] rfl ?_
      obtain ⟨h31, hf⟩ := ck_some hf
      refine sm_iald F 1 0 rfl rfl h31 dX11_areLeagued_31 ?_
      refine sm_bipush F dX11_areLeagued_32 kc_b_50 ?_
      refine sm_icmp_lt (tgt := 56) F dX11_areLeagued_34 (by decide) (fun c34 => ?_) (fun c34 => ?_)
      · replace hf := if_t c34 hf
        refine sm_iconst F dX11_areLeagued_56 kc_i_0 ?_
        exact sm_zret F dX11_areLeagued_57 rfl (Option.some.inj hf) rfl
      · replace hf := if_f c34 hf
        refine sm_aload_n F dX11_areLeagued_37 rfl 0 rfl ?_
        refine sm_get (v := .ref (a 1)) F inX11 0 rfl rfl 0 (by decide) qw5_15 rfl rfl dX11_areLeagued_38 ?_
        refine sm_iload_n F dX11_areLeagued_41 rfl 2 rfl ?_
        refine sm_iload_n F dX11_areLeagued_42 rfl 1 rfl ?_
        obtain ⟨z43, hz43, hf⟩ := bd_some hf
        refine sm_callS (rest := [.ref (a 1)]) F (ct_X11_by l D (tyL cI cZ cO) hz43) (cut_D_none cI cZ cO a u) rfl rfl rfl qw5_103 qw5_104 qw1_12 qw5_105 hsX11_by ⟨Nat.le_of_ble_eq_true rfl, Nat.le_of_ble_eq_true rfl⟩ ⟨Nat.zero_le _, Nat.zero_le _⟩ rfl (Nat.le_of_ble_eq_true rfl) E0_b (fun _ _ _ _ _ _ => trivial) rfl dX11_areLeagued_43 [.int z43, .ref (a 1)] rfl ?_
        obtain ⟨h46, hf⟩ := ck_some hf
        refine sm_iald F 1 0 rfl rfl h46 dX11_areLeagued_46 ?_
        refine sm_bipush F dX11_areLeagued_47 kc_b_50 ?_
        refine sm_icmp_lt (tgt := 56) F dX11_areLeagued_49 (by decide) (fun c49 => ?_) (fun c49 => ?_)
        · replace hf := if_t c49 hf
          refine sm_iconst F dX11_areLeagued_56 kc_i_0 ?_
          exact sm_zret F dX11_areLeagued_57 rfl (Option.some.inj hf) rfl
        · replace hf := if_f c49 hf
          refine sm_iconst F dX11_areLeagued_52 kc_i_1 ?_
          refine sm_goto (tgt := 57) F dX11_areLeagued_53 (by decide) ?_
          exact sm_zret F dX11_areLeagued_57 rfl (Option.some.inj hf) rfl
/-! SoManyForgottenModel.league(I)I -/
abbrev rmX11_league : Room := { frames := 3, cells := 0, slots := 0, locals := 64 }
set_option maxRecDepth 100000 in
theorem hvX11_league : yX11_league.cls = RX11 ∧ yX11_league.cls ≠ "java/lang/invoke/MethodHandle" ∧ yX11_league.cls ≠ "java/lang/invoke/VarHandle" ∧ (parseMethodDescriptor yX11_league.desc).map (fun d => d.parameters.length) = some 1 := by decide +kernel
set_option maxRecDepth 100000 in
set_option maxHeartbeats 4000000 in
theorem s_X11_league_21_b {p : Program} {l : Launch} {e : Env} {s : State} {m : MethodId} {args : Array Value} {below : List Frame} {meth : Method} {c : Code} {A : Nat → Prop} {D : va_G} {cI cZ cO : ClassId} {a : Nat → Nat} {r : Int32} {o : DS} (F : smF p s m args meth c cX11_league 5 (some .int) RX11 D (tyL cI cZ cO) A) (x1 : Int32) (k21 : DS → Int32 → Int32 → Option (Int32 × (DS))) (hk21 : ∀ (u' : DS) (x3' : Int32) (x4' : Int32), k21 u' x3' x4' = some (r, o) → Sm p l e rmX11_league s m args below meth c D A 5 0 0 (smQ below args s D A (some (.int r)) (wD cI cZ cO a o)) 21 [(0, .ref (a 0)), (1, .int x1), (3, .int x3'), (4, .int x4')] [] (wD cI cZ cO a u')) (u : DS) (x3 : Int32) (x4 : Int32) (hf : b_X11_league_21 x1  k21 u x3 x4 = some (r, o)) : Sm p l e rmX11_league s m args below meth c D A 5 0 0 (smQ below args s D A (some (.int r)) (wD cI cZ cO a o)) 21 [(0, .ref (a 0)), (1, .int x1), (3, .int x3), (4, .int x4)] [] (wD cI cZ cO a u) := by
  unfold b_X11_league_21 at hf
  refine sm_iload F dX11_league_21 3 rfl ?_
  refine sm_aload_n F dX11_league_23 rfl 0 rfl ?_
  refine sm_get (v := .ref (a 1)) F inX11 0 rfl rfl 0 (by decide) qw5_15 rfl rfl dX11_league_24 ?_
  refine sm_iconst F dX11_league_27 kc_i_0 ?_
  obtain ⟨h28, hf⟩ := ck_some hf
  refine sm_iald F 1 0 rfl rfl h28 dX11_league_28 ?_
  refine sm_icmp_ge (tgt := 65) F dX11_league_29 (by decide) (fun c29 => ?_) (fun c29 => ?_)
  · replace hf := if_t c29 hf
    refine sm_iload_n F dX11_league_65 rfl 2 rfl ?_
    exact sm_iret F dX11_league_66 (Prod.mk.inj (Option.some.inj hf)).1 (congrArg (fun z => (wD cI cZ cO a z)) (Prod.mk.inj (Option.some.inj hf)).2)
  · replace hf := if_f c29 hf
    refine sm_iload_n F dX11_league_32 rfl 2 rfl ?_
    refine sm_iload F dX11_league_33 3 rfl ?_
    refine sm_iload_n F dX11_league_35 rfl 1 rfl ?_
    refine sm_icmp_eq (tgt := 56) F dX11_league_36 (by decide) (fun c36 => ?_) (fun c36 => ?_)
    · replace hf := if_t c36 hf
      refine sm_iconst F dX11_league_56 kc_i_0 ?_
      refine sm_ior F dX11_league_57 ?_
      refine sm_istore_n F [(0, .ref (a 0)), (1, .int x1), (3, .int (x3 ||| (0 : Int32))), (4, .int x4)] [1, 2, 0, 3] dX11_league_58 rfl (by decide) rfl ?_
      refine sm_iinc F [(0, .ref (a 0)), (1, .int x1), (3, .int (x3 ||| (0 : Int32))), (4, .int (x4 + 1))] 3 [1, 2, 3, 0] dX11_league_59 rfl kc_i_1 (by decide) rfl ?_
      refine sm_goto (tgt := 21) F dX11_league_62 (by decide) ?_
      exact hk21 u (x3 ||| (0 : Int32)) (x4 + 1) hf
    · replace hf := if_f c36 hf
      refine sm_aload_n F dX11_league_39 rfl 0 rfl ?_
      refine sm_iload_n F dX11_league_40 rfl 1 rfl ?_
      refine sm_iload F dX11_league_41 3 rfl ?_
      obtain ⟨z43, hz43, hf⟩ := bd_some hf
      refine sm_callV (rest := [.int x3]) F (ct_X11_areLeagued l D cI cZ cO a hz43) (cut_D_id cI cZ cO a u u) rfl rfl rfl qw6_24 qw6_26 qw0_44 qw1_12 qw6_27 hvX11_areLeagued ⟨Nat.le_of_ble_eq_true rfl, Nat.le_of_ble_eq_true rfl⟩ ⟨Nat.zero_le _, Nat.zero_le _⟩ 0 11 rfl rfl rfl rfl (Nat.le_of_ble_eq_true rfl) E0_b (fun _ _ _ _ _ _ => trivial) rfl dX11_league_43 [.int z43, .int x3] rfl ?_
      refine sm_if_eq (tgt := 56) F dX11_league_46 (by decide) (fun c46 => ?_) (fun c46 => ?_)
      · replace hf := if_t c46 hf
        refine sm_iconst F dX11_league_56 kc_i_0 ?_
        refine sm_ior F dX11_league_57 ?_
        refine sm_istore_n F [(0, .ref (a 0)), (1, .int x1), (3, .int (x3 ||| (0 : Int32))), (4, .int x4)] [1, 2, 0, 3] dX11_league_58 rfl (by decide) rfl ?_
        refine sm_iinc F [(0, .ref (a 0)), (1, .int x1), (3, .int (x3 ||| (0 : Int32))), (4, .int (x4 + 1))] 3 [1, 2, 3, 0] dX11_league_59 rfl kc_i_1 (by decide) rfl ?_
        refine sm_goto (tgt := 21) F dX11_league_62 (by decide) ?_
        exact hk21 u (x3 ||| (0 : Int32)) (x4 + 1) hf
      · replace hf := if_f c46 hf
        refine sm_iconst F dX11_league_49 kc_i_1 ?_
        refine sm_iload F dX11_league_50 3 rfl ?_
        refine sm_ishl F dX11_league_52 ?_
        refine sm_goto (tgt := 57) F dX11_league_53 (by decide) ?_
        refine sm_ior F dX11_league_57 ?_
        refine sm_istore_n F [(0, .ref (a 0)), (1, .int x1), (3, .int (x3 ||| ((1 : Int32) <<< (x4 &&& 31)))), (4, .int x4)] [1, 2, 0, 3] dX11_league_58 rfl (by decide) rfl ?_
        refine sm_iinc F [(0, .ref (a 0)), (1, .int x1), (3, .int (x3 ||| ((1 : Int32) <<< (x4 &&& 31)))), (4, .int (x4 + 1))] 3 [1, 2, 3, 0] dX11_league_59 rfl kc_i_1 (by decide) rfl ?_
        refine sm_goto (tgt := 21) F dX11_league_62 (by decide) ?_
        exact hk21 u (x3 ||| ((1 : Int32) <<< (x4 &&& 31))) (x4 + 1) hf
set_option maxRecDepth 100000 in
set_option maxHeartbeats 4000000 in
theorem s_X11_league_21 {p : Program} {l : Launch} {e : Env} {s : State} {m : MethodId} {args : Array Value} {below : List Frame} {meth : Method} {c : Code} {A : Nat → Prop} {D : va_G} {cI cZ cO : ClassId} {a : Nat → Nat} {r : Int32} {o : DS} (F : smF p s m args meth c cX11_league 5 (some .int) RX11 D (tyL cI cZ cO) A) (x1 : Int32)  (n : Nat) (u : DS) (x3 : Int32) (x4 : Int32) (hf : f_X11_league_21 x1  n u x3 x4 = some (r, o)) : Sm p l e rmX11_league s m args below meth c D A 5 0 0 (smQ below args s D A (some (.int r)) (wD cI cZ cO a o)) 21 [(0, .ref (a 0)), (1, .int x1), (3, .int x3), (4, .int x4)] [] (wD cI cZ cO a u) :=
  lq3_ind (P := fun (u : DS) (x3 : Int32) (x4 : Int32) => Sm p l e rmX11_league s m args below meth c D A 5 0 0 (smQ below args s D A (some (.int r)) (wD cI cZ cO a o)) 21 [(0, .ref (a 0)), (1, .int x1), (3, .int x3), (4, .int x4)] [] (wD cI cZ cO a u)) (fun k21 hk21 u x3 x4 h9 => s_X11_league_21_b F x1  k21 hk21 u x3 x4 h9) n u x3 x4 hf
set_option maxRecDepth 100000 in
set_option maxHeartbeats 4000000 in
theorem ct_X11_league (l : Launch) (D : va_G) (cI cZ cO : ClassId) (a : Nat → Nat) {u : DS} {x1 : Int32} {r : Int32} {o : DS} (hf : f_X11_league u x1 = some (r, o)) : Ct l yX11_league (uw (Cond.code yX11_league cX11_league 5 (some .int))) rmX11_league D (tyL cI cZ cO) E0 [.ref (a 0), .int x1] (wD cI cZ cO a u) (some (.int r)) (wD cI cZ cO a o) := by
  refine sm_start (cc := cX11_league) (maxL := 5) (ret := (some .int)) (own := RX11) (by decide) rfl rfl (Nat.le_of_ble_eq_true rfl) (lv := [(0, .ref (a 0)), (1, .int x1)]) rfl ?_
  intro p e s m below meth c A F hE hA
  unfold f_X11_league at hf
  refine sm_aload_n F dX11_league_0 rfl 0 rfl ?_
  refine sm_iload_n F dX11_league_1 rfl 1 rfl ?_
  obtain ⟨z2, hz2, hf⟩ := bd_some hf
  refine sm_callV (rest := []) F (ct_X11_wrongOne l D cI cZ cO a hz2) (cut_D_id cI cZ cO a u u) rfl rfl rfl qw5_237 qw5_239 qw0_42 qw1_12 qw6_0 hvX11_wrongOne ⟨Nat.le_of_ble_eq_true rfl, Nat.le_of_ble_eq_true rfl⟩ ⟨Nat.zero_le _, Nat.zero_le _⟩ 0 11 rfl rfl rfl rfl (Nat.le_of_ble_eq_true rfl) E0_b (fun _ _ _ _ _ _ => trivial) rfl dX11_league_2 [.int z2] rfl ?_
  refine sm_istore_n F [(0, .ref (a 0)), (1, .int x1), (2, .int z2)] [1, 2, 0] dX11_league_5 rfl (by decide) rfl ?_
  refine sm_iload_n F dX11_league_6 rfl 2 rfl ?_
  refine sm_if_eq (tgt := 16) F dX11_league_7 (by decide) (fun c7 => ?_) (fun c7 => ?_)
  · replace hf := if_t c7 hf
    refine sm_iconst F dX11_league_16 kc_i_0 ?_
    refine sm_istore_n F [(0, .ref (a 0)), (1, .int x1), (3, .int (0 : Int32))] [1, 2, 0] dX11_league_17 rfl (by decide) rfl ?_
    refine sm_iconst F dX11_league_18 kc_i_0 ?_
    refine sm_istore F [(0, .ref (a 0)), (1, .int x1), (3, .int (0 : Int32)), (4, .int (0 : Int32))] [1, 2, 3, 0] dX11_league_19 (by decide) rfl ?_
    exact s_X11_league_21 F x1 smN u (0 : Int32) (0 : Int32) hf
  · replace hf := if_f c7 hf
    refine sm_aload_n F dX11_league_10 rfl 0 rfl ?_
    refine sm_iload_n F dX11_league_11 rfl 2 rfl ?_
    obtain ⟨z12, hz12, hf⟩ := bd_some hf
    refine sm_callV (rest := []) F (ct_X11_no l D cI cZ cO a hz12) (cut_D_id cI cZ cO a u z12.2) rfl rfl rfl qw5_59 qw5_61 qw0_29 qw1_12 qw5_62 hvX11_no ⟨Nat.le_of_ble_eq_true rfl, Nat.le_of_ble_eq_true rfl⟩ ⟨Nat.zero_le _, Nat.zero_le _⟩ 0 11 rfl rfl rfl rfl (Nat.le_of_ble_eq_true rfl) E0_b (fun _ _ _ _ _ _ => trivial) rfl dX11_league_12 [.int z12.1] rfl ?_
    exact sm_iret F dX11_league_15 (Prod.mk.inj (Option.some.inj hf)).1 (congrArg (fun z => (wD cI cZ cO a z)) (Prod.mk.inj (Option.some.inj hf)).2)
/-! SoManyForgottenModel.largest(I)I -/
abbrev rmX11_largest : Room := { frames := 3, cells := 0, slots := 0, locals := 64 }
set_option maxRecDepth 100000 in
theorem hvX11_largest : yX11_largest.cls = RX11 ∧ yX11_largest.cls ≠ "java/lang/invoke/MethodHandle" ∧ yX11_largest.cls ≠ "java/lang/invoke/VarHandle" ∧ (parseMethodDescriptor yX11_largest.desc).map (fun d => d.parameters.length) = some 1 := by decide +kernel
set_option maxRecDepth 100000 in
set_option maxHeartbeats 4000000 in
theorem s_X11_largest_85_b {p : Program} {l : Launch} {e : Env} {s : State} {m : MethodId} {args : Array Value} {below : List Frame} {meth : Method} {c : Code} {A : Nat → Prop} {D : va_G} {cI cZ cO : ClassId} {a : Nat → Nat} {r : Int32} {o : DS} (F : smF p s m args meth c cX11_largest 8 (some .int) RX11 D (tyL cI cZ cO) A) (x1 : Int32) (k29 : DS → Int32 → Int32 → Int32 → Option (Int32 × (DS))) (hk29 : ∀ (u' : DS) (x2' : Int32) (x3' : Int32) (x4' : Int32), k29 u' x2' x3' x4' = some (r, o) → Sm p l e rmX11_largest s m args below meth c D A 8 0 0 (smQ below args s D A (some (.int r)) (wD cI cZ cO a o)) 29 [(0, .ref (a 0)), (1, .int x1), (2, .int x2'), (3, .int x3'), (4, .int x4')] [] (wD cI cZ cO a u')) (k66 : DS → Int32 → Int32 → Int32 → Int32 → Int32 → Option (Int32 × (DS))) (hk66 : ∀ (u' : DS) (x2' : Int32) (x3' : Int32) (x4' : Int32) (x5' : Int32) (x6' : Int32), k66 u' x2' x3' x4' x5' x6' = some (r, o) → Sm p l e rmX11_largest s m args below meth c D A 8 0 0 (smQ below args s D A (some (.int r)) (wD cI cZ cO a o)) 66 [(0, .ref (a 0)), (1, .int x1), (2, .int x2'), (3, .int x3'), (4, .int x4'), (5, .int x5'), (6, .int x6')] [] (wD cI cZ cO a u')) (k85 : DS → Int32 → Int32 → Int32 → Int32 → Int32 → Int32 → Option (Int32 × (DS))) (hk85 : ∀ (u' : DS) (x2' : Int32) (x3' : Int32) (x4' : Int32) (x5' : Int32) (x6' : Int32) (x7' : Int32), k85 u' x2' x3' x4' x5' x6' x7' = some (r, o) → Sm p l e rmX11_largest s m args below meth c D A 8 0 0 (smQ below args s D A (some (.int r)) (wD cI cZ cO a o)) 85 [(0, .ref (a 0)), (1, .int x1), (2, .int x2'), (3, .int x3'), (4, .int x4'), (5, .int x5'), (6, .int x6'), (7, .int x7')] [] (wD cI cZ cO a u')) (u : DS) (x2 : Int32) (x3 : Int32) (x4 : Int32) (x5 : Int32) (x6 : Int32) (x7 : Int32) (hf : b_X11_largest_85 x1 k29 k66 k85 u x2 x3 x4 x5 x6 x7 = some (r, o)) : Sm p l e rmX11_largest s m args below meth c D A 8 0 0 (smQ below args s D A (some (.int r)) (wD cI cZ cO a o)) 85 [(0, .ref (a 0)), (1, .int x1), (2, .int x2), (3, .int x3), (4, .int x4), (5, .int x5), (6, .int x6), (7, .int x7)] [] (wD cI cZ cO a u) := by
  unfold b_X11_largest_85 at hf
  refine sm_iload F dX11_largest_85 7 rfl ?_
  refine sm_iload F dX11_largest_87 6 rfl ?_
  refine sm_icmp_ge (tgt := 141) F dX11_largest_89 (by decide) (fun c89 => ?_) (fun c89 => ?_)
  · replace hf := if_t c89 hf
    refine sm_iinc F [(0, .ref (a 0)), (1, .int x1), (2, .int x2), (3, .int x3), (4, .int x4), (5, .int x5), (6, .int (x6 + 1)), (7, .int x7)] 6 [1, 2, 3, 4, 5, 6, 0, 7] dX11_largest_141 rfl kc_i_1 (by decide) rfl ?_
    refine sm_goto (tgt := 66) F dX11_largest_144 (by decide) ?_
    refine sm_sub (lv' := [(0, .ref (a 0)), (1, .int x1), (2, .int x2), (3, .int x3), (4, .int x4), (5, .int x5), (6, .int (x6 + 1))]) [0, 1, 2, 3, 4, 5, 6] rfl ?_
    exact hk66 u x2 x3 x4 x5 (x6 + 1) hf
  · replace hf := if_f c89 hf
    refine sm_iload F dX11_largest_92 5 rfl ?_
    refine sm_if_eq (tgt := 141) F dX11_largest_94 (by decide) (fun c94 => ?_) (fun c94 => ?_)
    · replace hf := if_t c94 hf
      refine sm_iinc F [(0, .ref (a 0)), (1, .int x1), (2, .int x2), (3, .int x3), (4, .int x4), (5, .int x5), (6, .int (x6 + 1)), (7, .int x7)] 6 [1, 2, 3, 4, 5, 6, 0, 7] dX11_largest_141 rfl kc_i_1 (by decide) rfl ?_
      refine sm_goto (tgt := 66) F dX11_largest_144 (by decide) ?_
      refine sm_sub (lv' := [(0, .ref (a 0)), (1, .int x1), (2, .int x2), (3, .int x3), (4, .int x4), (5, .int x5), (6, .int (x6 + 1))]) [0, 1, 2, 3, 4, 5, 6] rfl ?_
      exact hk66 u x2 x3 x4 x5 (x6 + 1) hf
    · replace hf := if_f c94 hf
      refine sm_iload F dX11_largest_97 4 rfl ?_
      refine sm_iload F dX11_largest_99 6 rfl ?_
      obtain ⟨z101, hz101, hf⟩ := bd_some hf
      refine sm_callS (rest := []) F (ct_X11_has l D (tyL cI cZ cO) hz101) (cut_D_none cI cZ cO a u) rfl rfl rfl qw6_32 qw6_33 qw1_12 qw6_34 hsX11_has ⟨Nat.le_of_ble_eq_true rfl, Nat.le_of_ble_eq_true rfl⟩ ⟨Nat.zero_le _, Nat.zero_le _⟩ rfl (Nat.le_of_ble_eq_true rfl) E0_b (fun _ _ _ _ _ _ => trivial) rfl dX11_largest_101 [.int z101] rfl ?_
      refine sm_if_eq (tgt := 128) F dX11_largest_104 (by decide) (fun c104 => ?_) (fun c104 => ?_)
      · replace hf := if_t c104 hf
        refine sm_iconst F dX11_largest_128 kc_i_1 ?_
        refine sm_goto (tgt := 133) F dX11_largest_129 (by decide) ?_
        refine sm_istore F [(0, .ref (a 0)), (1, .int x1), (2, .int x2), (3, .int x3), (4, .int x4), (5, .int (1 : Int32)), (6, .int x6), (7, .int x7)] [1, 2, 3, 4, 5, 0, 6, 7] dX11_largest_133 (by decide) rfl ?_
        refine sm_iinc F [(0, .ref (a 0)), (1, .int x1), (2, .int x2), (3, .int x3), (4, .int x4), (5, .int (1 : Int32)), (6, .int x6), (7, .int (x7 + 1))] 7 [1, 2, 3, 4, 5, 6, 7, 0] dX11_largest_135 rfl kc_i_1 (by decide) rfl ?_
        refine sm_goto (tgt := 85) F dX11_largest_138 (by decide) ?_
        exact hk85 u x2 x3 x4 (1 : Int32) x6 (x7 + 1) hf
      · replace hf := if_f c104 hf
        refine sm_iload F dX11_largest_107 4 rfl ?_
        refine sm_iload F dX11_largest_109 7 rfl ?_
        obtain ⟨z111, hz111, hf⟩ := bd_some hf
        refine sm_callS (rest := []) F (ct_X11_has l D (tyL cI cZ cO) hz111) (cut_D_none cI cZ cO a u) rfl rfl rfl qw6_32 qw6_33 qw1_12 qw6_34 hsX11_has ⟨Nat.le_of_ble_eq_true rfl, Nat.le_of_ble_eq_true rfl⟩ ⟨Nat.zero_le _, Nat.zero_le _⟩ rfl (Nat.le_of_ble_eq_true rfl) E0_b (fun _ _ _ _ _ _ => trivial) rfl dX11_largest_111 [.int z111] rfl ?_
        refine sm_if_eq (tgt := 128) F dX11_largest_114 (by decide) (fun c114 => ?_) (fun c114 => ?_)
        · replace hf := if_t c114 hf
          refine sm_iconst F dX11_largest_128 kc_i_1 ?_
          refine sm_goto (tgt := 133) F dX11_largest_129 (by decide) ?_
          refine sm_istore F [(0, .ref (a 0)), (1, .int x1), (2, .int x2), (3, .int x3), (4, .int x4), (5, .int (1 : Int32)), (6, .int x6), (7, .int x7)] [1, 2, 3, 4, 5, 0, 6, 7] dX11_largest_133 (by decide) rfl ?_
          refine sm_iinc F [(0, .ref (a 0)), (1, .int x1), (2, .int x2), (3, .int x3), (4, .int x4), (5, .int (1 : Int32)), (6, .int x6), (7, .int (x7 + 1))] 7 [1, 2, 3, 4, 5, 6, 7, 0] dX11_largest_135 rfl kc_i_1 (by decide) rfl ?_
          refine sm_goto (tgt := 85) F dX11_largest_138 (by decide) ?_
          exact hk85 u x2 x3 x4 (1 : Int32) x6 (x7 + 1) hf
        · replace hf := if_f c114 hf
          refine sm_aload_n F dX11_largest_117 rfl 0 rfl ?_
          refine sm_iload F dX11_largest_118 6 rfl ?_
          refine sm_iload F dX11_largest_120 7 rfl ?_
          obtain ⟨z122, hz122, hf⟩ := bd_some hf
          refine sm_callV (rest := []) F (ct_X11_areLeagued l D cI cZ cO a hz122) (cut_D_id cI cZ cO a u u) rfl rfl rfl qw6_24 qw6_26 qw0_44 qw1_12 qw6_27 hvX11_areLeagued ⟨Nat.le_of_ble_eq_true rfl, Nat.le_of_ble_eq_true rfl⟩ ⟨Nat.zero_le _, Nat.zero_le _⟩ 0 11 rfl rfl rfl rfl (Nat.le_of_ble_eq_true rfl) E0_b (fun _ _ _ _ _ _ => trivial) rfl dX11_largest_122 [.int z122] rfl ?_
          refine sm_if_eq (tgt := 132) F dX11_largest_125 (by decide) (fun c125 => ?_) (fun c125 => ?_)
          · replace hf := if_t c125 hf
            refine sm_iconst F dX11_largest_132 kc_i_0 ?_
            refine sm_istore F [(0, .ref (a 0)), (1, .int x1), (2, .int x2), (3, .int x3), (4, .int x4), (5, .int (0 : Int32)), (6, .int x6), (7, .int x7)] [1, 2, 3, 4, 5, 0, 6, 7] dX11_largest_133 (by decide) rfl ?_
            refine sm_iinc F [(0, .ref (a 0)), (1, .int x1), (2, .int x2), (3, .int x3), (4, .int x4), (5, .int (0 : Int32)), (6, .int x6), (7, .int (x7 + 1))] 7 [1, 2, 3, 4, 5, 6, 7, 0] dX11_largest_135 rfl kc_i_1 (by decide) rfl ?_
            refine sm_goto (tgt := 85) F dX11_largest_138 (by decide) ?_
            exact hk85 u x2 x3 x4 (0 : Int32) x6 (x7 + 1) hf
          · replace hf := if_f c125 hf
            refine sm_iconst F dX11_largest_128 kc_i_1 ?_
            refine sm_goto (tgt := 133) F dX11_largest_129 (by decide) ?_
            refine sm_istore F [(0, .ref (a 0)), (1, .int x1), (2, .int x2), (3, .int x3), (4, .int x4), (5, .int (1 : Int32)), (6, .int x6), (7, .int x7)] [1, 2, 3, 4, 5, 0, 6, 7] dX11_largest_133 (by decide) rfl ?_
            refine sm_iinc F [(0, .ref (a 0)), (1, .int x1), (2, .int x2), (3, .int x3), (4, .int x4), (5, .int (1 : Int32)), (6, .int x6), (7, .int (x7 + 1))] 7 [1, 2, 3, 4, 5, 6, 7, 0] dX11_largest_135 rfl kc_i_1 (by decide) rfl ?_
            refine sm_goto (tgt := 85) F dX11_largest_138 (by decide) ?_
            exact hk85 u x2 x3 x4 (1 : Int32) x6 (x7 + 1) hf
set_option maxRecDepth 100000 in
set_option maxHeartbeats 4000000 in
theorem s_X11_largest_85 {p : Program} {l : Launch} {e : Env} {s : State} {m : MethodId} {args : Array Value} {below : List Frame} {meth : Method} {c : Code} {A : Nat → Prop} {D : va_G} {cI cZ cO : ClassId} {a : Nat → Nat} {r : Int32} {o : DS} (F : smF p s m args meth c cX11_largest 8 (some .int) RX11 D (tyL cI cZ cO) A) (x1 : Int32) (k29 : DS → Int32 → Int32 → Int32 → Option (Int32 × (DS))) (hk29 : ∀ (u' : DS) (x2' : Int32) (x3' : Int32) (x4' : Int32), k29 u' x2' x3' x4' = some (r, o) → Sm p l e rmX11_largest s m args below meth c D A 8 0 0 (smQ below args s D A (some (.int r)) (wD cI cZ cO a o)) 29 [(0, .ref (a 0)), (1, .int x1), (2, .int x2'), (3, .int x3'), (4, .int x4')] [] (wD cI cZ cO a u')) (k66 : DS → Int32 → Int32 → Int32 → Int32 → Int32 → Option (Int32 × (DS))) (hk66 : ∀ (u' : DS) (x2' : Int32) (x3' : Int32) (x4' : Int32) (x5' : Int32) (x6' : Int32), k66 u' x2' x3' x4' x5' x6' = some (r, o) → Sm p l e rmX11_largest s m args below meth c D A 8 0 0 (smQ below args s D A (some (.int r)) (wD cI cZ cO a o)) 66 [(0, .ref (a 0)), (1, .int x1), (2, .int x2'), (3, .int x3'), (4, .int x4'), (5, .int x5'), (6, .int x6')] [] (wD cI cZ cO a u')) (n : Nat) (u : DS) (x2 : Int32) (x3 : Int32) (x4 : Int32) (x5 : Int32) (x6 : Int32) (x7 : Int32) (hf : f_X11_largest_85 x1 k29 k66 n u x2 x3 x4 x5 x6 x7 = some (r, o)) : Sm p l e rmX11_largest s m args below meth c D A 8 0 0 (smQ below args s D A (some (.int r)) (wD cI cZ cO a o)) 85 [(0, .ref (a 0)), (1, .int x1), (2, .int x2), (3, .int x3), (4, .int x4), (5, .int x5), (6, .int x6), (7, .int x7)] [] (wD cI cZ cO a u) :=
  lq7_ind (P := fun (u : DS) (x2 : Int32) (x3 : Int32) (x4 : Int32) (x5 : Int32) (x6 : Int32) (x7 : Int32) => Sm p l e rmX11_largest s m args below meth c D A 8 0 0 (smQ below args s D A (some (.int r)) (wD cI cZ cO a o)) 85 [(0, .ref (a 0)), (1, .int x1), (2, .int x2), (3, .int x3), (4, .int x4), (5, .int x5), (6, .int x6), (7, .int x7)] [] (wD cI cZ cO a u)) (fun k85 hk85 u x2 x3 x4 x5 x6 x7 h9 => s_X11_largest_85_b F x1 k29 hk29 k66 hk66 k85 hk85 u x2 x3 x4 x5 x6 x7 h9) n u x2 x3 x4 x5 x6 x7 hf
set_option maxRecDepth 100000 in
set_option maxHeartbeats 4000000 in
theorem s_X11_largest_147 {p : Program} {l : Launch} {e : Env} {s : State} {m : MethodId} {args : Array Value} {below : List Frame} {meth : Method} {c : Code} {A : Nat → Prop} {D : va_G} {cI cZ cO : ClassId} {a : Nat → Nat} {r : Int32} {o : DS} (F : smF p s m args meth c cX11_largest 8 (some .int) RX11 D (tyL cI cZ cO) A) (x1 : Int32) (k29 : DS → Int32 → Int32 → Int32 → Option (Int32 × (DS))) (hk29 : ∀ (u' : DS) (x2' : Int32) (x3' : Int32) (x4' : Int32), k29 u' x2' x3' x4' = some (r, o) → Sm p l e rmX11_largest s m args below meth c D A 8 0 0 (smQ below args s D A (some (.int r)) (wD cI cZ cO a o)) 29 [(0, .ref (a 0)), (1, .int x1), (2, .int x2'), (3, .int x3'), (4, .int x4')] [] (wD cI cZ cO a u')) (u : DS) (x2 : Int32) (x3 : Int32) (x4 : Int32) (x5 : Int32) (hf : f_X11_largest_147 x1 k29  u x2 x3 x4 x5 = some (r, o)) : Sm p l e rmX11_largest s m args below meth c D A 8 0 0 (smQ below args s D A (some (.int r)) (wD cI cZ cO a o)) 147 [(0, .ref (a 0)), (1, .int x1), (2, .int x2), (3, .int x3), (4, .int x4), (5, .int x5)] [] (wD cI cZ cO a u) := by
  unfold f_X11_largest_147 at hf
  refine sm_iload F dX11_largest_147 5 rfl ?_
  refine sm_if_eq (tgt := 157) F dX11_largest_149 (by decide) (fun c149 => ?_) (fun c149 => ?_)
  · replace hf := if_t c149 hf
    refine sm_iload_n F dX11_largest_157 rfl 3 rfl ?_
    refine sm_istore_n F [(0, .ref (a 0)), (1, .int x1), (2, .int x2), (3, .int x3), (4, .int x4)] [1, 2, 3, 0, 4] dX11_largest_158 rfl (by decide) rfl ?_
    refine sm_iinc F [(0, .ref (a 0)), (1, .int x1), (2, .int x2), (3, .int x3), (4, .int (x4 + 1))] 4 [1, 2, 3, 4, 0] dX11_largest_159 rfl kc_i_1 (by decide) rfl ?_
    refine sm_goto (tgt := 29) F dX11_largest_162 (by decide) ?_
    exact hk29 u x2 x3 (x4 + 1) hf
  · replace hf := if_f c149 hf
    refine sm_iload F dX11_largest_152 4 rfl ?_
    refine sm_goto (tgt := 158) F dX11_largest_154 (by decide) ?_
    refine sm_istore_n F [(0, .ref (a 0)), (1, .int x1), (2, .int x2), (3, .int x4), (4, .int x4)] [1, 2, 3, 0, 4] dX11_largest_158 rfl (by decide) rfl ?_
    refine sm_iinc F [(0, .ref (a 0)), (1, .int x1), (2, .int x2), (3, .int x4), (4, .int (x4 + 1))] 4 [1, 2, 3, 4, 0] dX11_largest_159 rfl kc_i_1 (by decide) rfl ?_
    refine sm_goto (tgt := 29) F dX11_largest_162 (by decide) ?_
    exact hk29 u x2 x4 (x4 + 1) hf
set_option maxRecDepth 100000 in
set_option maxHeartbeats 4000000 in
theorem s_X11_largest_66_b {p : Program} {l : Launch} {e : Env} {s : State} {m : MethodId} {args : Array Value} {below : List Frame} {meth : Method} {c : Code} {A : Nat → Prop} {D : va_G} {cI cZ cO : ClassId} {a : Nat → Nat} {r : Int32} {o : DS} (F : smF p s m args meth c cX11_largest 8 (some .int) RX11 D (tyL cI cZ cO) A) (x1 : Int32) (k29 : DS → Int32 → Int32 → Int32 → Option (Int32 × (DS))) (hk29 : ∀ (u' : DS) (x2' : Int32) (x3' : Int32) (x4' : Int32), k29 u' x2' x3' x4' = some (r, o) → Sm p l e rmX11_largest s m args below meth c D A 8 0 0 (smQ below args s D A (some (.int r)) (wD cI cZ cO a o)) 29 [(0, .ref (a 0)), (1, .int x1), (2, .int x2'), (3, .int x3'), (4, .int x4')] [] (wD cI cZ cO a u')) (k66 : DS → Int32 → Int32 → Int32 → Int32 → Int32 → Option (Int32 × (DS))) (hk66 : ∀ (u' : DS) (x2' : Int32) (x3' : Int32) (x4' : Int32) (x5' : Int32) (x6' : Int32), k66 u' x2' x3' x4' x5' x6' = some (r, o) → Sm p l e rmX11_largest s m args below meth c D A 8 0 0 (smQ below args s D A (some (.int r)) (wD cI cZ cO a o)) 66 [(0, .ref (a 0)), (1, .int x1), (2, .int x2'), (3, .int x3'), (4, .int x4'), (5, .int x5'), (6, .int x6')] [] (wD cI cZ cO a u')) (u : DS) (x2 : Int32) (x3 : Int32) (x4 : Int32) (x5 : Int32) (x6 : Int32) (hf : b_X11_largest_66 x1 k29 k66 u x2 x3 x4 x5 x6 = some (r, o)) : Sm p l e rmX11_largest s m args below meth c D A 8 0 0 (smQ below args s D A (some (.int r)) (wD cI cZ cO a o)) 66 [(0, .ref (a 0)), (1, .int x1), (2, .int x2), (3, .int x3), (4, .int x4), (5, .int x5), (6, .int x6)] [] (wD cI cZ cO a u) := by
  unfold b_X11_largest_66 at hf
  refine sm_iload F dX11_largest_66 6 rfl ?_
  refine sm_aload_n F dX11_largest_68 rfl 0 rfl ?_
  refine sm_get (v := .ref (a 1)) F inX11 0 rfl rfl 0 (by decide) qw5_15 rfl rfl dX11_largest_69 ?_
  refine sm_iconst F dX11_largest_72 kc_i_0 ?_
  obtain ⟨h73, hf⟩ := ck_some hf
  refine sm_iald F 1 0 rfl rfl h73 dX11_largest_73 ?_
  refine sm_icmp_ge (tgt := 147) F dX11_largest_74 (by decide) (fun c74 => ?_) (fun c74 => ?_)
  · replace hf := if_t c74 hf
    refine sm_sub (lv' := [(0, .ref (a 0)), (1, .int x1), (2, .int x2), (3, .int x3), (4, .int x4), (5, .int x5)]) [0, 1, 2, 3, 4, 5] rfl ?_
    exact s_X11_largest_147 F x1 k29 hk29 u x2 x3 x4 x5 hf
  · replace hf := if_f c74 hf
    refine sm_iload F dX11_largest_77 5 rfl ?_
    refine sm_if_eq (tgt := 147) F dX11_largest_79 (by decide) (fun c79 => ?_) (fun c79 => ?_)
    · replace hf := if_t c79 hf
      refine sm_sub (lv' := [(0, .ref (a 0)), (1, .int x1), (2, .int x2), (3, .int x3), (4, .int x4), (5, .int x5)]) [0, 1, 2, 3, 4, 5] rfl ?_
      exact s_X11_largest_147 F x1 k29 hk29 u x2 x3 x4 x5 hf
    · replace hf := if_f c79 hf
      refine sm_iconst F dX11_largest_82 kc_i_0 ?_
      refine sm_istore F [(0, .ref (a 0)), (1, .int x1), (2, .int x2), (3, .int x3), (4, .int x4), (5, .int x5), (6, .int x6), (7, .int (0 : Int32))] [1, 2, 3, 4, 5, 6, 7, 0] dX11_largest_83 (by decide) rfl ?_
      exact s_X11_largest_85 F x1 k29 hk29 k66 hk66 smN u x2 x3 x4 x5 x6 (0 : Int32) hf
set_option maxRecDepth 100000 in
set_option maxHeartbeats 4000000 in
theorem s_X11_largest_66 {p : Program} {l : Launch} {e : Env} {s : State} {m : MethodId} {args : Array Value} {below : List Frame} {meth : Method} {c : Code} {A : Nat → Prop} {D : va_G} {cI cZ cO : ClassId} {a : Nat → Nat} {r : Int32} {o : DS} (F : smF p s m args meth c cX11_largest 8 (some .int) RX11 D (tyL cI cZ cO) A) (x1 : Int32) (k29 : DS → Int32 → Int32 → Int32 → Option (Int32 × (DS))) (hk29 : ∀ (u' : DS) (x2' : Int32) (x3' : Int32) (x4' : Int32), k29 u' x2' x3' x4' = some (r, o) → Sm p l e rmX11_largest s m args below meth c D A 8 0 0 (smQ below args s D A (some (.int r)) (wD cI cZ cO a o)) 29 [(0, .ref (a 0)), (1, .int x1), (2, .int x2'), (3, .int x3'), (4, .int x4')] [] (wD cI cZ cO a u')) (n : Nat) (u : DS) (x2 : Int32) (x3 : Int32) (x4 : Int32) (x5 : Int32) (x6 : Int32) (hf : f_X11_largest_66 x1 k29 n u x2 x3 x4 x5 x6 = some (r, o)) : Sm p l e rmX11_largest s m args below meth c D A 8 0 0 (smQ below args s D A (some (.int r)) (wD cI cZ cO a o)) 66 [(0, .ref (a 0)), (1, .int x1), (2, .int x2), (3, .int x3), (4, .int x4), (5, .int x5), (6, .int x6)] [] (wD cI cZ cO a u) :=
  lq6_ind (P := fun (u : DS) (x2 : Int32) (x3 : Int32) (x4 : Int32) (x5 : Int32) (x6 : Int32) => Sm p l e rmX11_largest s m args below meth c D A 8 0 0 (smQ below args s D A (some (.int r)) (wD cI cZ cO a o)) 66 [(0, .ref (a 0)), (1, .int x1), (2, .int x2), (3, .int x3), (4, .int x4), (5, .int x5), (6, .int x6)] [] (wD cI cZ cO a u)) (fun k66 hk66 u x2 x3 x4 x5 x6 h9 => s_X11_largest_66_b F x1 k29 hk29 k66 hk66 u x2 x3 x4 x5 x6 h9) n u x2 x3 x4 x5 x6 hf
set_option maxRecDepth 100000 in
set_option maxHeartbeats 4000000 in
theorem s_X11_largest_29_b {p : Program} {l : Launch} {e : Env} {s : State} {m : MethodId} {args : Array Value} {below : List Frame} {meth : Method} {c : Code} {A : Nat → Prop} {D : va_G} {cI cZ cO : ClassId} {a : Nat → Nat} {r : Int32} {o : DS} (F : smF p s m args meth c cX11_largest 8 (some .int) RX11 D (tyL cI cZ cO) A) (x1 : Int32) (k29 : DS → Int32 → Int32 → Int32 → Option (Int32 × (DS))) (hk29 : ∀ (u' : DS) (x2' : Int32) (x3' : Int32) (x4' : Int32), k29 u' x2' x3' x4' = some (r, o) → Sm p l e rmX11_largest s m args below meth c D A 8 0 0 (smQ below args s D A (some (.int r)) (wD cI cZ cO a o)) 29 [(0, .ref (a 0)), (1, .int x1), (2, .int x2'), (3, .int x3'), (4, .int x4')] [] (wD cI cZ cO a u')) (u : DS) (x2 : Int32) (x3 : Int32) (x4 : Int32) (hf : b_X11_largest_29 x1  k29 u x2 x3 x4 = some (r, o)) : Sm p l e rmX11_largest s m args below meth c D A 8 0 0 (smQ below args s D A (some (.int r)) (wD cI cZ cO a o)) 29 [(0, .ref (a 0)), (1, .int x1), (2, .int x2), (3, .int x3), (4, .int x4)] [] (wD cI cZ cO a u) := by
  unfold b_X11_largest_29 at hf
  refine sm_iload F dX11_largest_29 4 rfl ?_
  refine sm_iload_n F dX11_largest_31 rfl 2 rfl ?_
  refine sm_icmp_gt (tgt := 165) F dX11_largest_32 (by decide) (fun c32 => ?_) (fun c32 => ?_)
  · replace hf := if_t c32 hf
    refine sm_iload_n F dX11_largest_165 rfl 1 rfl ?_
    refine sm_if_ne (tgt := 173) F dX11_largest_166 (by decide) (fun c166 => ?_) (fun c166 => ?_)
    · replace hf := if_f c166 hf
      refine sm_iload_n F dX11_largest_173 rfl 3 rfl ?_
      obtain ⟨z174, hz174, hf⟩ := bd_some hf
      refine sm_callS (rest := []) F (ct_X11_bits l D (tyL cI cZ cO) hz174) (cut_D_none cI cZ cO a u) rfl rfl rfl qw5_177 qw5_178 qw1_12 qw5_179 hsX11_bits ⟨Nat.le_of_ble_eq_true rfl, Nat.le_of_ble_eq_true rfl⟩ ⟨Nat.zero_le _, Nat.zero_le _⟩ rfl (Nat.le_of_ble_eq_true rfl) E0_b (fun _ _ _ _ _ _ => trivial) rfl dX11_largest_174 [.int z174] rfl ?_
      exact sm_iret F dX11_largest_177 (Prod.mk.inj (Option.some.inj hf)).1 (congrArg (fun z => (wD cI cZ cO a z)) (Prod.mk.inj (Option.some.inj hf)).2)
    · replace hf := if_t c166 hf
      refine sm_iload_n F dX11_largest_169 rfl 3 rfl ?_
      refine sm_goto (tgt := 177) F dX11_largest_170 (by decide) ?_
      exact sm_iret F dX11_largest_177 (Prod.mk.inj (Option.some.inj hf)).1 (congrArg (fun z => (wD cI cZ cO a z)) (Prod.mk.inj (Option.some.inj hf)).2)
  · replace hf := if_f c32 hf
    refine sm_iload F dX11_largest_35 4 rfl ?_
    refine sm_iload_n F dX11_largest_37 rfl 2 rfl ?_
    refine sm_iconst F dX11_largest_38 kc_i_m1 ?_
    refine sm_ixor F dX11_largest_39 ?_
    refine sm_iand F dX11_largest_40 ?_
    refine sm_if_ne (tgt := 60) F dX11_largest_41 (by decide) (fun c41 => ?_) (fun c41 => ?_)
    · replace hf := if_f c41 hf
      refine sm_iconst F dX11_largest_60 kc_i_0 ?_
      refine sm_istore F [(0, .ref (a 0)), (1, .int x1), (2, .int x2), (3, .int x3), (4, .int x4), (5, .int (0 : Int32))] [1, 2, 3, 4, 5, 0] dX11_largest_61 (by decide) rfl ?_
      refine sm_iconst F dX11_largest_63 kc_i_0 ?_
      refine sm_istore F [(0, .ref (a 0)), (1, .int x1), (2, .int x2), (3, .int x3), (4, .int x4), (5, .int (0 : Int32)), (6, .int (0 : Int32))] [1, 2, 3, 4, 5, 6, 0] dX11_largest_64 (by decide) rfl ?_
      exact s_X11_largest_66 F x1 k29 hk29 smN u x2 x3 x4 (0 : Int32) (0 : Int32) hf
    · replace hf := if_t c41 hf
      refine sm_iload F dX11_largest_44 4 rfl ?_
      obtain ⟨z46, hz46, hf⟩ := bd_some hf
      refine sm_callS (rest := []) F (ct_X11_bits l D (tyL cI cZ cO) hz46) (cut_D_none cI cZ cO a u) rfl rfl rfl qw5_177 qw5_178 qw1_12 qw5_179 hsX11_bits ⟨Nat.le_of_ble_eq_true rfl, Nat.le_of_ble_eq_true rfl⟩ ⟨Nat.zero_le _, Nat.zero_le _⟩ rfl (Nat.le_of_ble_eq_true rfl) E0_b (fun _ _ _ _ _ _ => trivial) rfl dX11_largest_46 [.int z46] rfl ?_
      refine sm_iload_n F dX11_largest_49 rfl 3 rfl ?_
      obtain ⟨z50, hz50, hf⟩ := bd_some hf
      refine sm_callS (rest := [.int z46]) F (ct_X11_bits l D (tyL cI cZ cO) hz50) (cut_D_none cI cZ cO a u) rfl rfl rfl qw5_177 qw5_178 qw1_12 qw5_179 hsX11_bits ⟨Nat.le_of_ble_eq_true rfl, Nat.le_of_ble_eq_true rfl⟩ ⟨Nat.zero_le _, Nat.zero_le _⟩ rfl (Nat.le_of_ble_eq_true rfl) E0_b (fun _ _ _ _ _ _ => trivial) rfl dX11_largest_50 [.int z50, .int z46] rfl ?_
      refine sm_icmp_le (tgt := 60) F dX11_largest_53 (by decide) (fun c53 => ?_) (fun c53 => ?_)
      · replace hf := if_t c53 hf
        refine sm_iconst F dX11_largest_60 kc_i_0 ?_
        refine sm_istore F [(0, .ref (a 0)), (1, .int x1), (2, .int x2), (3, .int x3), (4, .int x4), (5, .int (0 : Int32))] [1, 2, 3, 4, 5, 0] dX11_largest_61 (by decide) rfl ?_
        refine sm_iconst F dX11_largest_63 kc_i_0 ?_
        refine sm_istore F [(0, .ref (a 0)), (1, .int x1), (2, .int x2), (3, .int x3), (4, .int x4), (5, .int (0 : Int32)), (6, .int (0 : Int32))] [1, 2, 3, 4, 5, 6, 0] dX11_largest_64 (by decide) rfl ?_
        exact s_X11_largest_66 F x1 k29 hk29 smN u x2 x3 x4 (0 : Int32) (0 : Int32) hf
      · replace hf := if_f c53 hf
        refine sm_iconst F dX11_largest_56 kc_i_1 ?_
        refine sm_goto (tgt := 61) F dX11_largest_57 (by decide) ?_
        refine sm_istore F [(0, .ref (a 0)), (1, .int x1), (2, .int x2), (3, .int x3), (4, .int x4), (5, .int (1 : Int32))] [1, 2, 3, 4, 5, 0] dX11_largest_61 (by decide) rfl ?_
        refine sm_iconst F dX11_largest_63 kc_i_0 ?_
        refine sm_istore F [(0, .ref (a 0)), (1, .int x1), (2, .int x2), (3, .int x3), (4, .int x4), (5, .int (1 : Int32)), (6, .int (0 : Int32))] [1, 2, 3, 4, 5, 6, 0] dX11_largest_64 (by decide) rfl ?_
        exact s_X11_largest_66 F x1 k29 hk29 smN u x2 x3 x4 (1 : Int32) (0 : Int32) hf
set_option maxRecDepth 100000 in
set_option maxHeartbeats 4000000 in
theorem s_X11_largest_29 {p : Program} {l : Launch} {e : Env} {s : State} {m : MethodId} {args : Array Value} {below : List Frame} {meth : Method} {c : Code} {A : Nat → Prop} {D : va_G} {cI cZ cO : ClassId} {a : Nat → Nat} {r : Int32} {o : DS} (F : smF p s m args meth c cX11_largest 8 (some .int) RX11 D (tyL cI cZ cO) A) (x1 : Int32)  (n : Nat) (u : DS) (x2 : Int32) (x3 : Int32) (x4 : Int32) (hf : f_X11_largest_29 x1  n u x2 x3 x4 = some (r, o)) : Sm p l e rmX11_largest s m args below meth c D A 8 0 0 (smQ below args s D A (some (.int r)) (wD cI cZ cO a o)) 29 [(0, .ref (a 0)), (1, .int x1), (2, .int x2), (3, .int x3), (4, .int x4)] [] (wD cI cZ cO a u) :=
  lq4_ind (P := fun (u : DS) (x2 : Int32) (x3 : Int32) (x4 : Int32) => Sm p l e rmX11_largest s m args below meth c D A 8 0 0 (smQ below args s D A (some (.int r)) (wD cI cZ cO a o)) 29 [(0, .ref (a 0)), (1, .int x1), (2, .int x2), (3, .int x3), (4, .int x4)] [] (wD cI cZ cO a u)) (fun k29 hk29 u x2 x3 x4 h9 => s_X11_largest_29_b F x1  k29 hk29 u x2 x3 x4 h9) n u x2 x3 x4 hf
set_option maxRecDepth 100000 in
set_option maxHeartbeats 4000000 in
theorem ct_X11_largest (l : Launch) (D : va_G) (cI cZ cO : ClassId) (a : Nat → Nat) {u : DS} {x1 : Int32} {r : Int32} {o : DS} (hf : f_X11_largest u x1 = some (r, o)) : Ct l yX11_largest (uw (Cond.code yX11_largest cX11_largest 8 (some .int))) rmX11_largest D (tyL cI cZ cO) E0 [.ref (a 0), .int x1] (wD cI cZ cO a u) (some (.int r)) (wD cI cZ cO a o) := by
  refine sm_start (cc := cX11_largest) (maxL := 8) (ret := (some .int)) (own := RX11) (by decide) rfl rfl (Nat.le_of_ble_eq_true rfl) (lv := [(0, .ref (a 0)), (1, .int x1)]) rfl ?_
  intro p e s m below meth c A F hE hA
  unfold f_X11_largest at hf
  refine sm_iload_n F dX11_largest_0 rfl 1 rfl ?_
  refine sm_iconst F dX11_largest_1 kc_i_0 ?_
  refine sm_iconst F dX11_largest_2 kc_i_1 ?_
  obtain ⟨z3, hz3, hf⟩ := bd_some hf
  refine sm_callS (rest := []) F (ct_X11_isIn l D (tyL cI cZ cO) hz3) (cut_D_none cI cZ cO a u) rfl rfl rfl qw5_86 qw5_87 qw1_12 qw5_88 hsX11_isIn ⟨Nat.le_of_ble_eq_true rfl, Nat.le_of_ble_eq_true rfl⟩ ⟨Nat.zero_le _, Nat.zero_le _⟩ rfl (Nat.le_of_ble_eq_true rfl) E0_b (fun _ _ _ _ _ _ => trivial) rfl dX11_largest_3 [.int z3] rfl ?_
  refine sm_if_ne (tgt := 16) F dX11_largest_6 (by decide) (fun c6 => ?_) (fun c6 => ?_)
  · replace hf := if_f c6 hf
    refine sm_aload_n F dX11_largest_16 rfl 0 rfl ?_
    refine sm_get (v := .ref (a 1)) F inX11 0 rfl rfl 0 (by decide) qw5_15 rfl rfl dX11_largest_17 ?_
    obtain ⟨z20, hz20, hf⟩ := bd_some hf
    refine sm_callS (rest := []) F (ct_X11_hereIn l D cI cZ cO (fun i => a (pm_D_i1 i)) hz20) (cut_D_i1_ro cI cZ cO a u) rfl rfl rfl qw5_174 qw5_175 qw1_12 qw5_176 hsX11_hereIn ⟨Nat.le_of_ble_eq_true rfl, Nat.le_of_ble_eq_true rfl⟩ ⟨Nat.zero_le _, Nat.zero_le _⟩ rfl (Nat.le_of_ble_eq_true rfl) E0_b (fun _ _ _ _ _ _ => trivial) rfl dX11_largest_20 [.int z20] rfl ?_
    refine sm_istore_n F [(0, .ref (a 0)), (1, .int x1), (2, .int z20)] [1, 2, 0] dX11_largest_23 rfl (by decide) rfl ?_
    refine sm_iconst F dX11_largest_24 kc_i_0 ?_
    refine sm_istore_n F [(0, .ref (a 0)), (1, .int x1), (2, .int z20), (3, .int (0 : Int32))] [1, 2, 3, 0] dX11_largest_25 rfl (by decide) rfl ?_
    refine sm_iconst F dX11_largest_26 kc_i_0 ?_
    refine sm_istore F [(0, .ref (a 0)), (1, .int x1), (2, .int z20), (3, .int (0 : Int32)), (4, .int (0 : Int32))] [1, 2, 3, 4, 0] dX11_largest_27 (by decide) rfl ?_
    exact s_X11_largest_29 F x1 smN u z20 (0 : Int32) (0 : Int32) hf
  · replace hf := if_t c6 hf
    refine sm_aload_n F dX11_largest_9 rfl 0 rfl ?_
    refine sm_bipush F dX11_largest_10 kc_b_m2 ?_
    obtain ⟨z12, hz12, hf⟩ := bd_some hf
    refine sm_callV (rest := []) F (ct_X11_no l D cI cZ cO a hz12) (cut_D_id cI cZ cO a u z12.2) rfl rfl rfl qw5_59 qw5_61 qw0_29 qw1_12 qw5_62 hvX11_no ⟨Nat.le_of_ble_eq_true rfl, Nat.le_of_ble_eq_true rfl⟩ ⟨Nat.zero_le _, Nat.zero_le _⟩ 0 11 rfl rfl rfl rfl (Nat.le_of_ble_eq_true rfl) E0_b (fun _ _ _ _ _ _ => trivial) rfl dX11_largest_12 [.int z12.1] rfl ?_
    exact sm_iret F dX11_largest_15 (Prod.mk.inj (Option.some.inj hf)).1 (congrArg (fun z => (wD cI cZ cO a z)) (Prod.mk.inj (Option.some.inj hf)).2)
/-! SoManyForgottenModel.cold(I)I -/
abbrev rmX11_cold : Room := { frames := 2, cells := 0, slots := 0, locals := 42 }
set_option maxRecDepth 100000 in
theorem hvX11_cold : yX11_cold.cls = RX11 ∧ yX11_cold.cls ≠ "java/lang/invoke/MethodHandle" ∧ yX11_cold.cls ≠ "java/lang/invoke/VarHandle" ∧ (parseMethodDescriptor yX11_cold.desc).map (fun d => d.parameters.length) = some 1 := by decide +kernel
set_option maxRecDepth 100000 in
set_option maxHeartbeats 4000000 in
theorem s_X11_cold_41_b {p : Program} {l : Launch} {e : Env} {s : State} {m : MethodId} {args : Array Value} {below : List Frame} {meth : Method} {c : Code} {A : Nat → Prop} {D : va_G} {cI cZ cO : ClassId} {a : Nat → Nat} {r : Int32} {o : DS} (F : smF p s m args meth c cX11_cold 6 (some .int) RX11 D (tyL cI cZ cO) A) (x1 : Int32) (k24 : DS → Int32 → Int32 → Int32 → Option (Int32 × (DS))) (hk24 : ∀ (u' : DS) (x2' : Int32) (x3' : Int32) (x4' : Int32), k24 u' x2' x3' x4' = some (r, o) → Sm p l e rmX11_cold s m args below meth c D A 6 0 0 (smQ below args s D A (some (.int r)) (wD cI cZ cO a o)) 24 [(0, .ref (a 0)), (1, .int x1), (2, .int x2'), (3, .int x3'), (4, .int x4')] [] (wD cI cZ cO a u')) (k41 : DS → Int32 → Int32 → Int32 → Int32 → Option (Int32 × (DS))) (hk41 : ∀ (u' : DS) (x2' : Int32) (x3' : Int32) (x4' : Int32) (x5' : Int32), k41 u' x2' x3' x4' x5' = some (r, o) → Sm p l e rmX11_cold s m args below meth c D A 6 0 0 (smQ below args s D A (some (.int r)) (wD cI cZ cO a o)) 41 [(0, .ref (a 0)), (1, .int x1), (2, .int x2'), (3, .int x3'), (4, .int x4'), (5, .int x5')] [] (wD cI cZ cO a u')) (u : DS) (x2 : Int32) (x3 : Int32) (x4 : Int32) (x5 : Int32) (hf : b_X11_cold_41 x1 k24 k41 u x2 x3 x4 x5 = some (r, o)) : Sm p l e rmX11_cold s m args below meth c D A 6 0 0 (smQ below args s D A (some (.int r)) (wD cI cZ cO a o)) 41 [(0, .ref (a 0)), (1, .int x1), (2, .int x2), (3, .int x3), (4, .int x4), (5, .int x5)] [] (wD cI cZ cO a u) := by
  unfold b_X11_cold_41 at hf
  refine sm_iload F dX11_cold_41 5 rfl ?_
  refine sm_aload_n F dX11_cold_43 rfl 0 rfl ?_
  refine sm_get (v := .ref (a 1)) F inX11 0 rfl rfl 0 (by decide) qw5_15 rfl rfl dX11_cold_44 ?_
  refine sm_iconst F dX11_cold_47 kc_i_0 ?_
  obtain ⟨h48, hf⟩ := ck_some hf
  refine sm_iald F 1 0 rfl rfl h48 dX11_cold_48 ?_
  refine sm_icmp_ge (tgt := 133) F dX11_cold_49 (by decide) (fun c49 => ?_) (fun c49 => ?_)
  · replace hf := if_t c49 hf
    refine sm_iinc F [(0, .ref (a 0)), (1, .int x1), (2, .int x2), (3, .int x3), (4, .int (x4 + 1)), (5, .int x5)] 4 [1, 2, 3, 4, 0, 5] dX11_cold_133 rfl kc_i_1 (by decide) rfl ?_
    refine sm_goto (tgt := 24) F dX11_cold_136 (by decide) ?_
    refine sm_sub (lv' := [(0, .ref (a 0)), (1, .int x1), (2, .int x2), (3, .int x3), (4, .int (x4 + 1))]) [0, 1, 2, 3, 4] rfl ?_
    exact hk24 u x2 x3 (x4 + 1) hf
  · replace hf := if_f c49 hf
    refine sm_aload_n F dX11_cold_52 rfl 0 rfl ?_
    refine sm_get (v := .ref (a 1)) F inX11 0 rfl rfl 0 (by decide) qw5_15 rfl rfl dX11_cold_53 ?_
    refine sm_iload F dX11_cold_56 4 rfl ?_
    obtain ⟨z58, hz58, hf⟩ := bd_some hf
    refine sm_callS (rest := []) F (ct_X11_isHere l D cI cZ cO (fun i => a (pm_D_i1 i)) hz58) (cut_D_i1_ro cI cZ cO a u) rfl rfl rfl qw5_114 qw5_115 qw1_12 qw5_116 hsX11_isHere ⟨Nat.le_of_ble_eq_true rfl, Nat.le_of_ble_eq_true rfl⟩ ⟨Nat.zero_le _, Nat.zero_le _⟩ rfl (Nat.le_of_ble_eq_true rfl) E0_b (fun _ _ _ _ _ _ => trivial) rfl dX11_cold_58 [.int z58] rfl ?_
    refine sm_if_eq (tgt := 127) F dX11_cold_61 (by decide) (fun c61 => ?_) (fun c61 => ?_)
    · replace hf := if_t c61 hf
      refine sm_iinc F [(0, .ref (a 0)), (1, .int x1), (2, .int x2), (3, .int x3), (4, .int x4), (5, .int (x5 + 1))] 5 [1, 2, 3, 4, 5, 0] dX11_cold_127 rfl kc_i_1 (by decide) rfl ?_
      refine sm_goto (tgt := 41) F dX11_cold_130 (by decide) ?_
      exact hk41 u x2 x3 x4 (x5 + 1) hf
    · replace hf := if_f c61 hf
      refine sm_aload_n F dX11_cold_64 rfl 0 rfl ?_
      refine sm_get (v := .ref (a 1)) F inX11 0 rfl rfl 0 (by decide) qw5_15 rfl rfl dX11_cold_65 ?_
      refine sm_iload F dX11_cold_68 5 rfl ?_
      obtain ⟨z70, hz70, hf⟩ := bd_some hf
      refine sm_callS (rest := []) F (ct_X11_isHere l D cI cZ cO (fun i => a (pm_D_i1 i)) hz70) (cut_D_i1_ro cI cZ cO a u) rfl rfl rfl qw5_114 qw5_115 qw1_12 qw5_116 hsX11_isHere ⟨Nat.le_of_ble_eq_true rfl, Nat.le_of_ble_eq_true rfl⟩ ⟨Nat.zero_le _, Nat.zero_le _⟩ rfl (Nat.le_of_ble_eq_true rfl) E0_b (fun _ _ _ _ _ _ => trivial) rfl dX11_cold_70 [.int z70] rfl ?_
      refine sm_if_eq (tgt := 127) F dX11_cold_73 (by decide) (fun c73 => ?_) (fun c73 => ?_)
      · replace hf := if_t c73 hf
        refine sm_iinc F [(0, .ref (a 0)), (1, .int x1), (2, .int x2), (3, .int x3), (4, .int x4), (5, .int (x5 + 1))] 5 [1, 2, 3, 4, 5, 0] dX11_cold_127 rfl kc_i_1 (by decide) rfl ?_
        refine sm_goto (tgt := 41) F dX11_cold_130 (by decide) ?_
        exact hk41 u x2 x3 x4 (x5 + 1) hf
      · replace hf := if_f c73 hf
        refine sm_aload_n F dX11_cold_76 rfl 0 rfl ?_
        refine sm_get (v := .ref (a 1)) F inX11 0 rfl rfl 0 (by decide) qw5_15 rfl rfl dX11_cold_77 ?_
        refine sm_iload F dX11_cold_80 4 rfl ?_
        refine sm_iload F dX11_cold_82 5 rfl ?_
        obtain ⟨z84, hz84, hf⟩ := bd_some hf
        refine sm_callS (rest := [.ref (a 1)]) F (ct_X11_by l D (tyL cI cZ cO) hz84) (cut_D_none cI cZ cO a u) rfl rfl rfl qw5_103 qw5_104 qw1_12 qw5_105 hsX11_by ⟨Nat.le_of_ble_eq_true rfl, Nat.le_of_ble_eq_true rfl⟩ ⟨Nat.zero_le _, Nat.zero_le _⟩ rfl (Nat.le_of_ble_eq_true rfl) E0_b (fun _ _ _ _ _ _ => trivial) rfl dX11_cold_84 [.int z84, .ref (a 1)] rfl ?_
        obtain ⟨h87, hf⟩ := ck_some hf
        refine sm_iald F 1 0 rfl rfl h87 dX11_cold_87 ?_
        refine sm_aload_n F dX11_cold_88 rfl 0 rfl ?_
        refine sm_get (v := .ref (a 1)) F inX11 0 rfl rfl 0 (by decide) qw5_15 rfl rfl dX11_cold_89 ?_
        refine sm_iload F dX11_cold_92 5 rfl ?_
        refine sm_iload F dX11_cold_94 4 rfl ?_
        obtain ⟨z96, hz96, hf⟩ := bd_some hf
        refine sm_callS (rest := [.ref (a 1), .int ((gD_s u) (Int32.toNatClampNeg z84))]) F (ct_X11_by l D (tyL cI cZ cO) hz96) (cut_D_none cI cZ cO a u) rfl rfl rfl qw5_103 qw5_104 qw1_12 qw5_105 hsX11_by ⟨Nat.le_of_ble_eq_true rfl, Nat.le_of_ble_eq_true rfl⟩ ⟨Nat.zero_le _, Nat.zero_le _⟩ rfl (Nat.le_of_ble_eq_true rfl) E0_b (fun _ _ _ _ _ _ => trivial) rfl dX11_cold_96 [.int z96, .ref (a 1), .int ((gD_s u) (Int32.toNatClampNeg z84))] rfl ?_
        obtain ⟨h99, hf⟩ := ck_some hf
        refine sm_iald F 1 0 rfl rfl h99 dX11_cold_99 ?_
        refine sm_iadd F dX11_cold_100 ?_
        refine sm_if_le (tgt := 107) F dX11_cold_101 (by decide) (fun c101 => ?_) (fun c101 => ?_)
        · replace hf := if_t c101 hf
          refine sm_iload_n F dX11_cold_107 rfl 2 rfl ?_
          refine sm_if_ne (tgt := 122) F dX11_cold_108 (by decide) (fun c108 => ?_) (fun c108 => ?_)
          · replace hf := if_f c108 hf
            refine sm_iload_n F dX11_cold_122 rfl 3 rfl ?_
            refine sm_istore_n F [(0, .ref (a 0)), (1, .int x1), (2, .int x2), (3, .int x3), (4, .int x4), (5, .int x5)] [1, 2, 3, 0, 4, 5] dX11_cold_123 rfl (by decide) rfl ?_
            refine sm_iinc F [(0, .ref (a 0)), (1, .int x1), (2, .int (x2 + 1)), (3, .int x3), (4, .int x4), (5, .int x5)] 2 [1, 2, 0, 3, 4, 5] dX11_cold_124 rfl kc_i_1 (by decide) rfl ?_
            refine sm_iinc F [(0, .ref (a 0)), (1, .int x1), (2, .int (x2 + 1)), (3, .int x3), (4, .int x4), (5, .int (x5 + 1))] 5 [1, 2, 3, 4, 5, 0] dX11_cold_127 rfl kc_i_1 (by decide) rfl ?_
            refine sm_goto (tgt := 41) F dX11_cold_130 (by decide) ?_
            exact hk41 u (x2 + 1) x3 x4 (x5 + 1) hf
          · replace hf := if_t c108 hf
            refine sm_bipush F dX11_cold_111 kc_b_10 ?_
            refine sm_iload F dX11_cold_113 4 rfl ?_
            refine sm_imul F dX11_cold_115 ?_
            refine sm_iload F dX11_cold_116 5 rfl ?_
            refine sm_iadd F dX11_cold_118 ?_
            refine sm_goto (tgt := 123) F dX11_cold_119 (by decide) ?_
            refine sm_istore_n F [(0, .ref (a 0)), (1, .int x1), (2, .int x2), (3, .int (((10 : Int32) * x4) + x5)), (4, .int x4), (5, .int x5)] [1, 2, 3, 0, 4, 5] dX11_cold_123 rfl (by decide) rfl ?_
            refine sm_iinc F [(0, .ref (a 0)), (1, .int x1), (2, .int (x2 + 1)), (3, .int (((10 : Int32) * x4) + x5)), (4, .int x4), (5, .int x5)] 2 [1, 2, 0, 3, 4, 5] dX11_cold_124 rfl kc_i_1 (by decide) rfl ?_
            refine sm_iinc F [(0, .ref (a 0)), (1, .int x1), (2, .int (x2 + 1)), (3, .int (((10 : Int32) * x4) + x5)), (4, .int x4), (5, .int (x5 + 1))] 5 [1, 2, 3, 4, 5, 0] dX11_cold_127 rfl kc_i_1 (by decide) rfl ?_
            refine sm_goto (tgt := 41) F dX11_cold_130 (by decide) ?_
            exact hk41 u (x2 + 1) (((10 : Int32) * x4) + x5) x4 (x5 + 1) hf
        · replace hf := if_f c101 hf
          refine sm_goto (tgt := 127) F dX11_cold_104 (by decide) ?_
          refine sm_iinc F [(0, .ref (a 0)), (1, .int x1), (2, .int x2), (3, .int x3), (4, .int x4), (5, .int (x5 + 1))] 5 [1, 2, 3, 4, 5, 0] dX11_cold_127 rfl kc_i_1 (by decide) rfl ?_
          refine sm_goto (tgt := 41) F dX11_cold_130 (by decide) ?_
          exact hk41 u x2 x3 x4 (x5 + 1) hf
set_option maxRecDepth 100000 in
set_option maxHeartbeats 4000000 in
theorem s_X11_cold_41 {p : Program} {l : Launch} {e : Env} {s : State} {m : MethodId} {args : Array Value} {below : List Frame} {meth : Method} {c : Code} {A : Nat → Prop} {D : va_G} {cI cZ cO : ClassId} {a : Nat → Nat} {r : Int32} {o : DS} (F : smF p s m args meth c cX11_cold 6 (some .int) RX11 D (tyL cI cZ cO) A) (x1 : Int32) (k24 : DS → Int32 → Int32 → Int32 → Option (Int32 × (DS))) (hk24 : ∀ (u' : DS) (x2' : Int32) (x3' : Int32) (x4' : Int32), k24 u' x2' x3' x4' = some (r, o) → Sm p l e rmX11_cold s m args below meth c D A 6 0 0 (smQ below args s D A (some (.int r)) (wD cI cZ cO a o)) 24 [(0, .ref (a 0)), (1, .int x1), (2, .int x2'), (3, .int x3'), (4, .int x4')] [] (wD cI cZ cO a u')) (n : Nat) (u : DS) (x2 : Int32) (x3 : Int32) (x4 : Int32) (x5 : Int32) (hf : f_X11_cold_41 x1 k24 n u x2 x3 x4 x5 = some (r, o)) : Sm p l e rmX11_cold s m args below meth c D A 6 0 0 (smQ below args s D A (some (.int r)) (wD cI cZ cO a o)) 41 [(0, .ref (a 0)), (1, .int x1), (2, .int x2), (3, .int x3), (4, .int x4), (5, .int x5)] [] (wD cI cZ cO a u) :=
  lq5_ind (P := fun (u : DS) (x2 : Int32) (x3 : Int32) (x4 : Int32) (x5 : Int32) => Sm p l e rmX11_cold s m args below meth c D A 6 0 0 (smQ below args s D A (some (.int r)) (wD cI cZ cO a o)) 41 [(0, .ref (a 0)), (1, .int x1), (2, .int x2), (3, .int x3), (4, .int x4), (5, .int x5)] [] (wD cI cZ cO a u)) (fun k41 hk41 u x2 x3 x4 x5 h9 => s_X11_cold_41_b F x1 k24 hk24 k41 hk41 u x2 x3 x4 x5 h9) n u x2 x3 x4 x5 hf
set_option maxRecDepth 100000 in
set_option maxHeartbeats 4000000 in
theorem s_X11_cold_24_b {p : Program} {l : Launch} {e : Env} {s : State} {m : MethodId} {args : Array Value} {below : List Frame} {meth : Method} {c : Code} {A : Nat → Prop} {D : va_G} {cI cZ cO : ClassId} {a : Nat → Nat} {r : Int32} {o : DS} (F : smF p s m args meth c cX11_cold 6 (some .int) RX11 D (tyL cI cZ cO) A) (x1 : Int32) (k24 : DS → Int32 → Int32 → Int32 → Option (Int32 × (DS))) (hk24 : ∀ (u' : DS) (x2' : Int32) (x3' : Int32) (x4' : Int32), k24 u' x2' x3' x4' = some (r, o) → Sm p l e rmX11_cold s m args below meth c D A 6 0 0 (smQ below args s D A (some (.int r)) (wD cI cZ cO a o)) 24 [(0, .ref (a 0)), (1, .int x1), (2, .int x2'), (3, .int x3'), (4, .int x4')] [] (wD cI cZ cO a u')) (u : DS) (x2 : Int32) (x3 : Int32) (x4 : Int32) (hf : b_X11_cold_24 x1  k24 u x2 x3 x4 = some (r, o)) : Sm p l e rmX11_cold s m args below meth c D A 6 0 0 (smQ below args s D A (some (.int r)) (wD cI cZ cO a o)) 24 [(0, .ref (a 0)), (1, .int x1), (2, .int x2), (3, .int x3), (4, .int x4)] [] (wD cI cZ cO a u) := by
  unfold b_X11_cold_24 at hf
  refine sm_iload F dX11_cold_24 4 rfl ?_
  refine sm_aload_n F dX11_cold_26 rfl 0 rfl ?_
  refine sm_get (v := .ref (a 1)) F inX11 0 rfl rfl 0 (by decide) qw5_15 rfl rfl dX11_cold_27 ?_
  refine sm_iconst F dX11_cold_30 kc_i_0 ?_
  obtain ⟨h31, hf⟩ := ck_some hf
  refine sm_iald F 1 0 rfl rfl h31 dX11_cold_31 ?_
  refine sm_icmp_ge (tgt := 139) F dX11_cold_32 (by decide) (fun c32 => ?_) (fun c32 => ?_)
  · replace hf := if_t c32 hf
    refine sm_iload_n F dX11_cold_139 rfl 1 rfl ?_
    refine sm_if_ne (tgt := 147) F dX11_cold_140 (by decide) (fun c140 => ?_) (fun c140 => ?_)
    · replace hf := if_f c140 hf
      refine sm_iload_n F dX11_cold_147 rfl 3 rfl ?_
      exact sm_iret F dX11_cold_148 (Prod.mk.inj (Option.some.inj hf)).1 (congrArg (fun z => (wD cI cZ cO a z)) (Prod.mk.inj (Option.some.inj hf)).2)
    · replace hf := if_t c140 hf
      refine sm_iload_n F dX11_cold_143 rfl 2 rfl ?_
      refine sm_goto (tgt := 148) F dX11_cold_144 (by decide) ?_
      exact sm_iret F dX11_cold_148 (Prod.mk.inj (Option.some.inj hf)).1 (congrArg (fun z => (wD cI cZ cO a z)) (Prod.mk.inj (Option.some.inj hf)).2)
  · replace hf := if_f c32 hf
    refine sm_iload F dX11_cold_35 4 rfl ?_
    refine sm_iconst F dX11_cold_37 kc_i_1 ?_
    refine sm_iadd F dX11_cold_38 ?_
    refine sm_istore F [(0, .ref (a 0)), (1, .int x1), (2, .int x2), (3, .int x3), (4, .int x4), (5, .int (x4 + (1 : Int32)))] [1, 2, 3, 4, 5, 0] dX11_cold_39 (by decide) rfl ?_
    exact s_X11_cold_41 F x1 k24 hk24 smN u x2 x3 x4 (x4 + (1 : Int32)) hf
set_option maxRecDepth 100000 in
set_option maxHeartbeats 4000000 in
theorem s_X11_cold_24 {p : Program} {l : Launch} {e : Env} {s : State} {m : MethodId} {args : Array Value} {below : List Frame} {meth : Method} {c : Code} {A : Nat → Prop} {D : va_G} {cI cZ cO : ClassId} {a : Nat → Nat} {r : Int32} {o : DS} (F : smF p s m args meth c cX11_cold 6 (some .int) RX11 D (tyL cI cZ cO) A) (x1 : Int32)  (n : Nat) (u : DS) (x2 : Int32) (x3 : Int32) (x4 : Int32) (hf : f_X11_cold_24 x1  n u x2 x3 x4 = some (r, o)) : Sm p l e rmX11_cold s m args below meth c D A 6 0 0 (smQ below args s D A (some (.int r)) (wD cI cZ cO a o)) 24 [(0, .ref (a 0)), (1, .int x1), (2, .int x2), (3, .int x3), (4, .int x4)] [] (wD cI cZ cO a u) :=
  lq4_ind (P := fun (u : DS) (x2 : Int32) (x3 : Int32) (x4 : Int32) => Sm p l e rmX11_cold s m args below meth c D A 6 0 0 (smQ below args s D A (some (.int r)) (wD cI cZ cO a o)) 24 [(0, .ref (a 0)), (1, .int x1), (2, .int x2), (3, .int x3), (4, .int x4)] [] (wD cI cZ cO a u)) (fun k24 hk24 u x2 x3 x4 h9 => s_X11_cold_24_b F x1  k24 hk24 u x2 x3 x4 h9) n u x2 x3 x4 hf
set_option maxRecDepth 100000 in
set_option maxHeartbeats 4000000 in
theorem ct_X11_cold (l : Launch) (D : va_G) (cI cZ cO : ClassId) (a : Nat → Nat) {u : DS} {x1 : Int32} {r : Int32} {o : DS} (hf : f_X11_cold u x1 = some (r, o)) : Ct l yX11_cold (uw (Cond.code yX11_cold cX11_cold 6 (some .int))) rmX11_cold D (tyL cI cZ cO) E0 [.ref (a 0), .int x1] (wD cI cZ cO a u) (some (.int r)) (wD cI cZ cO a o) := by
  refine sm_start (cc := cX11_cold) (maxL := 6) (ret := (some .int)) (own := RX11) (by decide) rfl rfl (Nat.le_of_ble_eq_true rfl) (lv := [(0, .ref (a 0)), (1, .int x1)]) rfl ?_
  intro p e s m below meth c A F hE hA
  unfold f_X11_cold at hf
  refine sm_iload_n F dX11_cold_0 rfl 1 rfl ?_
  refine sm_iconst F dX11_cold_1 kc_i_0 ?_
  refine sm_iconst F dX11_cold_2 kc_i_1 ?_
  obtain ⟨z3, hz3, hf⟩ := bd_some hf
  refine sm_callS (rest := []) F (ct_X11_isIn l D (tyL cI cZ cO) hz3) (cut_D_none cI cZ cO a u) rfl rfl rfl qw5_86 qw5_87 qw1_12 qw5_88 hsX11_isIn ⟨Nat.le_of_ble_eq_true rfl, Nat.le_of_ble_eq_true rfl⟩ ⟨Nat.zero_le _, Nat.zero_le _⟩ rfl (Nat.le_of_ble_eq_true rfl) E0_b (fun _ _ _ _ _ _ => trivial) rfl dX11_cold_3 [.int z3] rfl ?_
  refine sm_if_ne (tgt := 16) F dX11_cold_6 (by decide) (fun c6 => ?_) (fun c6 => ?_)
  · replace hf := if_f c6 hf
    refine sm_iconst F dX11_cold_16 kc_i_0 ?_
    refine sm_istore_n F [(0, .ref (a 0)), (1, .int x1), (2, .int (0 : Int32))] [1, 2, 0] dX11_cold_17 rfl (by decide) rfl ?_
    refine sm_bipush F dX11_cold_18 kc_b_m9 ?_
    refine sm_istore_n F [(0, .ref (a 0)), (1, .int x1), (2, .int (0 : Int32)), (3, .int ((-9) : Int32))] [1, 2, 3, 0] dX11_cold_20 rfl (by decide) rfl ?_
    refine sm_iconst F dX11_cold_21 kc_i_0 ?_
    refine sm_istore F [(0, .ref (a 0)), (1, .int x1), (2, .int (0 : Int32)), (3, .int ((-9) : Int32)), (4, .int (0 : Int32))] [1, 2, 3, 4, 0] dX11_cold_22 (by decide) rfl ?_
    exact s_X11_cold_24 F x1 smN u (0 : Int32) ((-9) : Int32) (0 : Int32) hf
  · replace hf := if_t c6 hf
    refine sm_aload_n F dX11_cold_9 rfl 0 rfl ?_
    refine sm_bipush F dX11_cold_10 kc_b_m2 ?_
    obtain ⟨z12, hz12, hf⟩ := bd_some hf
    refine sm_callV (rest := []) F (ct_X11_no l D cI cZ cO a hz12) (cut_D_id cI cZ cO a u z12.2) rfl rfl rfl qw5_59 qw5_61 qw0_29 qw1_12 qw5_62 hvX11_no ⟨Nat.le_of_ble_eq_true rfl, Nat.le_of_ble_eq_true rfl⟩ ⟨Nat.zero_le _, Nat.zero_le _⟩ 0 11 rfl rfl rfl rfl (Nat.le_of_ble_eq_true rfl) E0_b (fun _ _ _ _ _ _ => trivial) rfl dX11_cold_12 [.int z12.1] rfl ?_
    exact sm_iret F dX11_cold_15 (Prod.mk.inj (Option.some.inj hf)).1 (congrArg (fun z => (wD cI cZ cO a z)) (Prod.mk.inj (Option.some.inj hf)).2)
/-! SoManyForgottenModel.envy(I)I -/
abbrev rmX11_envy : Room := { frames := 3, cells := 0, slots := 0, locals := 64 }
set_option maxRecDepth 100000 in
theorem hvX11_envy : yX11_envy.cls = RX11 ∧ yX11_envy.cls ≠ "java/lang/invoke/MethodHandle" ∧ yX11_envy.cls ≠ "java/lang/invoke/VarHandle" ∧ (parseMethodDescriptor yX11_envy.desc).map (fun d => d.parameters.length) = some 1 := by decide +kernel
set_option maxRecDepth 100000 in
set_option maxHeartbeats 4000000 in
theorem s_X11_envy_22_b {p : Program} {l : Launch} {e : Env} {s : State} {m : MethodId} {args : Array Value} {below : List Frame} {meth : Method} {c : Code} {A : Nat → Prop} {D : va_G} {cI cZ cO : ClassId} {a : Nat → Nat} {r : Int32} {o : DS} (F : smF p s m args meth c cX11_envy 5 (some .int) RX11 D (tyL cI cZ cO) A) (x1 : Int32) (k22 : DS → Int32 → Int32 → Option (Int32 × (DS))) (hk22 : ∀ (u' : DS) (x3' : Int32) (x4' : Int32), k22 u' x3' x4' = some (r, o) → Sm p l e rmX11_envy s m args below meth c D A 5 0 0 (smQ below args s D A (some (.int r)) (wD cI cZ cO a o)) 22 [(0, .ref (a 0)), (1, .int x1), (3, .int x3'), (4, .int x4')] [] (wD cI cZ cO a u')) (u : DS) (x3 : Int32) (x4 : Int32) (hf : b_X11_envy_22 x1  k22 u x3 x4 = some (r, o)) : Sm p l e rmX11_envy s m args below meth c D A 5 0 0 (smQ below args s D A (some (.int r)) (wD cI cZ cO a o)) 22 [(0, .ref (a 0)), (1, .int x1), (3, .int x3), (4, .int x4)] [] (wD cI cZ cO a u) := by
  unfold b_X11_envy_22 at hf
  refine sm_iload F dX11_envy_22 3 rfl ?_
  refine sm_aload_n F dX11_envy_24 rfl 0 rfl ?_
  refine sm_get (v := .ref (a 1)) F inX11 0 rfl rfl 0 (by decide) qw5_15 rfl rfl dX11_envy_25 ?_
  refine sm_iconst F dX11_envy_28 kc_i_0 ?_
  obtain ⟨h29, hf⟩ := ck_some hf
  refine sm_iald F 1 0 rfl rfl h29 dX11_envy_29 ?_
  refine sm_icmp_ge (tgt := 88) F dX11_envy_30 (by decide) (fun c30 => ?_) (fun c30 => ?_)
  · replace hf := if_t c30 hf
    refine sm_iload_n F dX11_envy_88 rfl 2 rfl ?_
    exact sm_iret F dX11_envy_89 (Prod.mk.inj (Option.some.inj hf)).1 (congrArg (fun z => (wD cI cZ cO a z)) (Prod.mk.inj (Option.some.inj hf)).2)
  · replace hf := if_f c30 hf
    refine sm_iload F dX11_envy_33 3 rfl ?_
    refine sm_iload_n F dX11_envy_35 rfl 1 rfl ?_
    refine sm_icmp_eq (tgt := 82) F dX11_envy_36 (by decide) (fun c36 => ?_) (fun c36 => ?_)
    · replace hf := if_t c36 hf
      refine sm_iinc F [(0, .ref (a 0)), (1, .int x1), (3, .int x3), (4, .int (x4 + 1))] 3 [1, 2, 3, 0] dX11_envy_82 rfl kc_i_1 (by decide) rfl ?_
      refine sm_goto (tgt := 22) F dX11_envy_85 (by decide) ?_
      exact hk22 u x3 (x4 + 1) hf
    · replace hf := if_f c36 hf
      refine sm_aload_n F dX11_envy_39 rfl 0 rfl ?_
      refine sm_get (v := .ref (a 1)) F inX11 0 rfl rfl 0 (by decide) qw5_15 rfl rfl dX11_envy_40 ?_
      refine sm_iload F dX11_envy_43 3 rfl ?_
      obtain ⟨z45, hz45, hf⟩ := bd_some hf
      refine sm_callS (rest := []) F (ct_X11_isHere l D cI cZ cO (fun i => a (pm_D_i1 i)) hz45) (cut_D_i1_ro cI cZ cO a u) rfl rfl rfl qw5_114 qw5_115 qw1_12 qw5_116 hsX11_isHere ⟨Nat.le_of_ble_eq_true rfl, Nat.le_of_ble_eq_true rfl⟩ ⟨Nat.zero_le _, Nat.zero_le _⟩ rfl (Nat.le_of_ble_eq_true rfl) E0_b (fun _ _ _ _ _ _ => trivial) rfl dX11_envy_45 [.int z45] rfl ?_
      refine sm_if_eq (tgt := 82) F dX11_envy_48 (by decide) (fun c48 => ?_) (fun c48 => ?_)
      · replace hf := if_t c48 hf
        refine sm_iinc F [(0, .ref (a 0)), (1, .int x1), (3, .int x3), (4, .int (x4 + 1))] 3 [1, 2, 3, 0] dX11_envy_82 rfl kc_i_1 (by decide) rfl ?_
        refine sm_goto (tgt := 22) F dX11_envy_85 (by decide) ?_
        exact hk22 u x3 (x4 + 1) hf
      · replace hf := if_f c48 hf
        refine sm_iload_n F dX11_envy_51 rfl 2 rfl ?_
        refine sm_if_lt (tgt := 79) F dX11_envy_52 (by decide) (fun c52 => ?_) (fun c52 => ?_)
        · replace hf := if_t c52 hf
          refine sm_iload F dX11_envy_79 3 rfl ?_
          refine sm_istore_n F [(0, .ref (a 0)), (1, .int x1), (3, .int x4), (4, .int x4)] [1, 2, 0, 3] dX11_envy_81 rfl (by decide) rfl ?_
          refine sm_iinc F [(0, .ref (a 0)), (1, .int x1), (3, .int x4), (4, .int (x4 + 1))] 3 [1, 2, 3, 0] dX11_envy_82 rfl kc_i_1 (by decide) rfl ?_
          refine sm_goto (tgt := 22) F dX11_envy_85 (by decide) ?_
          exact hk22 u x4 (x4 + 1) hf
        · replace hf := if_f c52 hf
          refine sm_aload_n F dX11_envy_55 rfl 0 rfl ?_
          refine sm_get (v := .ref (a 1)) F inX11 0 rfl rfl 0 (by decide) qw5_15 rfl rfl dX11_envy_56 ?_
          refine sm_iload_n F dX11_envy_59 rfl 1 rfl ?_
          refine sm_iload F dX11_envy_60 3 rfl ?_
          obtain ⟨z62, hz62, hf⟩ := bd_some hf
          refine sm_callS (rest := [.ref (a 1)]) F (ct_X11_by l D (tyL cI cZ cO) hz62) (cut_D_none cI cZ cO a u) rfl rfl rfl qw5_103 qw5_104 qw1_12 qw5_105 hsX11_by ⟨Nat.le_of_ble_eq_true rfl, Nat.le_of_ble_eq_true rfl⟩ ⟨Nat.zero_le _, Nat.zero_le _⟩ rfl (Nat.le_of_ble_eq_true rfl) E0_b (fun _ _ _ _ _ _ => trivial) rfl dX11_envy_62 [.int z62, .ref (a 1)] rfl ?_
          obtain ⟨h65, hf⟩ := ck_some hf
          refine sm_iald F 1 0 rfl rfl h65 dX11_envy_65 ?_
          refine sm_aload_n F dX11_envy_66 rfl 0 rfl ?_
          refine sm_get (v := .ref (a 1)) F inX11 0 rfl rfl 0 (by decide) qw5_15 rfl rfl dX11_envy_67 ?_
          refine sm_iload_n F dX11_envy_70 rfl 1 rfl ?_
          refine sm_iload_n F dX11_envy_71 rfl 2 rfl ?_
          obtain ⟨z72, hz72, hf⟩ := bd_some hf
          refine sm_callS (rest := [.ref (a 1), .int ((gD_s u) (Int32.toNatClampNeg z62))]) F (ct_X11_by l D (tyL cI cZ cO) hz72) (cut_D_none cI cZ cO a u) rfl rfl rfl qw5_103 qw5_104 qw1_12 qw5_105 hsX11_by ⟨Nat.le_of_ble_eq_true rfl, Nat.le_of_ble_eq_true rfl⟩ ⟨Nat.zero_le _, Nat.zero_le _⟩ rfl (Nat.le_of_ble_eq_true rfl) E0_b (fun _ _ _ _ _ _ => trivial) rfl dX11_envy_72 [.int z72, .ref (a 1), .int ((gD_s u) (Int32.toNatClampNeg z62))] rfl ?_
          obtain ⟨h75, hf⟩ := ck_some hf
          refine sm_iald F 1 0 rfl rfl h75 dX11_envy_75 ?_
          refine sm_icmp_ge (tgt := 82) F dX11_envy_76 (by decide) (fun c76 => ?_) (fun c76 => ?_)
          · replace hf := if_t c76 hf
            refine sm_iinc F [(0, .ref (a 0)), (1, .int x1), (3, .int x3), (4, .int (x4 + 1))] 3 [1, 2, 3, 0] dX11_envy_82 rfl kc_i_1 (by decide) rfl ?_
            refine sm_goto (tgt := 22) F dX11_envy_85 (by decide) ?_
            exact hk22 u x3 (x4 + 1) hf
          · replace hf := if_f c76 hf
            refine sm_iload F dX11_envy_79 3 rfl ?_
            refine sm_istore_n F [(0, .ref (a 0)), (1, .int x1), (3, .int x4), (4, .int x4)] [1, 2, 0, 3] dX11_envy_81 rfl (by decide) rfl ?_
            refine sm_iinc F [(0, .ref (a 0)), (1, .int x1), (3, .int x4), (4, .int (x4 + 1))] 3 [1, 2, 3, 0] dX11_envy_82 rfl kc_i_1 (by decide) rfl ?_
            refine sm_goto (tgt := 22) F dX11_envy_85 (by decide) ?_
            exact hk22 u x4 (x4 + 1) hf
set_option maxRecDepth 100000 in
set_option maxHeartbeats 4000000 in
theorem s_X11_envy_22 {p : Program} {l : Launch} {e : Env} {s : State} {m : MethodId} {args : Array Value} {below : List Frame} {meth : Method} {c : Code} {A : Nat → Prop} {D : va_G} {cI cZ cO : ClassId} {a : Nat → Nat} {r : Int32} {o : DS} (F : smF p s m args meth c cX11_envy 5 (some .int) RX11 D (tyL cI cZ cO) A) (x1 : Int32)  (n : Nat) (u : DS) (x3 : Int32) (x4 : Int32) (hf : f_X11_envy_22 x1  n u x3 x4 = some (r, o)) : Sm p l e rmX11_envy s m args below meth c D A 5 0 0 (smQ below args s D A (some (.int r)) (wD cI cZ cO a o)) 22 [(0, .ref (a 0)), (1, .int x1), (3, .int x3), (4, .int x4)] [] (wD cI cZ cO a u) :=
  lq3_ind (P := fun (u : DS) (x3 : Int32) (x4 : Int32) => Sm p l e rmX11_envy s m args below meth c D A 5 0 0 (smQ below args s D A (some (.int r)) (wD cI cZ cO a o)) 22 [(0, .ref (a 0)), (1, .int x1), (3, .int x3), (4, .int x4)] [] (wD cI cZ cO a u)) (fun k22 hk22 u x3 x4 h9 => s_X11_envy_22_b F x1  k22 hk22 u x3 x4 h9) n u x3 x4 hf
set_option maxRecDepth 100000 in
set_option maxHeartbeats 4000000 in
theorem ct_X11_envy (l : Launch) (D : va_G) (cI cZ cO : ClassId) (a : Nat → Nat) {u : DS} {x1 : Int32} {r : Int32} {o : DS} (hf : f_X11_envy u x1 = some (r, o)) : Ct l yX11_envy (uw (Cond.code yX11_envy cX11_envy 5 (some .int))) rmX11_envy D (tyL cI cZ cO) E0 [.ref (a 0), .int x1] (wD cI cZ cO a u) (some (.int r)) (wD cI cZ cO a o) := by
  refine sm_start (cc := cX11_envy) (maxL := 5) (ret := (some .int)) (own := RX11) (by decide) rfl rfl (Nat.le_of_ble_eq_true rfl) (lv := [(0, .ref (a 0)), (1, .int x1)]) rfl ?_
  intro p e s m below meth c A F hE hA
  unfold f_X11_envy at hf
  refine sm_aload_n F dX11_envy_0 rfl 0 rfl ?_
  refine sm_iload_n F dX11_envy_1 rfl 1 rfl ?_
  obtain ⟨z2, hz2, hf⟩ := bd_some hf
  refine sm_callV (rest := []) F (ct_X11_wrongOne l D cI cZ cO a hz2) (cut_D_id cI cZ cO a u u) rfl rfl rfl qw5_237 qw5_239 qw0_42 qw1_12 qw6_0 hvX11_wrongOne ⟨Nat.le_of_ble_eq_true rfl, Nat.le_of_ble_eq_true rfl⟩ ⟨Nat.zero_le _, Nat.zero_le _⟩ 0 11 rfl rfl rfl rfl (Nat.le_of_ble_eq_true rfl) E0_b (fun _ _ _ _ _ _ => trivial) rfl dX11_envy_2 [.int z2] rfl ?_
  refine sm_istore_n F [(0, .ref (a 0)), (1, .int x1), (2, .int z2)] [1, 2, 0] dX11_envy_5 rfl (by decide) rfl ?_
  refine sm_iload_n F dX11_envy_6 rfl 2 rfl ?_
  refine sm_if_eq (tgt := 16) F dX11_envy_7 (by decide) (fun c7 => ?_) (fun c7 => ?_)
  · replace hf := if_t c7 hf
    refine sm_bipush F dX11_envy_16 kc_b_m9 ?_
    refine sm_istore_n F [(0, .ref (a 0)), (1, .int x1), (3, .int ((-9) : Int32))] [1, 2, 0] dX11_envy_18 rfl (by decide) rfl ?_
    refine sm_iconst F dX11_envy_19 kc_i_0 ?_
    refine sm_istore F [(0, .ref (a 0)), (1, .int x1), (3, .int ((-9) : Int32)), (4, .int (0 : Int32))] [1, 2, 3, 0] dX11_envy_20 (by decide) rfl ?_
    exact s_X11_envy_22 F x1 smN u ((-9) : Int32) (0 : Int32) hf
  · replace hf := if_f c7 hf
    refine sm_aload_n F dX11_envy_10 rfl 0 rfl ?_
    refine sm_iload_n F dX11_envy_11 rfl 2 rfl ?_
    obtain ⟨z12, hz12, hf⟩ := bd_some hf
    refine sm_callV (rest := []) F (ct_X11_no l D cI cZ cO a hz12) (cut_D_id cI cZ cO a u z12.2) rfl rfl rfl qw5_59 qw5_61 qw0_29 qw1_12 qw5_62 hvX11_no ⟨Nat.le_of_ble_eq_true rfl, Nat.le_of_ble_eq_true rfl⟩ ⟨Nat.zero_le _, Nat.zero_le _⟩ 0 11 rfl rfl rfl rfl (Nat.le_of_ble_eq_true rfl) E0_b (fun _ _ _ _ _ _ => trivial) rfl dX11_envy_12 [.int z12.1] rfl ?_
    exact sm_iret F dX11_envy_15 (Prod.mk.inj (Option.some.inj hf)).1 (congrArg (fun z => (wD cI cZ cO a z)) (Prod.mk.inj (Option.some.inj hf)).2)
/-! SoManyForgottenModel.power(II)I -/
abbrev rmX11_power : Room := { frames := 5, cells := 0, slots := 0, locals := 110 }
set_option maxRecDepth 100000 in
theorem hvX11_power : yX11_power.cls = RX11 ∧ yX11_power.cls ≠ "java/lang/invoke/MethodHandle" ∧ yX11_power.cls ≠ "java/lang/invoke/VarHandle" ∧ (parseMethodDescriptor yX11_power.desc).map (fun d => d.parameters.length) = some 2 := by decide +kernel
set_option maxRecDepth 100000 in
set_option maxHeartbeats 4000000 in
theorem s_X11_power_108_b {p : Program} {l : Launch} {e : Env} {s : State} {m : MethodId} {args : Array Value} {below : List Frame} {meth : Method} {c : Code} {A : Nat → Prop} {D : va_G} {cI cZ cO : ClassId} {a : Nat → Nat} {r : Int32} {o : DS} (F : smF p s m args meth c cX11_power 6 (some .int) RX11 D (tyL cI cZ cO) A) (x2 : Int32) (k108 : DS → Int32 → Int32 → Option (Int32 × (DS))) (hk108 : ∀ (u' : DS) (x4' : Int32) (x5' : Int32), k108 u' x4' x5' = some (r, o) → Sm p l e rmX11_power s m args below meth c D A 6 0 0 (smQ below args s D A (some (.int r)) (wD cI cZ cO a o)) 108 [(0, .ref (a 0)), (2, .int x2), (4, .int x4'), (5, .int x5')] [] (wD cI cZ cO a u')) (u : DS) (x4 : Int32) (x5 : Int32) (hf : b_X11_power_108 x2  k108 u x4 x5 = some (r, o)) : Sm p l e rmX11_power s m args below meth c D A 6 0 0 (smQ below args s D A (some (.int r)) (wD cI cZ cO a o)) 108 [(0, .ref (a 0)), (2, .int x2), (4, .int x4), (5, .int x5)] [] (wD cI cZ cO a u) := by
  unfold b_X11_power_108 at hf
  refine sm_iload F dX11_power_108 3 rfl ?_
  refine sm_iload_n F dX11_power_110 rfl 1 rfl ?_
  refine sm_icmp_ge (tgt := 161) F dX11_power_111 (by decide) (fun c111 => ?_) (fun c111 => ?_)
  · replace hf := if_t c111 hf
    refine sm_iload F dX11_power_161 2 rfl ?_
    exact sm_iret F dX11_power_163 (Prod.mk.inj (Option.some.inj hf)).1 (congrArg (fun z => (wD cI cZ cO a z)) (Prod.mk.inj (Option.some.inj hf)).2)
  · replace hf := if_f c111 hf
    refine sm_aload_n F dX11_power_114 rfl 0 rfl ?_
    refine sm_get (v := .ref (a 2)) F inX11 0 rfl rfl 1 (by decide) qw5_16 rfl rfl dX11_power_115 ?_
    obtain ⟨z118, hz118, hf⟩ := bd_some hf
    refine sm_callS (rest := []) F (ct_X11_week l D cI cZ cO (fun i => a (pm_D_i2 i)) hz118) (cut_D_i2 cI cZ cO a u z118) rfl rfl rfl qw5_129 qw5_130 qw1_12 qw5_131 hsX11_week ⟨Nat.le_of_ble_eq_true rfl, Nat.le_of_ble_eq_true rfl⟩ ⟨Nat.zero_le _, Nat.zero_le _⟩ rfl (Nat.le_of_ble_eq_true rfl) E0_b (fun _ _ _ _ _ _ => trivial) rfl dX11_power_118 [] rfl ?_
    refine sm_aload_n F dX11_power_121 rfl 0 rfl ?_
    refine sm_get (v := .ref (a 4)) F inX11 0 rfl rfl 3 (by decide) qw5_18 rfl rfl dX11_power_122 ?_
    obtain ⟨z125, hz125, hf⟩ := bd_some hf
    refine sm_callS (rest := []) F (ct_X11_week l D cI cZ cO (fun i => a (pm_D_i4 i)) hz125) (cut_D_i4 cI cZ cO a (sD_m u z118) z125) rfl rfl rfl qw5_129 qw5_130 qw1_12 qw5_131 hsX11_week ⟨Nat.le_of_ble_eq_true rfl, Nat.le_of_ble_eq_true rfl⟩ ⟨Nat.zero_le _, Nat.zero_le _⟩ rfl (Nat.le_of_ble_eq_true rfl) E0_b (fun _ _ _ _ _ _ => trivial) rfl dX11_power_125 [] rfl ?_
    refine sm_iload F dX11_power_128 2 rfl ?_
    refine sm_aload_n F dX11_power_130 rfl 0 rfl ?_
    refine sm_get (v := .ref (a 2)) F inX11 0 rfl rfl 1 (by decide) qw5_16 rfl rfl dX11_power_131 ?_
    obtain ⟨z134, hz134, hf⟩ := bd_some hf
    refine sm_callS (rest := [.int x4]) F (ct_X11_leastIn l D cI cZ cO (fun i => a (pm_D_i2 i)) hz134) (cut_D_i2_ro cI cZ cO a (sD_was (sD_m u z118) z125)) rfl rfl rfl qw5_135 qw5_136 qw1_12 qw5_137 hsX11_leastIn ⟨Nat.le_of_ble_eq_true rfl, Nat.le_of_ble_eq_true rfl⟩ ⟨Nat.zero_le _, Nat.zero_le _⟩ rfl (Nat.le_of_ble_eq_true rfl) E0_b (fun _ _ _ _ _ _ => trivial) rfl dX11_power_134 [.int z134, .int x4] rfl ?_
    refine sm_aload_n F dX11_power_137 rfl 0 rfl ?_
    refine sm_get (v := .ref (a 4)) F inX11 0 rfl rfl 3 (by decide) qw5_18 rfl rfl dX11_power_138 ?_
    obtain ⟨z141, hz141, hf⟩ := bd_some hf
    refine sm_callS (rest := [.int z134, .int x4]) F (ct_X11_leastIn l D cI cZ cO (fun i => a (pm_D_i4 i)) hz141) (cut_D_i4_ro cI cZ cO a (sD_was (sD_m u z118) z125)) rfl rfl rfl qw5_135 qw5_136 qw1_12 qw5_137 hsX11_leastIn ⟨Nat.le_of_ble_eq_true rfl, Nat.le_of_ble_eq_true rfl⟩ ⟨Nat.zero_le _, Nat.zero_le _⟩ rfl (Nat.le_of_ble_eq_true rfl) E0_b (fun _ _ _ _ _ _ => trivial) rfl dX11_power_141 [.int z141, .int z134, .int x4] rfl ?_
    refine sm_icmp_ne (tgt := 151) F dX11_power_144 (by decide) (fun c144 => ?_) (fun c144 => ?_)
    · replace hf := if_f c144 hf
      refine sm_iconst F dX11_power_151 kc_i_1 ?_
      refine sm_iadd F dX11_power_152 ?_
      refine sm_istore F [(0, .ref (a 0)), (2, .int x2), (4, .int (x4 + (1 : Int32))), (5, .int x5)] [1, 2, 0, 3] dX11_power_153 (by decide) rfl ?_
      refine sm_iinc F [(0, .ref (a 0)), (2, .int x2), (4, .int (x4 + (1 : Int32))), (5, .int (x5 + 1))] 3 [1, 2, 3, 0] dX11_power_155 rfl kc_i_1 (by decide) rfl ?_
      refine sm_goto (tgt := 108) F dX11_power_158 (by decide) ?_
      exact hk108 (sD_was (sD_m u z118) z125) (x4 + (1 : Int32)) (x5 + 1) hf
    · replace hf := if_t c144 hf
      refine sm_iconst F dX11_power_147 kc_i_0 ?_
      refine sm_goto (tgt := 152) F dX11_power_148 (by decide) ?_
      refine sm_iadd F dX11_power_152 ?_
      refine sm_istore F [(0, .ref (a 0)), (2, .int x2), (4, .int (x4 + (0 : Int32))), (5, .int x5)] [1, 2, 0, 3] dX11_power_153 (by decide) rfl ?_
      refine sm_iinc F [(0, .ref (a 0)), (2, .int x2), (4, .int (x4 + (0 : Int32))), (5, .int (x5 + 1))] 3 [1, 2, 3, 0] dX11_power_155 rfl kc_i_1 (by decide) rfl ?_
      refine sm_goto (tgt := 108) F dX11_power_158 (by decide) ?_
      exact hk108 (sD_was (sD_m u z118) z125) (x4 + (0 : Int32)) (x5 + 1) hf
set_option maxRecDepth 100000 in
set_option maxHeartbeats 4000000 in
theorem s_X11_power_108 {p : Program} {l : Launch} {e : Env} {s : State} {m : MethodId} {args : Array Value} {below : List Frame} {meth : Method} {c : Code} {A : Nat → Prop} {D : va_G} {cI cZ cO : ClassId} {a : Nat → Nat} {r : Int32} {o : DS} (F : smF p s m args meth c cX11_power 6 (some .int) RX11 D (tyL cI cZ cO) A) (x2 : Int32)  (n : Nat) (u : DS) (x4 : Int32) (x5 : Int32) (hf : f_X11_power_108 x2  n u x4 x5 = some (r, o)) : Sm p l e rmX11_power s m args below meth c D A 6 0 0 (smQ below args s D A (some (.int r)) (wD cI cZ cO a o)) 108 [(0, .ref (a 0)), (2, .int x2), (4, .int x4), (5, .int x5)] [] (wD cI cZ cO a u) :=
  lq3_ind (P := fun (u : DS) (x4 : Int32) (x5 : Int32) => Sm p l e rmX11_power s m args below meth c D A 6 0 0 (smQ below args s D A (some (.int r)) (wD cI cZ cO a o)) 108 [(0, .ref (a 0)), (2, .int x2), (4, .int x4), (5, .int x5)] [] (wD cI cZ cO a u)) (fun k108 hk108 u x4 x5 h9 => s_X11_power_108_b F x2  k108 hk108 u x4 x5 h9) n u x4 x5 hf
set_option maxRecDepth 100000 in
set_option maxHeartbeats 4000000 in
theorem s_X11_power_73_b {p : Program} {l : Launch} {e : Env} {s : State} {m : MethodId} {args : Array Value} {below : List Frame} {meth : Method} {c : Code} {A : Nat → Prop} {D : va_G} {cI cZ cO : ClassId} {a : Nat → Nat} {r : Int32} {o : DS} (F : smF p s m args meth c cX11_power 6 (some .int) RX11 D (tyL cI cZ cO) A) (x1 : Int32) (x2 : Int32) (k73 : DS → Int32 → Option (Int32 × (DS))) (hk73 : ∀ (u' : DS) (x4' : Int32), k73 u' x4' = some (r, o) → Sm p l e rmX11_power s m args below meth c D A 6 0 0 (smQ below args s D A (some (.int r)) (wD cI cZ cO a o)) 73 [(0, .ref (a 0)), (1, .int x1), (2, .int x2), (4, .int x4')] [] (wD cI cZ cO a u')) (u : DS) (x4 : Int32) (hf : b_X11_power_73 x1 x2  k73 u x4 = some (r, o)) : Sm p l e rmX11_power s m args below meth c D A 6 0 0 (smQ below args s D A (some (.int r)) (wD cI cZ cO a o)) 73 [(0, .ref (a 0)), (1, .int x1), (2, .int x2), (4, .int x4)] [] (wD cI cZ cO a u) := by
  unfold b_X11_power_73 at hf
  refine sm_iload F dX11_power_73 3 rfl ?_
  refine sm_aload_n F dX11_power_75 rfl 0 rfl ?_
  refine sm_get (v := .ref (a 1)) F inX11 0 rfl rfl 0 (by decide) qw5_15 rfl rfl dX11_power_76 ?_
  refine sm_iconst F dX11_power_79 kc_i_0 ?_
  obtain ⟨h80, hf⟩ := ck_some hf
  refine sm_iald F 1 0 rfl rfl h80 dX11_power_80 ?_
  refine sm_icmp_ge (tgt := 102) F dX11_power_81 (by decide) (fun c81 => ?_) (fun c81 => ?_)
  · replace hf := if_t c81 hf
    refine sm_iconst F dX11_power_102 kc_i_0 ?_
    refine sm_istore F [(0, .ref (a 0)), (2, .int x2), (4, .int (0 : Int32))] [1, 3, 0] dX11_power_103 (by decide) rfl ?_
    refine sm_iconst F dX11_power_105 kc_i_0 ?_
    refine sm_istore F [(0, .ref (a 0)), (2, .int x2), (4, .int (0 : Int32)), (5, .int (0 : Int32))] [1, 2, 3, 0] dX11_power_106 (by decide) rfl ?_
    exact s_X11_power_108 F x2 smN u (0 : Int32) (0 : Int32) hf
  · replace hf := if_f c81 hf
    refine sm_aload_n F dX11_power_84 rfl 0 rfl ?_
    refine sm_get (v := .ref (a 4)) F inX11 0 rfl rfl 3 (by decide) qw5_18 rfl rfl dX11_power_85 ?_
    refine sm_iload_n F dX11_power_88 rfl 1 rfl ?_
    refine sm_iload F dX11_power_89 3 rfl ?_
    obtain ⟨z91, hz91, hf⟩ := bd_some hf
    refine sm_callS (rest := [.ref (a 4)]) F (ct_X11_by l D (tyL cI cZ cO) hz91) (cut_D_none cI cZ cO a u) rfl rfl rfl qw5_103 qw5_104 qw1_12 qw5_105 hsX11_by ⟨Nat.le_of_ble_eq_true rfl, Nat.le_of_ble_eq_true rfl⟩ ⟨Nat.zero_le _, Nat.zero_le _⟩ rfl (Nat.le_of_ble_eq_true rfl) E0_b (fun _ _ _ _ _ _ => trivial) rfl dX11_power_91 [.int z91, .ref (a 4)] rfl ?_
    refine sm_iconst F dX11_power_94 kc_i_0 ?_
    obtain ⟨h95, hf⟩ := ck_some hf
    refine sm_iast F 4 0 rfl rfl h95 (wD cI cZ cO a (sD_was u (upd (gD_was u) (Int32.toNatClampNeg z91) (0 : Int32)))) rfl dX11_power_95 ?_
    refine sm_iinc F [(0, .ref (a 0)), (1, .int x1), (2, .int x2), (4, .int (x4 + 1))] 3 [1, 2, 3, 0] dX11_power_96 rfl kc_i_1 (by decide) rfl ?_
    refine sm_goto (tgt := 73) F dX11_power_99 (by decide) ?_
    exact hk73 (sD_was u (upd (gD_was u) (Int32.toNatClampNeg z91) (0 : Int32))) (x4 + 1) hf
set_option maxRecDepth 100000 in
set_option maxHeartbeats 4000000 in
theorem s_X11_power_73 {p : Program} {l : Launch} {e : Env} {s : State} {m : MethodId} {args : Array Value} {below : List Frame} {meth : Method} {c : Code} {A : Nat → Prop} {D : va_G} {cI cZ cO : ClassId} {a : Nat → Nat} {r : Int32} {o : DS} (F : smF p s m args meth c cX11_power 6 (some .int) RX11 D (tyL cI cZ cO) A) (x1 : Int32) (x2 : Int32)  (n : Nat) (u : DS) (x4 : Int32) (hf : f_X11_power_73 x1 x2  n u x4 = some (r, o)) : Sm p l e rmX11_power s m args below meth c D A 6 0 0 (smQ below args s D A (some (.int r)) (wD cI cZ cO a o)) 73 [(0, .ref (a 0)), (1, .int x1), (2, .int x2), (4, .int x4)] [] (wD cI cZ cO a u) :=
  lq2_ind (P := fun (u : DS) (x4 : Int32) => Sm p l e rmX11_power s m args below meth c D A 6 0 0 (smQ below args s D A (some (.int r)) (wD cI cZ cO a o)) 73 [(0, .ref (a 0)), (1, .int x1), (2, .int x2), (4, .int x4)] [] (wD cI cZ cO a u)) (fun k73 hk73 u x4 h9 => s_X11_power_73_b F x1 x2  k73 hk73 u x4 h9) n u x4 hf
set_option maxRecDepth 100000 in
set_option maxHeartbeats 4000000 in
theorem s_X11_power_38 {p : Program} {l : Launch} {e : Env} {s : State} {m : MethodId} {args : Array Value} {below : List Frame} {meth : Method} {c : Code} {A : Nat → Prop} {D : va_G} {cI cZ cO : ClassId} {a : Nat → Nat} {r : Int32} {o : DS} (F : smF p s m args meth c cX11_power 6 (some .int) RX11 D (tyL cI cZ cO) A) (x1 : Int32) (x2 : Int32)  (u : DS) (x3 : Int32) (hf : f_X11_power_38 x1 x2   u x3 = some (r, o)) : Sm p l e rmX11_power s m args below meth c D A 6 0 0 (smQ below args s D A (some (.int r)) (wD cI cZ cO a o)) 38 [(0, .ref (a 0)), (1, .int x1), (2, .int x2), (3, .int x3)] [] (wD cI cZ cO a u) := by
  unfold f_X11_power_38 at hf
  refine sm_iload_n F dX11_power_38 rfl 3 rfl ?_
  refine sm_if_eq (tgt := 48) F dX11_power_39 (by decide) (fun c39 => ?_) (fun c39 => ?_)
  · replace hf := if_t c39 hf
    refine sm_aload_n F dX11_power_48 rfl 0 rfl ?_
    refine sm_get (v := .ref (a 1)) F inX11 0 rfl rfl 0 (by decide) qw5_15 rfl rfl dX11_power_49 ?_
    refine sm_aload_n F dX11_power_52 rfl 0 rfl ?_
    refine sm_get (v := .ref (a 2)) F inX11 0 rfl rfl 1 (by decide) qw5_16 rfl rfl dX11_power_53 ?_
    obtain ⟨z56, hz56, hf⟩ := bd_some hf
    refine sm_callS (rest := []) F (ct_X11_copies l D cI cZ cO (fun i => a (pm_D_ii1_2 i)) hz56) (cut_D_ii1_2 cI cZ cO a u z56) rfl rfl rfl qw5_89 qw5_90 qw1_12 qw5_91 hsX11_copies ⟨Nat.le_of_ble_eq_true rfl, Nat.le_of_ble_eq_true rfl⟩ ⟨Nat.zero_le _, Nat.zero_le _⟩ rfl (Nat.le_of_ble_eq_true rfl) E0_b (fun _ _ _ _ _ _ => trivial) rfl dX11_power_56 [] rfl ?_
    refine sm_aload_n F dX11_power_59 rfl 0 rfl ?_
    refine sm_get (v := .ref (a 1)) F inX11 0 rfl rfl 0 (by decide) qw5_15 rfl rfl dX11_power_60 ?_
    refine sm_aload_n F dX11_power_63 rfl 0 rfl ?_
    refine sm_get (v := .ref (a 4)) F inX11 0 rfl rfl 3 (by decide) qw5_18 rfl rfl dX11_power_64 ?_
    obtain ⟨z67, hz67, hf⟩ := bd_some hf
    refine sm_callS (rest := []) F (ct_X11_copies l D cI cZ cO (fun i => a (pm_D_ii1_4 i)) hz67) (cut_D_ii1_4 cI cZ cO a (sD_m (sD_s u z56.1) z56.2) z67) rfl rfl rfl qw5_89 qw5_90 qw1_12 qw5_91 hsX11_copies ⟨Nat.le_of_ble_eq_true rfl, Nat.le_of_ble_eq_true rfl⟩ ⟨Nat.zero_le _, Nat.zero_le _⟩ rfl (Nat.le_of_ble_eq_true rfl) E0_b (fun _ _ _ _ _ _ => trivial) rfl dX11_power_67 [] rfl ?_
    refine sm_iconst F dX11_power_70 kc_i_0 ?_
    refine sm_istore F [(0, .ref (a 0)), (1, .int x1), (2, .int x2), (4, .int (0 : Int32))] [1, 2, 3, 0] dX11_power_71 (by decide) rfl ?_
    exact s_X11_power_73 F x1 x2 smN (sD_was (sD_s (sD_m (sD_s u z56.1) z56.2) z67.1) z67.2) (0 : Int32) hf
  · replace hf := if_f c39 hf
    refine sm_aload_n F dX11_power_42 rfl 0 rfl ?_
    refine sm_iload_n F dX11_power_43 rfl 3 rfl ?_
    obtain ⟨z44, hz44, hf⟩ := bd_some hf
    refine sm_callV (rest := []) F (ct_X11_no l D cI cZ cO a hz44) (cut_D_id cI cZ cO a u z44.2) rfl rfl rfl qw5_59 qw5_61 qw0_29 qw1_12 qw5_62 hvX11_no ⟨Nat.le_of_ble_eq_true rfl, Nat.le_of_ble_eq_true rfl⟩ ⟨Nat.zero_le _, Nat.zero_le _⟩ 0 11 rfl rfl rfl rfl (Nat.le_of_ble_eq_true rfl) E0_b (fun _ _ _ _ _ _ => trivial) rfl dX11_power_44 [.int z44.1] rfl ?_
    exact sm_iret F dX11_power_47 (Prod.mk.inj (Option.some.inj hf)).1 (congrArg (fun z => (wD cI cZ cO a z)) (Prod.mk.inj (Option.some.inj hf)).2)
set_option maxRecDepth 100000 in
set_option maxHeartbeats 4000000 in
theorem s_X11_power_19 {p : Program} {l : Launch} {e : Env} {s : State} {m : MethodId} {args : Array Value} {below : List Frame} {meth : Method} {c : Code} {A : Nat → Prop} {D : va_G} {cI cZ cO : ClassId} {a : Nat → Nat} {r : Int32} {o : DS} (F : smF p s m args meth c cX11_power 6 (some .int) RX11 D (tyL cI cZ cO) A) (x1 : Int32) (x2 : Int32)  (u : DS) (y0 : Int32) (hf : f_X11_power_19 x1 x2   u y0 = some (r, o)) : Sm p l e rmX11_power s m args below meth c D A 6 0 0 (smQ below args s D A (some (.int r)) (wD cI cZ cO a o)) 19 [(0, .ref (a 0)), (1, .int x1), (2, .int x2)] [.int y0] (wD cI cZ cO a u) := by
  unfold f_X11_power_19 at hf
  refine sm_istore_n F [(0, .ref (a 0)), (1, .int x1), (2, .int x2), (3, .int y0)] [1, 2, 3, 0] dX11_power_19 rfl (by decide) rfl ?_
  refine sm_iload_n F dX11_power_20 rfl 3 rfl ?_
  refine sm_if_ne (tgt := 38) F dX11_power_21 (by decide) (fun c21 => ?_) (fun c21 => ?_)
  · replace hf := if_f c21 hf
    exact s_X11_power_38 F x1 x2 u y0 hf
  · replace hf := if_t c21 hf
    refine sm_aload_n F dX11_power_24 rfl 0 rfl ?_
    refine sm_get (v := .ref (a 1)) F inX11 0 rfl rfl 0 (by decide) qw5_15 rfl rfl dX11_power_25 ?_
    refine sm_iload_n F dX11_power_28 rfl 1 rfl ?_
    obtain ⟨z29, hz29, hf⟩ := bd_some hf
    refine sm_callS (rest := []) F (ct_X11_isHere l D cI cZ cO (fun i => a (pm_D_i1 i)) hz29) (cut_D_i1_ro cI cZ cO a u) rfl rfl rfl qw5_114 qw5_115 qw1_12 qw5_116 hsX11_isHere ⟨Nat.le_of_ble_eq_true rfl, Nat.le_of_ble_eq_true rfl⟩ ⟨Nat.zero_le _, Nat.zero_le _⟩ rfl (Nat.le_of_ble_eq_true rfl) E0_b (fun _ _ _ _ _ _ => trivial) rfl dX11_power_29 [.int z29] rfl ?_
    refine sm_if_ne (tgt := 38) F dX11_power_32 (by decide) (fun c32 => ?_) (fun c32 => ?_)
    · replace hf := if_f c32 hf
      exact s_X11_power_38 F x1 x2 u y0 hf
    · replace hf := if_t c32 hf
      refine sm_bipush F dX11_power_35 kc_b_m3 ?_
      refine sm_istore_n F [(0, .ref (a 0)), (1, .int x1), (2, .int x2), (3, .int ((-3) : Int32))] [1, 2, 3, 0] dX11_power_37 rfl (by decide) rfl ?_
      exact s_X11_power_38 F x1 x2 u ((-3) : Int32) hf
set_option maxRecDepth 100000 in
set_option maxHeartbeats 4000000 in
theorem ct_X11_power (l : Launch) (D : va_G) (cI cZ cO : ClassId) (a : Nat → Nat) {u : DS} {x1 : Int32} {x2 : Int32} {r : Int32} {o : DS} (hf : f_X11_power u x1 x2 = some (r, o)) : Ct l yX11_power (uw (Cond.code yX11_power cX11_power 6 (some .int))) rmX11_power D (tyL cI cZ cO) E0 [.ref (a 0), .int x1, .int x2] (wD cI cZ cO a u) (some (.int r)) (wD cI cZ cO a o) := by
  refine sm_start (cc := cX11_power) (maxL := 6) (ret := (some .int)) (own := RX11) (by decide) rfl rfl (Nat.le_of_ble_eq_true rfl) (lv := [(0, .ref (a 0)), (1, .int x1), (2, .int x2)]) rfl ?_
  intro p e s m below meth c A F hE hA
  unfold f_X11_power at hf
  refine sm_aload_n F dX11_power_0 rfl 0 rfl ?_
  refine sm_iload_n F dX11_power_1 rfl 1 rfl ?_
  obtain ⟨z2, hz2, hf⟩ := bd_some hf
  refine sm_callV (rest := []) F (ct_X11_isOne l D cI cZ cO a hz2) (cut_D_id cI cZ cO a u u) rfl rfl rfl qw5_110 qw5_112 qw0_37 qw1_12 qw5_113 hvX11_isOne ⟨Nat.le_of_ble_eq_true rfl, Nat.le_of_ble_eq_true rfl⟩ ⟨Nat.zero_le _, Nat.zero_le _⟩ 0 11 rfl rfl rfl rfl (Nat.le_of_ble_eq_true rfl) E0_b (fun _ _ _ _ _ _ => trivial) rfl dX11_power_2 [.int z2] rfl ?_
  refine sm_if_eq (tgt := 18) F dX11_power_5 (by decide) (fun c5 => ?_) (fun c5 => ?_)
  · replace hf := if_t c5 hf
    refine sm_iconst F dX11_power_18 kc_i_m1 ?_
    exact s_X11_power_19 F x1 x2 u ((-1) : Int32) hf
  · replace hf := if_f c5 hf
    refine sm_iload_n F dX11_power_8 rfl 2 rfl ?_
    refine sm_iconst F dX11_power_9 kc_i_1 ?_
    refine sm_bipush F dX11_power_10 kc_b_60 ?_
    obtain ⟨z12, hz12, hf⟩ := bd_some hf
    refine sm_callS (rest := []) F (ct_X11_wrongBy l D (tyL cI cZ cO) hz12) (cut_D_none cI cZ cO a u) rfl rfl rfl qw5_159 qw5_160 qw1_12 qw5_161 hsX11_wrongBy ⟨Nat.le_of_ble_eq_true rfl, Nat.le_of_ble_eq_true rfl⟩ ⟨Nat.zero_le _, Nat.zero_le _⟩ rfl (Nat.le_of_ble_eq_true rfl) E0_b (fun _ _ _ _ _ _ => trivial) rfl dX11_power_12 [.int z12] rfl ?_
    refine sm_goto (tgt := 19) F dX11_power_15 (by decide) ?_
    exact s_X11_power_19 F x1 x2 u z12 hf
/-! SoManyForgottenModel.voids(I)I -/
abbrev rmX11_voids : Room := { frames := 7, cells := 0, slots := 0, locals := 153 }
set_option maxRecDepth 100000 in
theorem hvX11_voids : yX11_voids.cls = RX11 ∧ yX11_voids.cls ≠ "java/lang/invoke/MethodHandle" ∧ yX11_voids.cls ≠ "java/lang/invoke/VarHandle" ∧ (parseMethodDescriptor yX11_voids.desc).map (fun d => d.parameters.length) = some 1 := by decide +kernel
set_option maxRecDepth 100000 in
set_option maxHeartbeats 4000000 in
theorem s_X11_voids_28_b {p : Program} {l : Launch} {e : Env} {s : State} {m : MethodId} {args : Array Value} {below : List Frame} {meth : Method} {c : Code} {A : Nat → Prop} {D : va_G} {cI cZ cO : ClassId} {a : Nat → Nat} {r : Int32} {o : DS} (F : smF p s m args meth c cX11_voids 5 (some .int) RX11 D (tyL cI cZ cO) A)  (k28 : DS → Int32 → Int32 → Option (Int32 × (DS))) (hk28 : ∀ (u' : DS) (x3' : Int32) (x4' : Int32), k28 u' x3' x4' = some (r, o) → Sm p l e rmX11_voids s m args below meth c D A 5 0 0 (smQ below args s D A (some (.int r)) (wD cI cZ cO a o)) 28 [(0, .ref (a 0)), (3, .int x3'), (4, .int x4')] [] (wD cI cZ cO a u')) (u : DS) (x3 : Int32) (x4 : Int32) (hf : b_X11_voids_28   k28 u x3 x4 = some (r, o)) : Sm p l e rmX11_voids s m args below meth c D A 5 0 0 (smQ below args s D A (some (.int r)) (wD cI cZ cO a o)) 28 [(0, .ref (a 0)), (3, .int x3), (4, .int x4)] [] (wD cI cZ cO a u) := by
  unfold b_X11_voids_28 at hf
  refine sm_iload F dX11_voids_28 2 rfl ?_
  refine sm_aload_n F dX11_voids_30 rfl 0 rfl ?_
  refine sm_get (v := .ref (a 1)) F inX11 0 rfl rfl 0 (by decide) qw5_15 rfl rfl dX11_voids_31 ?_
  refine sm_iconst F dX11_voids_34 kc_i_0 ?_
  obtain ⟨h35, hf⟩ := ck_some hf
  refine sm_iald F 1 0 rfl rfl h35 dX11_voids_35 ?_
  refine sm_icmp_ge (tgt := 87) F dX11_voids_36 (by decide) (fun c36 => ?_) (fun c36 => ?_)
  · replace hf := if_t c36 hf
    refine sm_iload_n F dX11_voids_87 rfl 1 rfl ?_
    exact sm_iret F dX11_voids_88 (Prod.mk.inj (Option.some.inj hf)).1 (congrArg (fun z => (wD cI cZ cO a z)) (Prod.mk.inj (Option.some.inj hf)).2)
  · replace hf := if_f c36 hf
    refine sm_iload_n F dX11_voids_39 rfl 1 rfl ?_
    refine sm_aload_n F dX11_voids_40 rfl 0 rfl ?_
    refine sm_get (v := .ref (a 1)) F inX11 0 rfl rfl 0 (by decide) qw5_15 rfl rfl dX11_voids_41 ?_
    refine sm_iload F dX11_voids_44 2 rfl ?_
    obtain ⟨z46, hz46, hf⟩ := bd_some hf
    refine sm_callS (rest := [.int x3]) F (ct_X11_isHere l D cI cZ cO (fun i => a (pm_D_i1 i)) hz46) (cut_D_i1_ro cI cZ cO a u) rfl rfl rfl qw5_114 qw5_115 qw1_12 qw5_116 hsX11_isHere ⟨Nat.le_of_ble_eq_true rfl, Nat.le_of_ble_eq_true rfl⟩ ⟨Nat.zero_le _, Nat.zero_le _⟩ rfl (Nat.le_of_ble_eq_true rfl) E0_b (fun _ _ _ _ _ _ => trivial) rfl dX11_voids_46 [.int z46, .int x3] rfl ?_
    refine sm_if_eq (tgt := 78) F dX11_voids_49 (by decide) (fun c49 => ?_) (fun c49 => ?_)
    · replace hf := if_t c49 hf
      refine sm_iconst F dX11_voids_78 kc_i_0 ?_
      refine sm_iadd F dX11_voids_79 ?_
      refine sm_istore_n F [(0, .ref (a 0)), (3, .int (x3 + (0 : Int32))), (4, .int x4)] [1, 0, 2] dX11_voids_80 rfl (by decide) rfl ?_
      refine sm_iinc F [(0, .ref (a 0)), (3, .int (x3 + (0 : Int32))), (4, .int (x4 + 1))] 2 [1, 2, 0] dX11_voids_81 rfl kc_i_1 (by decide) rfl ?_
      refine sm_goto (tgt := 28) F dX11_voids_84 (by decide) ?_
      exact hk28 u (x3 + (0 : Int32)) (x4 + 1) hf
    · replace hf := if_f c49 hf
      refine sm_aload_n F dX11_voids_52 rfl 0 rfl ?_
      refine sm_get (v := .ref (a 2)) F inX11 0 rfl rfl 1 (by decide) qw5_16 rfl rfl dX11_voids_53 ?_
      refine sm_iload F dX11_voids_56 2 rfl ?_
      obtain ⟨z58, hz58, hf⟩ := bd_some hf
      refine sm_callS (rest := [.int x3]) F (ct_X11_isHere l D cI cZ cO (fun i => a (pm_D_i2 i)) hz58) (cut_D_i2_ro cI cZ cO a u) rfl rfl rfl qw5_114 qw5_115 qw1_12 qw5_116 hsX11_isHere ⟨Nat.le_of_ble_eq_true rfl, Nat.le_of_ble_eq_true rfl⟩ ⟨Nat.zero_le _, Nat.zero_le _⟩ rfl (Nat.le_of_ble_eq_true rfl) E0_b (fun _ _ _ _ _ _ => trivial) rfl dX11_voids_58 [.int z58, .int x3] rfl ?_
      refine sm_if_ne (tgt := 78) F dX11_voids_61 (by decide) (fun c61 => ?_) (fun c61 => ?_)
      · replace hf := if_f c61 hf
        refine sm_iconst F dX11_voids_78 kc_i_0 ?_
        refine sm_iadd F dX11_voids_79 ?_
        refine sm_istore_n F [(0, .ref (a 0)), (3, .int (x3 + (0 : Int32))), (4, .int x4)] [1, 0, 2] dX11_voids_80 rfl (by decide) rfl ?_
        refine sm_iinc F [(0, .ref (a 0)), (3, .int (x3 + (0 : Int32))), (4, .int (x4 + 1))] 2 [1, 2, 0] dX11_voids_81 rfl kc_i_1 (by decide) rfl ?_
        refine sm_goto (tgt := 28) F dX11_voids_84 (by decide) ?_
        exact hk28 u (x3 + (0 : Int32)) (x4 + 1) hf
      · replace hf := if_t c61 hf
        refine sm_aload_n F dX11_voids_64 rfl 0 rfl ?_
        refine sm_get (v := .ref (a 1)) F inX11 0 rfl rfl 0 (by decide) qw5_15 rfl rfl dX11_voids_65 ?_
        refine sm_iload F dX11_voids_68 2 rfl ?_
        refine sm_iconst F dX11_voids_70 kc_i_3 ?_
        obtain ⟨z71, hz71, hf⟩ := bd_some hf
        refine sm_callS (rest := [.ref (a 1), .int x3]) F (ct_X11_of l D (tyL cI cZ cO) hz71) (cut_D_none cI cZ cO a u) rfl rfl rfl qw5_100 qw5_101 qw1_12 qw5_102 hsX11_of ⟨Nat.le_of_ble_eq_true rfl, Nat.le_of_ble_eq_true rfl⟩ ⟨Nat.zero_le _, Nat.zero_le _⟩ rfl (Nat.le_of_ble_eq_true rfl) E0_b (fun _ _ _ _ _ _ => trivial) rfl dX11_voids_71 [.int z71, .ref (a 1), .int x3] rfl ?_
        obtain ⟨h74, hf⟩ := ck_some hf
        refine sm_iald F 1 0 rfl rfl h74 dX11_voids_74 ?_
        refine sm_goto (tgt := 79) F dX11_voids_75 (by decide) ?_
        refine sm_iadd F dX11_voids_79 ?_
        refine sm_istore_n F [(0, .ref (a 0)), (3, .int (x3 + ((gD_s u) (Int32.toNatClampNeg z71)))), (4, .int x4)] [1, 0, 2] dX11_voids_80 rfl (by decide) rfl ?_
        refine sm_iinc F [(0, .ref (a 0)), (3, .int (x3 + ((gD_s u) (Int32.toNatClampNeg z71)))), (4, .int (x4 + 1))] 2 [1, 2, 0] dX11_voids_81 rfl kc_i_1 (by decide) rfl ?_
        refine sm_goto (tgt := 28) F dX11_voids_84 (by decide) ?_
        exact hk28 u (x3 + ((gD_s u) (Int32.toNatClampNeg z71))) (x4 + 1) hf
set_option maxRecDepth 100000 in
set_option maxHeartbeats 4000000 in
theorem s_X11_voids_28 {p : Program} {l : Launch} {e : Env} {s : State} {m : MethodId} {args : Array Value} {below : List Frame} {meth : Method} {c : Code} {A : Nat → Prop} {D : va_G} {cI cZ cO : ClassId} {a : Nat → Nat} {r : Int32} {o : DS} (F : smF p s m args meth c cX11_voids 5 (some .int) RX11 D (tyL cI cZ cO) A)   (n : Nat) (u : DS) (x3 : Int32) (x4 : Int32) (hf : f_X11_voids_28   n u x3 x4 = some (r, o)) : Sm p l e rmX11_voids s m args below meth c D A 5 0 0 (smQ below args s D A (some (.int r)) (wD cI cZ cO a o)) 28 [(0, .ref (a 0)), (3, .int x3), (4, .int x4)] [] (wD cI cZ cO a u) :=
  lq3_ind (P := fun (u : DS) (x3 : Int32) (x4 : Int32) => Sm p l e rmX11_voids s m args below meth c D A 5 0 0 (smQ below args s D A (some (.int r)) (wD cI cZ cO a o)) 28 [(0, .ref (a 0)), (3, .int x3), (4, .int x4)] [] (wD cI cZ cO a u)) (fun k28 hk28 u x3 x4 h9 => s_X11_voids_28_b F   k28 hk28 u x3 x4 h9) n u x3 x4 hf
set_option maxRecDepth 100000 in
set_option maxHeartbeats 4000000 in
theorem ct_X11_voids (l : Launch) (D : va_G) (cI cZ cO : ClassId) (a : Nat → Nat) {u : DS} {x1 : Int32} {r : Int32} {o : DS} (hf : f_X11_voids u x1 = some (r, o)) : Ct l yX11_voids (uw (Cond.code yX11_voids cX11_voids 5 (some .int))) rmX11_voids D (tyL cI cZ cO) E0 [.ref (a 0), .int x1] (wD cI cZ cO a u) (some (.int r)) (wD cI cZ cO a o) := by
  refine sm_start (cc := cX11_voids) (maxL := 5) (ret := (some .int)) (own := RX11) (by decide) rfl rfl (Nat.le_of_ble_eq_true rfl) (lv := [(0, .ref (a 0)), (1, .int x1)]) rfl ?_
  intro p e s m below meth c A F hE hA
  unfold f_X11_voids at hf
  refine sm_iload_n F dX11_voids_0 rfl 1 rfl ?_
  refine sm_iconst F dX11_voids_1 kc_i_1 ?_
  refine sm_bipush F dX11_voids_2 kc_b_99 ?_
  obtain ⟨z4, hz4, hf⟩ := bd_some hf
  refine sm_callS (rest := []) F (ct_X11_wrongBy l D (tyL cI cZ cO) hz4) (cut_D_none cI cZ cO a u) rfl rfl rfl qw5_159 qw5_160 qw1_12 qw5_161 hsX11_wrongBy ⟨Nat.le_of_ble_eq_true rfl, Nat.le_of_ble_eq_true rfl⟩ ⟨Nat.zero_le _, Nat.zero_le _⟩ rfl (Nat.le_of_ble_eq_true rfl) E0_b (fun _ _ _ _ _ _ => trivial) rfl dX11_voids_4 [.int z4] rfl ?_
  refine sm_istore_n F [(0, .ref (a 0)), (1, .int x1), (2, .int z4)] [1, 2, 0] dX11_voids_7 rfl (by decide) rfl ?_
  refine sm_iload_n F dX11_voids_8 rfl 2 rfl ?_
  refine sm_if_eq (tgt := 18) F dX11_voids_9 (by decide) (fun c9 => ?_) (fun c9 => ?_)
  · replace hf := if_t c9 hf
    refine sm_aload_n F dX11_voids_18 rfl 0 rfl ?_
    refine sm_iload_n F dX11_voids_19 rfl 1 rfl ?_
    obtain ⟨z20, hz20, hf⟩ := bd_some hf
    refine sm_callV (rest := []) F (ct_X11_takes l D cI cZ cO a hz20) (cut_D_id cI cZ cO a u z20) rfl rfl rfl qw5_196 qw5_198 qw0_38 qw1_12 qw5_199 hvX11_takes ⟨Nat.le_of_ble_eq_true rfl, Nat.le_of_ble_eq_true rfl⟩ ⟨Nat.zero_le _, Nat.zero_le _⟩ 0 11 rfl rfl rfl rfl (Nat.le_of_ble_eq_true rfl) E0_b (fun _ _ _ _ _ _ => trivial) rfl dX11_voids_20 [] rfl ?_
    refine sm_iconst F dX11_voids_23 kc_i_0 ?_
    refine sm_istore_n F [(0, .ref (a 0)), (3, .int (0 : Int32))] [1, 0] dX11_voids_24 rfl (by decide) rfl ?_
    refine sm_iconst F dX11_voids_25 kc_i_0 ?_
    refine sm_istore F [(0, .ref (a 0)), (3, .int (0 : Int32)), (4, .int (0 : Int32))] [1, 2, 0] dX11_voids_26 (by decide) rfl ?_
    exact s_X11_voids_28 F  smN z20 (0 : Int32) (0 : Int32) hf
  · replace hf := if_f c9 hf
    refine sm_aload_n F dX11_voids_12 rfl 0 rfl ?_
    refine sm_iload_n F dX11_voids_13 rfl 2 rfl ?_
    obtain ⟨z14, hz14, hf⟩ := bd_some hf
    refine sm_callV (rest := []) F (ct_X11_no l D cI cZ cO a hz14) (cut_D_id cI cZ cO a u z14.2) rfl rfl rfl qw5_59 qw5_61 qw0_29 qw1_12 qw5_62 hvX11_no ⟨Nat.le_of_ble_eq_true rfl, Nat.le_of_ble_eq_true rfl⟩ ⟨Nat.zero_le _, Nat.zero_le _⟩ 0 11 rfl rfl rfl rfl (Nat.le_of_ble_eq_true rfl) E0_b (fun _ _ _ _ _ _ => trivial) rfl dX11_voids_14 [.int z14.1] rfl ?_
    exact sm_iret F dX11_voids_17 (Prod.mk.inj (Option.some.inj hf)).1 (congrArg (fun z => (wD cI cZ cO a z)) (Prod.mk.inj (Option.some.inj hf)).2)
/-! SoManyForgottenModel.hill()I -/
abbrev rmX11_hill : Room := { frames := 2, cells := 0, slots := 0, locals := 42 }
set_option maxRecDepth 100000 in
theorem hvX11_hill : yX11_hill.cls = RX11 ∧ yX11_hill.cls ≠ "java/lang/invoke/MethodHandle" ∧ yX11_hill.cls ≠ "java/lang/invoke/VarHandle" ∧ (parseMethodDescriptor yX11_hill.desc).map (fun d => d.parameters.length) = some 0 := by decide +kernel
set_option maxRecDepth 100000 in
set_option maxHeartbeats 4000000 in
theorem s_X11_hill_16_b {p : Program} {l : Launch} {e : Env} {s : State} {m : MethodId} {args : Array Value} {below : List Frame} {meth : Method} {c : Code} {A : Nat → Prop} {D : va_G} {cI cZ cO : ClassId} {a : Nat → Nat} {r : Int32} (F : smF p s m args meth c cX11_hill 4 (some .int) RX11 D (tyL cI cZ cO) A) (u : DS) (k4 : Int32 → Int32 → Option Int32) (hk4 : ∀ (x1' : Int32) (x2' : Int32), k4 x1' x2' = some r → Sm p l e rmX11_hill s m args below meth c D A 4 0 0 (smQ below args s D A (some (.int r)) (wD cI cZ cO a u)) 4 [(0, .ref (a 0)), (1, .int x1'), (2, .int x2')] [] (wD cI cZ cO a u)) (k16 : Int32 → Int32 → Int32 → Option Int32) (hk16 : ∀ (x1' : Int32) (x2' : Int32) (x3' : Int32), k16 x1' x2' x3' = some r → Sm p l e rmX11_hill s m args below meth c D A 4 0 0 (smQ below args s D A (some (.int r)) (wD cI cZ cO a u)) 16 [(0, .ref (a 0)), (1, .int x1'), (2, .int x2'), (3, .int x3')] [] (wD cI cZ cO a u)) (x1 : Int32) (x2 : Int32) (x3 : Int32) (hf : b_X11_hill_16 u k4 k16 x1 x2 x3 = some r) : Sm p l e rmX11_hill s m args below meth c D A 4 0 0 (smQ below args s D A (some (.int r)) (wD cI cZ cO a u)) 16 [(0, .ref (a 0)), (1, .int x1), (2, .int x2), (3, .int x3)] [] (wD cI cZ cO a u) := by
  unfold b_X11_hill_16 at hf
  refine sm_iload_n F dX11_hill_16 rfl 3 rfl ?_
  refine sm_aload_n F dX11_hill_17 rfl 0 rfl ?_
  refine sm_get (v := .ref (a 1)) F inX11 0 rfl rfl 0 (by decide) qw5_15 rfl rfl dX11_hill_18 ?_
  refine sm_iconst F dX11_hill_21 kc_i_0 ?_
  obtain ⟨h22, hf⟩ := ck_some hf
  refine sm_iald F 1 0 rfl rfl h22 dX11_hill_22 ?_
  refine sm_icmp_ge (tgt := 76) F dX11_hill_23 (by decide) (fun c23 => ?_) (fun c23 => ?_)
  · replace hf := if_t c23 hf
    refine sm_iinc F [(0, .ref (a 0)), (1, .int x1), (2, .int (x2 + 1)), (3, .int x3)] 2 [1, 2, 0, 3] dX11_hill_76 rfl kc_i_1 (by decide) rfl ?_
    refine sm_goto (tgt := 4) F dX11_hill_79 (by decide) ?_
    refine sm_sub (lv' := [(0, .ref (a 0)), (1, .int x1), (2, .int (x2 + 1))]) [0, 1, 2] rfl ?_
    exact hk4 x1 (x2 + 1) hf
  · replace hf := if_f c23 hf
    refine sm_iload_n F dX11_hill_26 rfl 1 rfl ?_
    refine sm_iload_n F dX11_hill_27 rfl 2 rfl ?_
    refine sm_iload_n F dX11_hill_28 rfl 3 rfl ?_
    refine sm_icmp_eq (tgt := 67) F dX11_hill_29 (by decide) (fun c29 => ?_) (fun c29 => ?_)
    · replace hf := if_t c29 hf
      refine sm_iconst F dX11_hill_67 kc_i_0 ?_
      refine sm_iadd F dX11_hill_68 ?_
      refine sm_istore_n F [(0, .ref (a 0)), (1, .int (x1 + (0 : Int32))), (2, .int x2), (3, .int x3)] [1, 0, 2, 3] dX11_hill_69 rfl (by decide) rfl ?_
      refine sm_iinc F [(0, .ref (a 0)), (1, .int (x1 + (0 : Int32))), (2, .int x2), (3, .int (x3 + 1))] 3 [1, 2, 3, 0] dX11_hill_70 rfl kc_i_1 (by decide) rfl ?_
      refine sm_goto (tgt := 16) F dX11_hill_73 (by decide) ?_
      exact hk16 (x1 + (0 : Int32)) x2 (x3 + 1) hf
    · replace hf := if_f c29 hf
      refine sm_aload_n F dX11_hill_32 rfl 0 rfl ?_
      refine sm_get (v := .ref (a 1)) F inX11 0 rfl rfl 0 (by decide) qw5_15 rfl rfl dX11_hill_33 ?_
      refine sm_iload_n F dX11_hill_36 rfl 2 rfl ?_
      obtain ⟨z37, hz37, hf⟩ := bd_some hf
      refine sm_callS (rest := [.int x1]) F (ct_X11_isHere l D cI cZ cO (fun i => a (pm_D_i1 i)) hz37) (cut_D_i1_ro cI cZ cO a u) rfl rfl rfl qw5_114 qw5_115 qw1_12 qw5_116 hsX11_isHere ⟨Nat.le_of_ble_eq_true rfl, Nat.le_of_ble_eq_true rfl⟩ ⟨Nat.zero_le _, Nat.zero_le _⟩ rfl (Nat.le_of_ble_eq_true rfl) E0_b (fun _ _ _ _ _ _ => trivial) rfl dX11_hill_37 [.int z37, .int x1] rfl ?_
      refine sm_if_ne (tgt := 67) F dX11_hill_40 (by decide) (fun c40 => ?_) (fun c40 => ?_)
      · replace hf := if_f c40 hf
        refine sm_iconst F dX11_hill_67 kc_i_0 ?_
        refine sm_iadd F dX11_hill_68 ?_
        refine sm_istore_n F [(0, .ref (a 0)), (1, .int (x1 + (0 : Int32))), (2, .int x2), (3, .int x3)] [1, 0, 2, 3] dX11_hill_69 rfl (by decide) rfl ?_
        refine sm_iinc F [(0, .ref (a 0)), (1, .int (x1 + (0 : Int32))), (2, .int x2), (3, .int (x3 + 1))] 3 [1, 2, 3, 0] dX11_hill_70 rfl kc_i_1 (by decide) rfl ?_
        refine sm_goto (tgt := 16) F dX11_hill_73 (by decide) ?_
        exact hk16 (x1 + (0 : Int32)) x2 (x3 + 1) hf
      · replace hf := if_t c40 hf
        refine sm_aload_n F dX11_hill_43 rfl 0 rfl ?_
        refine sm_get (v := .ref (a 1)) F inX11 0 rfl rfl 0 (by decide) qw5_15 rfl rfl dX11_hill_44 ?_
        refine sm_iload_n F dX11_hill_47 rfl 3 rfl ?_
        obtain ⟨z48, hz48, hf⟩ := bd_some hf
        refine sm_callS (rest := [.int x1]) F (ct_X11_isHere l D cI cZ cO (fun i => a (pm_D_i1 i)) hz48) (cut_D_i1_ro cI cZ cO a u) rfl rfl rfl qw5_114 qw5_115 qw1_12 qw5_116 hsX11_isHere ⟨Nat.le_of_ble_eq_true rfl, Nat.le_of_ble_eq_true rfl⟩ ⟨Nat.zero_le _, Nat.zero_le _⟩ rfl (Nat.le_of_ble_eq_true rfl) E0_b (fun _ _ _ _ _ _ => trivial) rfl dX11_hill_48 [.int z48, .int x1] rfl ?_
        refine sm_if_ne (tgt := 67) F dX11_hill_51 (by decide) (fun c51 => ?_) (fun c51 => ?_)
        · replace hf := if_f c51 hf
          refine sm_iconst F dX11_hill_67 kc_i_0 ?_
          refine sm_iadd F dX11_hill_68 ?_
          refine sm_istore_n F [(0, .ref (a 0)), (1, .int (x1 + (0 : Int32))), (2, .int x2), (3, .int x3)] [1, 0, 2, 3] dX11_hill_69 rfl (by decide) rfl ?_
          refine sm_iinc F [(0, .ref (a 0)), (1, .int (x1 + (0 : Int32))), (2, .int x2), (3, .int (x3 + 1))] 3 [1, 2, 3, 0] dX11_hill_70 rfl kc_i_1 (by decide) rfl ?_
          refine sm_goto (tgt := 16) F dX11_hill_73 (by decide) ?_
          exact hk16 (x1 + (0 : Int32)) x2 (x3 + 1) hf
        · replace hf := if_t c51 hf
          refine sm_aload_n F dX11_hill_54 rfl 0 rfl ?_
          refine sm_get (v := .ref (a 1)) F inX11 0 rfl rfl 0 (by decide) qw5_15 rfl rfl dX11_hill_55 ?_
          refine sm_iload_n F dX11_hill_58 rfl 2 rfl ?_
          refine sm_iload_n F dX11_hill_59 rfl 3 rfl ?_
          obtain ⟨z60, hz60, hf⟩ := bd_some hf
          refine sm_callS (rest := [.ref (a 1), .int x1]) F (ct_X11_by l D (tyL cI cZ cO) hz60) (cut_D_none cI cZ cO a u) rfl rfl rfl qw5_103 qw5_104 qw1_12 qw5_105 hsX11_by ⟨Nat.le_of_ble_eq_true rfl, Nat.le_of_ble_eq_true rfl⟩ ⟨Nat.zero_le _, Nat.zero_le _⟩ rfl (Nat.le_of_ble_eq_true rfl) E0_b (fun _ _ _ _ _ _ => trivial) rfl dX11_hill_60 [.int z60, .ref (a 1), .int x1] rfl ?_
          obtain ⟨h63, hf⟩ := ck_some hf
          refine sm_iald F 1 0 rfl rfl h63 dX11_hill_63 ?_
          refine sm_goto (tgt := 68) F dX11_hill_64 (by decide) ?_
          refine sm_iadd F dX11_hill_68 ?_
          refine sm_istore_n F [(0, .ref (a 0)), (1, .int (x1 + ((gD_s u) (Int32.toNatClampNeg z60)))), (2, .int x2), (3, .int x3)] [1, 0, 2, 3] dX11_hill_69 rfl (by decide) rfl ?_
          refine sm_iinc F [(0, .ref (a 0)), (1, .int (x1 + ((gD_s u) (Int32.toNatClampNeg z60)))), (2, .int x2), (3, .int (x3 + 1))] 3 [1, 2, 3, 0] dX11_hill_70 rfl kc_i_1 (by decide) rfl ?_
          refine sm_goto (tgt := 16) F dX11_hill_73 (by decide) ?_
          exact hk16 (x1 + ((gD_s u) (Int32.toNatClampNeg z60))) x2 (x3 + 1) hf
set_option maxRecDepth 100000 in
set_option maxHeartbeats 4000000 in
theorem s_X11_hill_16 {p : Program} {l : Launch} {e : Env} {s : State} {m : MethodId} {args : Array Value} {below : List Frame} {meth : Method} {c : Code} {A : Nat → Prop} {D : va_G} {cI cZ cO : ClassId} {a : Nat → Nat} {r : Int32} (F : smF p s m args meth c cX11_hill 4 (some .int) RX11 D (tyL cI cZ cO) A) (u : DS) (k4 : Int32 → Int32 → Option Int32) (hk4 : ∀ (x1' : Int32) (x2' : Int32), k4 x1' x2' = some r → Sm p l e rmX11_hill s m args below meth c D A 4 0 0 (smQ below args s D A (some (.int r)) (wD cI cZ cO a u)) 4 [(0, .ref (a 0)), (1, .int x1'), (2, .int x2')] [] (wD cI cZ cO a u)) (n : Nat) (x1 : Int32) (x2 : Int32) (x3 : Int32) (hf : f_X11_hill_16 u k4 n x1 x2 x3 = some r) : Sm p l e rmX11_hill s m args below meth c D A 4 0 0 (smQ below args s D A (some (.int r)) (wD cI cZ cO a u)) 16 [(0, .ref (a 0)), (1, .int x1), (2, .int x2), (3, .int x3)] [] (wD cI cZ cO a u) :=
  lq3_ind (P := fun (x1 : Int32) (x2 : Int32) (x3 : Int32) => Sm p l e rmX11_hill s m args below meth c D A 4 0 0 (smQ below args s D A (some (.int r)) (wD cI cZ cO a u)) 16 [(0, .ref (a 0)), (1, .int x1), (2, .int x2), (3, .int x3)] [] (wD cI cZ cO a u)) (fun k16 hk16 x1 x2 x3 h9 => s_X11_hill_16_b F u k4 hk4 k16 hk16 x1 x2 x3 h9) n x1 x2 x3 hf
set_option maxRecDepth 100000 in
set_option maxHeartbeats 4000000 in
theorem s_X11_hill_4_b {p : Program} {l : Launch} {e : Env} {s : State} {m : MethodId} {args : Array Value} {below : List Frame} {meth : Method} {c : Code} {A : Nat → Prop} {D : va_G} {cI cZ cO : ClassId} {a : Nat → Nat} {r : Int32} (F : smF p s m args meth c cX11_hill 4 (some .int) RX11 D (tyL cI cZ cO) A) (u : DS) (k4 : Int32 → Int32 → Option Int32) (hk4 : ∀ (x1' : Int32) (x2' : Int32), k4 x1' x2' = some r → Sm p l e rmX11_hill s m args below meth c D A 4 0 0 (smQ below args s D A (some (.int r)) (wD cI cZ cO a u)) 4 [(0, .ref (a 0)), (1, .int x1'), (2, .int x2')] [] (wD cI cZ cO a u)) (x1 : Int32) (x2 : Int32) (hf : b_X11_hill_4 u  k4 x1 x2 = some r) : Sm p l e rmX11_hill s m args below meth c D A 4 0 0 (smQ below args s D A (some (.int r)) (wD cI cZ cO a u)) 4 [(0, .ref (a 0)), (1, .int x1), (2, .int x2)] [] (wD cI cZ cO a u) := by
  unfold b_X11_hill_4 at hf
  refine sm_iload_n F dX11_hill_4 rfl 2 rfl ?_
  refine sm_aload_n F dX11_hill_5 rfl 0 rfl ?_
  refine sm_get (v := .ref (a 1)) F inX11 0 rfl rfl 0 (by decide) qw5_15 rfl rfl dX11_hill_6 ?_
  refine sm_iconst F dX11_hill_9 kc_i_0 ?_
  obtain ⟨h10, hf⟩ := ck_some hf
  refine sm_iald F 1 0 rfl rfl h10 dX11_hill_10 ?_
  refine sm_icmp_ge (tgt := 82) F dX11_hill_11 (by decide) (fun c11 => ?_) (fun c11 => ?_)
  · replace hf := if_t c11 hf
    refine sm_iload_n F dX11_hill_82 rfl 1 rfl ?_
    exact sm_iret F dX11_hill_83 (Option.some.inj hf) rfl
  · replace hf := if_f c11 hf
    refine sm_iconst F dX11_hill_14 kc_i_0 ?_
    refine sm_istore_n F [(0, .ref (a 0)), (1, .int x1), (2, .int x2), (3, .int (0 : Int32))] [1, 2, 3, 0] dX11_hill_15 rfl (by decide) rfl ?_
    exact s_X11_hill_16 F u k4 hk4 smN x1 x2 (0 : Int32) hf
set_option maxRecDepth 100000 in
set_option maxHeartbeats 4000000 in
theorem s_X11_hill_4 {p : Program} {l : Launch} {e : Env} {s : State} {m : MethodId} {args : Array Value} {below : List Frame} {meth : Method} {c : Code} {A : Nat → Prop} {D : va_G} {cI cZ cO : ClassId} {a : Nat → Nat} {r : Int32} (F : smF p s m args meth c cX11_hill 4 (some .int) RX11 D (tyL cI cZ cO) A) (u : DS)  (n : Nat) (x1 : Int32) (x2 : Int32) (hf : f_X11_hill_4 u  n x1 x2 = some r) : Sm p l e rmX11_hill s m args below meth c D A 4 0 0 (smQ below args s D A (some (.int r)) (wD cI cZ cO a u)) 4 [(0, .ref (a 0)), (1, .int x1), (2, .int x2)] [] (wD cI cZ cO a u) :=
  lq2_ind (P := fun (x1 : Int32) (x2 : Int32) => Sm p l e rmX11_hill s m args below meth c D A 4 0 0 (smQ below args s D A (some (.int r)) (wD cI cZ cO a u)) 4 [(0, .ref (a 0)), (1, .int x1), (2, .int x2)] [] (wD cI cZ cO a u)) (fun k4 hk4 x1 x2 h9 => s_X11_hill_4_b F u  k4 hk4 x1 x2 h9) n x1 x2 hf
set_option maxRecDepth 100000 in
set_option maxHeartbeats 4000000 in
theorem ct_X11_hill (l : Launch) (D : va_G) (cI cZ cO : ClassId) (a : Nat → Nat) {u : DS} {r : Int32} (hf : f_X11_hill u = some r) : Ct l yX11_hill (uw (Cond.code yX11_hill cX11_hill 4 (some .int))) rmX11_hill D (tyL cI cZ cO) E0 [.ref (a 0)] (wD cI cZ cO a u) (some (.int r)) (wD cI cZ cO a u) := by
  refine sm_start (cc := cX11_hill) (maxL := 4) (ret := (some .int)) (own := RX11) (by decide) rfl rfl (Nat.le_of_ble_eq_true rfl) (lv := [(0, .ref (a 0))]) rfl ?_
  intro p e s m below meth c A F hE hA
  unfold f_X11_hill at hf
  refine sm_iconst F dX11_hill_0 kc_i_0 ?_
  refine sm_istore_n F [(0, .ref (a 0)), (1, .int (0 : Int32))] [1, 0] dX11_hill_1 rfl (by decide) rfl ?_
  refine sm_iconst F dX11_hill_2 kc_i_0 ?_
  refine sm_istore_n F [(0, .ref (a 0)), (1, .int (0 : Int32)), (2, .int (0 : Int32))] [1, 2, 0] dX11_hill_3 rfl (by decide) rfl ?_
  exact s_X11_hill_4 F u smN (0 : Int32) (0 : Int32) hf
/-! SoManyForgottenModel.speaksToAll(I)V -/
abbrev rmX11_speaksToAll : Room := { frames := 2, cells := 0, slots := 0, locals := 43 }
set_option maxRecDepth 100000 in
theorem hvX11_speaksToAll : yX11_speaksToAll.cls = RX11 ∧ yX11_speaksToAll.cls ≠ "java/lang/invoke/MethodHandle" ∧ yX11_speaksToAll.cls ≠ "java/lang/invoke/VarHandle" ∧ (parseMethodDescriptor yX11_speaksToAll.desc).map (fun d => d.parameters.length) = some 1 := by decide +kernel
set_option maxRecDepth 100000 in
set_option maxHeartbeats 4000000 in
theorem s_X11_speaksToAll_2_b {p : Program} {l : Launch} {e : Env} {s : State} {m : MethodId} {args : Array Value} {below : List Frame} {meth : Method} {c : Code} {A : Nat → Prop} {D : va_G} {cI cZ cO : ClassId} {a : Nat → Nat} {o : DS} (F : smF p s m args meth c cX11_speaksToAll 3 none RX11 D (tyL cI cZ cO) A) (x1 : Int32) (k2 : DS → Int32 → Option (DS)) (hk2 : ∀ (u' : DS) (x2' : Int32), k2 u' x2' = some o → Sm p l e rmX11_speaksToAll s m args below meth c D A 3 0 0 (smQ below args s D A none (wD cI cZ cO a o)) 2 [(0, .ref (a 0)), (1, .int x1), (2, .int x2')] [] (wD cI cZ cO a u')) (u : DS) (x2 : Int32) (hf : b_X11_speaksToAll_2 x1  k2 u x2 = some o) : Sm p l e rmX11_speaksToAll s m args below meth c D A 3 0 0 (smQ below args s D A none (wD cI cZ cO a o)) 2 [(0, .ref (a 0)), (1, .int x1), (2, .int x2)] [] (wD cI cZ cO a u) := by
  unfold b_X11_speaksToAll_2 at hf
  refine sm_iload_n F dX11_speaksToAll_2 rfl 2 rfl ?_
  refine sm_aload_n F dX11_speaksToAll_3 rfl 0 rfl ?_
  refine sm_get (v := .ref (a 2)) F inX11 0 rfl rfl 1 (by decide) qw5_16 rfl rfl dX11_speaksToAll_4 ?_
  refine sm_iconst F dX11_speaksToAll_7 kc_i_0 ?_
  obtain ⟨h8, hf⟩ := ck_some hf
  refine sm_iald F 2 0 rfl rfl h8 dX11_speaksToAll_8 ?_
  refine sm_icmp_ge (tgt := 43) F dX11_speaksToAll_9 (by decide) (fun c9 => ?_) (fun c9 => ?_)
  · replace hf := if_t c9 hf
    exact sm_vret F dX11_speaksToAll_43 (congrArg (fun z => (wD cI cZ cO a z)) (Option.some.inj hf))
  · replace hf := if_f c9 hf
    refine sm_iload_n F dX11_speaksToAll_12 rfl 2 rfl ?_
    refine sm_iload_n F dX11_speaksToAll_13 rfl 1 rfl ?_
    refine sm_icmp_eq (tgt := 37) F dX11_speaksToAll_14 (by decide) (fun c14 => ?_) (fun c14 => ?_)
    · replace hf := if_t c14 hf
      refine sm_iinc F [(0, .ref (a 0)), (1, .int x1), (2, .int (x2 + 1))] 2 [1, 2, 0] dX11_speaksToAll_37 rfl kc_i_1 (by decide) rfl ?_
      refine sm_goto (tgt := 2) F dX11_speaksToAll_40 (by decide) ?_
      exact hk2 u (x2 + 1) hf
    · replace hf := if_f c14 hf
      refine sm_aload_n F dX11_speaksToAll_17 rfl 0 rfl ?_
      refine sm_get (v := .ref (a 2)) F inX11 0 rfl rfl 1 (by decide) qw5_16 rfl rfl dX11_speaksToAll_18 ?_
      refine sm_iload_n F dX11_speaksToAll_21 rfl 2 rfl ?_
      obtain ⟨z22, hz22, hf⟩ := bd_some hf
      refine sm_callS (rest := []) F (ct_X11_isHere l D cI cZ cO (fun i => a (pm_D_i2 i)) hz22) (cut_D_i2_ro cI cZ cO a u) rfl rfl rfl qw5_114 qw5_115 qw1_12 qw5_116 hsX11_isHere ⟨Nat.le_of_ble_eq_true rfl, Nat.le_of_ble_eq_true rfl⟩ ⟨Nat.zero_le _, Nat.zero_le _⟩ rfl (Nat.le_of_ble_eq_true rfl) E0_b (fun _ _ _ _ _ _ => trivial) rfl dX11_speaksToAll_22 [.int z22] rfl ?_
      refine sm_if_eq (tgt := 37) F dX11_speaksToAll_25 (by decide) (fun c25 => ?_) (fun c25 => ?_)
      · replace hf := if_t c25 hf
        refine sm_iinc F [(0, .ref (a 0)), (1, .int x1), (2, .int (x2 + 1))] 2 [1, 2, 0] dX11_speaksToAll_37 rfl kc_i_1 (by decide) rfl ?_
        refine sm_goto (tgt := 2) F dX11_speaksToAll_40 (by decide) ?_
        exact hk2 u (x2 + 1) hf
      · replace hf := if_f c25 hf
        refine sm_aload_n F dX11_speaksToAll_28 rfl 0 rfl ?_
        refine sm_get (v := .ref (a 2)) F inX11 0 rfl rfl 1 (by decide) qw5_16 rfl rfl dX11_speaksToAll_29 ?_
        refine sm_iload_n F dX11_speaksToAll_32 rfl 1 rfl ?_
        refine sm_iload_n F dX11_speaksToAll_33 rfl 2 rfl ?_
        obtain ⟨z34, hz34, hf⟩ := bd_some hf
        refine sm_callS (rest := []) F (ct_X11_speaksIn l D cI cZ cO (fun i => a (pm_D_i2 i)) hz34) (cut_D_i2 cI cZ cO a u z34) rfl rfl rfl qw5_117 qw5_118 qw1_12 qw5_119 hsX11_speaksIn ⟨Nat.le_of_ble_eq_true rfl, Nat.le_of_ble_eq_true rfl⟩ ⟨Nat.zero_le _, Nat.zero_le _⟩ rfl (Nat.le_of_ble_eq_true rfl) E0_b (fun _ _ _ _ _ _ => trivial) rfl dX11_speaksToAll_34 [] rfl ?_
        refine sm_iinc F [(0, .ref (a 0)), (1, .int x1), (2, .int (x2 + 1))] 2 [1, 2, 0] dX11_speaksToAll_37 rfl kc_i_1 (by decide) rfl ?_
        refine sm_goto (tgt := 2) F dX11_speaksToAll_40 (by decide) ?_
        exact hk2 (sD_m u z34) (x2 + 1) hf
set_option maxRecDepth 100000 in
set_option maxHeartbeats 4000000 in
theorem s_X11_speaksToAll_2 {p : Program} {l : Launch} {e : Env} {s : State} {m : MethodId} {args : Array Value} {below : List Frame} {meth : Method} {c : Code} {A : Nat → Prop} {D : va_G} {cI cZ cO : ClassId} {a : Nat → Nat} {o : DS} (F : smF p s m args meth c cX11_speaksToAll 3 none RX11 D (tyL cI cZ cO) A) (x1 : Int32)  (n : Nat) (u : DS) (x2 : Int32) (hf : f_X11_speaksToAll_2 x1  n u x2 = some o) : Sm p l e rmX11_speaksToAll s m args below meth c D A 3 0 0 (smQ below args s D A none (wD cI cZ cO a o)) 2 [(0, .ref (a 0)), (1, .int x1), (2, .int x2)] [] (wD cI cZ cO a u) :=
  lq2_ind (P := fun (u : DS) (x2 : Int32) => Sm p l e rmX11_speaksToAll s m args below meth c D A 3 0 0 (smQ below args s D A none (wD cI cZ cO a o)) 2 [(0, .ref (a 0)), (1, .int x1), (2, .int x2)] [] (wD cI cZ cO a u)) (fun k2 hk2 u x2 h9 => s_X11_speaksToAll_2_b F x1  k2 hk2 u x2 h9) n u x2 hf
set_option maxRecDepth 100000 in
set_option maxHeartbeats 4000000 in
theorem ct_X11_speaksToAll (l : Launch) (D : va_G) (cI cZ cO : ClassId) (a : Nat → Nat) {u : DS} {x1 : Int32} {o : DS} (hf : f_X11_speaksToAll u x1 = some o) : Ct l yX11_speaksToAll (uw (Cond.code yX11_speaksToAll cX11_speaksToAll 3 none)) rmX11_speaksToAll D (tyL cI cZ cO) E0 [.ref (a 0), .int x1] (wD cI cZ cO a u) none (wD cI cZ cO a o) := by
  refine sm_start (cc := cX11_speaksToAll) (maxL := 3) (ret := none) (own := RX11) (by decide) rfl rfl (Nat.le_of_ble_eq_true rfl) (lv := [(0, .ref (a 0)), (1, .int x1)]) rfl ?_
  intro p e s m below meth c A F hE hA
  unfold f_X11_speaksToAll at hf
  refine sm_iconst F dX11_speaksToAll_0 kc_i_0 ?_
  refine sm_istore_n F [(0, .ref (a 0)), (1, .int x1), (2, .int (0 : Int32))] [1, 2, 0] dX11_speaksToAll_1 rfl (by decide) rfl ?_
  exact s_X11_speaksToAll_2 F x1 smN u (0 : Int32) hf
/-! SoManyForgottenModel.hasBy(IIIIII)I -/
abbrev rmX11_hasBy : Room := { frames := 6, cells := 0, slots := 0, locals := 132 }
set_option maxRecDepth 100000 in
theorem hvX11_hasBy : yX11_hasBy.cls = RX11 ∧ yX11_hasBy.cls ≠ "java/lang/invoke/MethodHandle" ∧ yX11_hasBy.cls ≠ "java/lang/invoke/VarHandle" ∧ (parseMethodDescriptor yX11_hasBy.desc).map (fun d => d.parameters.length) = some 6 := by decide +kernel
set_option maxRecDepth 100000 in
set_option maxHeartbeats 4000000 in
theorem s_X11_hasBy_33 {p : Program} {l : Launch} {e : Env} {s : State} {m : MethodId} {args : Array Value} {below : List Frame} {meth : Method} {c : Code} {A : Nat → Prop} {D : va_G} {cI cZ cO : ClassId} {a : Nat → Nat} {r : Int32} {o : DS} (F : smF p s m args meth c cX11_hasBy 7 (some .int) RX11 D (tyL cI cZ cO) A) (x1 : Int32) (x2 : Int32) (x3 : Int32) (x5 : Int32) (x6 : Int32)  (u : DS) (hf : f_X11_hasBy_33 x1 x2 x3 x5 x6   u = some (r, o)) : Sm p l e rmX11_hasBy s m args below meth c D A 7 0 0 (smQ below args s D A (some (.int r)) (wD cI cZ cO a o)) 33 [(0, .ref (a 0)), (1, .int x1), (2, .int x2), (3, .int x3), (5, .int x5), (6, .int x6)] [] (wD cI cZ cO a u) := by
  unfold f_X11_hasBy_33 at hf
  refine sm_aload_n F dX11_hasBy_33 rfl 0 rfl ?_
  refine sm_get (v := .ref (a 2)) F inX11 0 rfl rfl 1 (by decide) qw5_16 rfl rfl dX11_hasBy_34 ?_
  refine sm_iload F dX11_hasBy_37 5 rfl ?_
  obtain ⟨z39, hz39, hf⟩ := bd_some hf
  refine sm_callS (rest := []) F (ct_X11_weeksOn l D cI cZ cO (fun i => a (pm_D_i2 i)) hz39) (cut_D_i2 cI cZ cO a u z39) rfl rfl rfl qw5_126 qw5_127 qw1_12 qw5_128 hsX11_weeksOn ⟨Nat.le_of_ble_eq_true rfl, Nat.le_of_ble_eq_true rfl⟩ ⟨Nat.zero_le _, Nat.zero_le _⟩ rfl (Nat.le_of_ble_eq_true rfl) E0_b (fun _ _ _ _ _ _ => trivial) rfl dX11_hasBy_39 [] rfl ?_
  refine sm_aload_n F dX11_hasBy_42 rfl 0 rfl ?_
  refine sm_get (v := .ref (a 2)) F inX11 0 rfl rfl 1 (by decide) qw5_16 rfl rfl dX11_hasBy_43 ?_
  refine sm_iload_n F dX11_hasBy_46 rfl 1 rfl ?_
  obtain ⟨z47, hz47, hf⟩ := bd_some hf
  refine sm_callS (rest := []) F (ct_X11_knownIn l D cI cZ cO (fun i => a (pm_D_i2 i)) hz47) (cut_D_i2_ro cI cZ cO a (sD_m u z39)) rfl rfl rfl qw5_141 qw5_142 qw1_12 qw5_143 hsX11_knownIn ⟨Nat.le_of_ble_eq_true rfl, Nat.le_of_ble_eq_true rfl⟩ ⟨Nat.zero_le _, Nat.zero_le _⟩ rfl (Nat.le_of_ble_eq_true rfl) E0_b (fun _ _ _ _ _ _ => trivial) rfl dX11_hasBy_47 [.int z47] rfl ?_
  refine sm_bipush F dX11_hasBy_50 kc_b_30 ?_
  refine sm_iload_n F dX11_hasBy_52 rfl 1 rfl ?_
  refine sm_iload_n F dX11_hasBy_53 rfl 2 rfl ?_
  refine sm_icmp_ne (tgt := 61) F dX11_hasBy_54 (by decide) (fun c54 => ?_) (fun c54 => ?_)
  · replace hf := if_f c54 hf
    refine sm_iload F dX11_hasBy_61 4 rfl ?_
    refine sm_imul F dX11_hasBy_63 ?_
    refine sm_isub F dX11_hasBy_64 ?_
    exact sm_iret F dX11_hasBy_65 (Prod.mk.inj (Option.some.inj hf)).1 (congrArg (fun z => (wD cI cZ cO a z)) (Prod.mk.inj (Option.some.inj hf)).2)
  · replace hf := if_t c54 hf
    refine sm_iload_n F dX11_hasBy_57 rfl 3 rfl ?_
    refine sm_goto (tgt := 63) F dX11_hasBy_58 (by decide) ?_
    refine sm_imul F dX11_hasBy_63 ?_
    refine sm_isub F dX11_hasBy_64 ?_
    exact sm_iret F dX11_hasBy_65 (Prod.mk.inj (Option.some.inj hf)).1 (congrArg (fun z => (wD cI cZ cO a z)) (Prod.mk.inj (Option.some.inj hf)).2)
set_option maxRecDepth 100000 in
set_option maxHeartbeats 4000000 in
theorem s_X11_hasBy_21 {p : Program} {l : Launch} {e : Env} {s : State} {m : MethodId} {args : Array Value} {below : List Frame} {meth : Method} {c : Code} {A : Nat → Prop} {D : va_G} {cI cZ cO : ClassId} {a : Nat → Nat} {r : Int32} {o : DS} (F : smF p s m args meth c cX11_hasBy 7 (some .int) RX11 D (tyL cI cZ cO) A) (x1 : Int32) (x2 : Int32) (x3 : Int32) (x4 : Int32) (x5 : Int32) (x6 : Int32)  (u : DS) (hf : f_X11_hasBy_21 x1 x2 x3 x4 x5 x6   u = some (r, o)) : Sm p l e rmX11_hasBy s m args below meth c D A 7 0 0 (smQ below args s D A (some (.int r)) (wD cI cZ cO a o)) 21 [(0, .ref (a 0)), (1, .int x1), (2, .int x2), (3, .int x3), (4, .int x4), (5, .int x5), (6, .int x6)] [] (wD cI cZ cO a u) := by
  unfold f_X11_hasBy_21 at hf
  refine sm_iload F dX11_hasBy_21 5 rfl ?_
  refine sm_iconst F dX11_hasBy_23 kc_i_1 ?_
  refine sm_icmp_ne (tgt := 33) F dX11_hasBy_24 (by decide) (fun c24 => ?_) (fun c24 => ?_)
  · replace hf := if_f c24 hf
    refine sm_sub (lv' := [(0, .ref (a 0)), (1, .int x1), (2, .int x2), (3, .int x3), (5, .int x5), (6, .int x6)]) [0, 1, 2, 3, 5, 6] rfl ?_
    exact s_X11_hasBy_33 F x1 x2 x3 x5 x6 u hf
  · replace hf := if_t c24 hf
    refine sm_aload_n F dX11_hasBy_27 rfl 0 rfl ?_
    refine sm_iload F dX11_hasBy_28 4 rfl ?_
    obtain ⟨z30, hz30, hf⟩ := bd_some hf
    refine sm_callV (rest := []) F (ct_X11_speaksToAll l D cI cZ cO a hz30) (cut_D_id cI cZ cO a u z30) rfl rfl rfl qw6_63 qw6_65 qw0_46 qw1_12 qw6_66 hvX11_speaksToAll ⟨Nat.le_of_ble_eq_true rfl, Nat.le_of_ble_eq_true rfl⟩ ⟨Nat.zero_le _, Nat.zero_le _⟩ 0 11 rfl rfl rfl rfl (Nat.le_of_ble_eq_true rfl) E0_b (fun _ _ _ _ _ _ => trivial) rfl dX11_hasBy_30 [] rfl ?_
    refine sm_sub (lv' := [(0, .ref (a 0)), (1, .int x1), (2, .int x2), (3, .int x3), (5, .int x5), (6, .int x6)]) [0, 1, 2, 3, 5, 6] rfl ?_
    exact s_X11_hasBy_33 F x1 x2 x3 x5 x6 z30 hf
set_option maxRecDepth 100000 in
set_option maxHeartbeats 4000000 in
theorem ct_X11_hasBy (l : Launch) (D : va_G) (cI cZ cO : ClassId) (a : Nat → Nat) {u : DS} {x1 : Int32} {x2 : Int32} {x3 : Int32} {x4 : Int32} {x5 : Int32} {x6 : Int32} {r : Int32} {o : DS} (hf : f_X11_hasBy u x1 x2 x3 x4 x5 x6 = some (r, o)) : Ct l yX11_hasBy (uw (Cond.code yX11_hasBy cX11_hasBy 7 (some .int))) rmX11_hasBy D (tyL cI cZ cO) E0 [.ref (a 0), .int x1, .int x2, .int x3, .int x4, .int x5, .int x6] (wD cI cZ cO a u) (some (.int r)) (wD cI cZ cO a o) := by
  refine sm_start (cc := cX11_hasBy) (maxL := 7) (ret := (some .int)) (own := RX11) (by decide) rfl rfl (Nat.le_of_ble_eq_true rfl) (lv := [(0, .ref (a 0)), (1, .int x1), (2, .int x2), (3, .int x3), (4, .int x4), (5, .int x5), (6, .int x6)]) rfl ?_
  intro p e s m below meth c A F hE hA
  unfold f_X11_hasBy at hf
  refine sm_aload_n F dX11_hasBy_0 rfl 0 rfl ?_
  refine sm_get (v := .ref (a 1)) F inX11 0 rfl rfl 0 (by decide) qw5_15 rfl rfl dX11_hasBy_1 ?_
  refine sm_aload_n F dX11_hasBy_4 rfl 0 rfl ?_
  refine sm_get (v := .ref (a 2)) F inX11 0 rfl rfl 1 (by decide) qw5_16 rfl rfl dX11_hasBy_5 ?_
  obtain ⟨z8, hz8, hf⟩ := bd_some hf
  refine sm_callS (rest := []) F (ct_X11_copies l D cI cZ cO (fun i => a (pm_D_ii1_2 i)) hz8) (cut_D_ii1_2 cI cZ cO a u z8) rfl rfl rfl qw5_89 qw5_90 qw1_12 qw5_91 hsX11_copies ⟨Nat.le_of_ble_eq_true rfl, Nat.le_of_ble_eq_true rfl⟩ ⟨Nat.zero_le _, Nat.zero_le _⟩ rfl (Nat.le_of_ble_eq_true rfl) E0_b (fun _ _ _ _ _ _ => trivial) rfl dX11_hasBy_8 [] rfl ?_
  refine sm_iload_n F dX11_hasBy_11 rfl 3 rfl ?_
  refine sm_iconst F dX11_hasBy_12 kc_i_1 ?_
  refine sm_icmp_ne (tgt := 21) F dX11_hasBy_13 (by decide) (fun c13 => ?_) (fun c13 => ?_)
  · replace hf := if_f c13 hf
    exact s_X11_hasBy_21 F x1 x2 x3 x4 x5 x6 (sD_m (sD_s u z8.1) z8.2) hf
  · replace hf := if_t c13 hf
    refine sm_aload_n F dX11_hasBy_16 rfl 0 rfl ?_
    refine sm_iload_n F dX11_hasBy_17 rfl 2 rfl ?_
    obtain ⟨z18, hz18, hf⟩ := bd_some hf
    refine sm_callV (rest := []) F (ct_X11_speaksToAll l D cI cZ cO a hz18) (cut_D_id cI cZ cO a (sD_m (sD_s u z8.1) z8.2) z18) rfl rfl rfl qw6_63 qw6_65 qw0_46 qw1_12 qw6_66 hvX11_speaksToAll ⟨Nat.le_of_ble_eq_true rfl, Nat.le_of_ble_eq_true rfl⟩ ⟨Nat.zero_le _, Nat.zero_le _⟩ 0 11 rfl rfl rfl rfl (Nat.le_of_ble_eq_true rfl) E0_b (fun _ _ _ _ _ _ => trivial) rfl dX11_hasBy_18 [] rfl ?_
    exact s_X11_hasBy_21 F x1 x2 x3 x4 x5 x6 z18 hf
