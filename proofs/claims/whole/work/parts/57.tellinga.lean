/-! SoManyForgotten$Telling.isFull()Z -/
abbrev rmX7_isFull : Room := { frames := 0, cells := 0, slots := 0, locals := 0 }
set_option maxRecDepth 100000 in
theorem hvX7_isFull : yX7_isFull.cls = RX7 ∧ yX7_isFull.cls ≠ "java/lang/invoke/MethodHandle" ∧ yX7_isFull.cls ≠ "java/lang/invoke/VarHandle" ∧ (parseMethodDescriptor yX7_isFull.desc).map (fun d => d.parameters.length) = some 0 := by decide +kernel
set_option maxRecDepth 100000 in
set_option maxHeartbeats 4000000 in
theorem ct_X7_isFull (l : Launch) (D : va_G) (cI cZ cO : ClassId) (a : Nat → Nat) {u : TS} {r : Int32} (hf : f_X7_isFull u = some r) : Ct l yX7_isFull (uw (Cond.code yX7_isFull cX7_isFull 1 (some .boolean))) rmX7_isFull D (tyL cI cZ cO) E0 [.ref (a 0)] (wT cI cZ cO a u) (some (.int r)) (wT cI cZ cO a u) := by
  refine sm_start (cc := cX7_isFull) (maxL := 1) (ret := (some .boolean)) (own := RX7) (by decide) rfl rfl (Nat.le_of_ble_eq_true rfl) (lv := [(0, .ref (a 0))]) rfl ?_
  intro p e s m below meth c A F hE hA
  unfold f_X7_isFull at hf
  refine sm_aload_n F dX7_isFull_0 rfl 0 rfl ?_
  refine sm_get (v := .int (gT_size u)) F inX7 0 rfl rfl 1 (by decide) qw1_162 rfl rfl dX7_isFull_1 ?_
  refine sm_bipush F dX7_isFull_4 kc_b_96 ?_
  refine sm_icmp_lt (tgt := 13) F dX7_isFull_6 (by decide) (fun c6 => ?_) (fun c6 => ?_)
  · replace hf := if_t c6 hf
    refine sm_iconst F dX7_isFull_13 kc_i_0 ?_
    exact sm_zret F dX7_isFull_14 rfl (Option.some.inj hf) rfl
  · replace hf := if_f c6 hf
    refine sm_iconst F dX7_isFull_9 kc_i_1 ?_
    refine sm_goto (tgt := 14) F dX7_isFull_10 (by decide) ?_
    exact sm_zret F dX7_isFull_14 rfl (Option.some.inj hf) rfl
/-! SoManyForgotten$Telling.add(I)I -/
abbrev rmX7_add : Room := { frames := 0, cells := 0, slots := 0, locals := 0 }
set_option maxRecDepth 100000 in
theorem hvX7_add : yX7_add.cls = RX7 ∧ yX7_add.cls ≠ "java/lang/invoke/MethodHandle" ∧ yX7_add.cls ≠ "java/lang/invoke/VarHandle" ∧ (parseMethodDescriptor yX7_add.desc).map (fun d => d.parameters.length) = some 1 := by decide +kernel
set_option maxRecDepth 100000 in
set_option maxHeartbeats 4000000 in
theorem ct_X7_add (l : Launch) (D : va_G) (cI cZ cO : ClassId) (a : Nat → Nat) {u : TS} {x1 : Int32} {r : Int32} {o : TS} (hf : f_X7_add u x1 = some (r, o)) : Ct l yX7_add (uw (Cond.code yX7_add cX7_add 2 (some .int))) rmX7_add D (tyL cI cZ cO) E0 [.ref (a 0), .int x1] (wT cI cZ cO a u) (some (.int r)) (wT cI cZ cO a o) := by
  refine sm_start (cc := cX7_add) (maxL := 2) (ret := (some .int)) (own := RX7) (by decide) rfl rfl (Nat.le_of_ble_eq_true rfl) (lv := [(0, .ref (a 0)), (1, .int x1)]) rfl ?_
  intro p e s m below meth c A F hE hA
  unfold f_X7_add at hf
  refine sm_aload_n F dX7_add_0 rfl 0 rfl ?_
  refine sm_get (v := .ref (a 1)) F inX7 0 rfl rfl 0 (by decide) qw1_161 rfl rfl dX7_add_1 ?_
  refine sm_aload_n F dX7_add_4 rfl 0 rfl ?_
  refine sm_get (v := .int (gT_size u)) F inX7 0 rfl rfl 1 (by decide) qw1_162 rfl rfl dX7_add_5 ?_
  refine sm_iload_n F dX7_add_8 rfl 1 rfl ?_
  obtain ⟨h9, hf⟩ := ck_some hf
  refine sm_iast F 1 0 rfl rfl h9 (wT cI cZ cO a (sT_let u (upd (gT_let u) (Int32.toNatClampNeg (gT_size u)) x1))) rfl dX7_add_9 ?_
  refine sm_aload_n F dX7_add_10 rfl 0 rfl ?_
  refine sm_dup F dX7_add_11 rfl ?_
  refine sm_get (v := .int (gT_size (sT_let u (upd (gT_let u) (Int32.toNatClampNeg (gT_size u)) x1)))) F inX7 0 rfl rfl 1 (by decide) qw1_162 rfl rfl dX7_add_12 ?_
  refine sm_iconst F dX7_add_15 kc_i_1 ?_
  refine sm_iadd F dX7_add_16 ?_
  obtain ⟨v17, hv17, hf⟩ := bd_some hf
  refine sm_topi (Option.some.inj hv17) ?_
  refine sm_put F inX7 tyX7 tyX7_ok nmX7 0 rfl rfl 1 (by decide) qw1_162 rfl rfl rfl rfl (Nat.le_of_ble_eq_true rfl) (wT cI cZ cO a (sT_size (sT_let u (upd (gT_let u) (Int32.toNatClampNeg (gT_size u)) x1)) v17)) rfl dX7_add_17 ?_
  refine sm_aload_n F dX7_add_20 rfl 0 rfl ?_
  refine sm_get (v := .int (gT_size (sT_size (sT_let u (upd (gT_let u) (Int32.toNatClampNeg (gT_size u)) x1)) v17))) F inX7 0 rfl rfl 1 (by decide) qw1_162 rfl rfl dX7_add_21 ?_
  exact sm_iret F dX7_add_24 (Prod.mk.inj (Option.some.inj hf)).1 (congrArg (fun z => (wT cI cZ cO a z)) (Prod.mk.inj (Option.some.inj hf)).2)
/-! SoManyForgotten$Telling.forgetLetters()V -/
abbrev rmX7_forgetLetters : Room := { frames := 0, cells := 0, slots := 0, locals := 0 }
set_option maxRecDepth 100000 in
theorem hvX7_forgetLetters : yX7_forgetLetters.cls = RX7 ∧ yX7_forgetLetters.cls ≠ "java/lang/invoke/MethodHandle" ∧ yX7_forgetLetters.cls ≠ "java/lang/invoke/VarHandle" ∧ (parseMethodDescriptor yX7_forgetLetters.desc).map (fun d => d.parameters.length) = some 0 := by decide +kernel
set_option maxRecDepth 100000 in
set_option maxHeartbeats 4000000 in
theorem ct_X7_forgetLetters (l : Launch) (D : va_G) (cI cZ cO : ClassId) (a : Nat → Nat) {u : TS} {o : TS} (hf : f_X7_forgetLetters u = some o) : Ct l yX7_forgetLetters (uw (Cond.code yX7_forgetLetters cX7_forgetLetters 1 none)) rmX7_forgetLetters D (tyL cI cZ cO) E0 [.ref (a 0)] (wT cI cZ cO a u) none (wT cI cZ cO a o) := by
  refine sm_start (cc := cX7_forgetLetters) (maxL := 1) (ret := none) (own := RX7) (by decide) rfl rfl (Nat.le_of_ble_eq_true rfl) (lv := [(0, .ref (a 0))]) rfl ?_
  intro p e s m below meth c A F hE hA
  unfold f_X7_forgetLetters at hf
  refine sm_aload_n F dX7_forgetLetters_0 rfl 0 rfl ?_
  refine sm_iconst F dX7_forgetLetters_1 kc_i_0 ?_
  refine sm_put F inX7 tyX7 tyX7_ok nmX7 0 rfl rfl 1 (by decide) qw1_162 rfl rfl rfl rfl (Nat.le_of_ble_eq_true rfl) (wT cI cZ cO a (sT_size u (0 : Int32))) rfl dX7_forgetLetters_2 ?_
  exact sm_vret F dX7_forgetLetters_5 (congrArg (fun z => (wT cI cZ cO a z)) (Option.some.inj hf))
/-! SoManyForgotten$Telling.isStart(I)Z -/
abbrev rmX7_isStart : Room := { frames := 0, cells := 0, slots := 0, locals := 0 }
set_option maxRecDepth 100000 in
theorem hvX7_isStart : yX7_isStart.cls = RX7 ∧ yX7_isStart.cls ≠ "java/lang/invoke/MethodHandle" ∧ yX7_isStart.cls ≠ "java/lang/invoke/VarHandle" ∧ (parseMethodDescriptor yX7_isStart.desc).map (fun d => d.parameters.length) = some 1 := by decide +kernel
set_option maxRecDepth 100000 in
set_option maxHeartbeats 4000000 in
theorem ct_X7_isStart (l : Launch) (D : va_G) (cI cZ cO : ClassId) (a : Nat → Nat) {u : TS} {x1 : Int32} {r : Int32} (hf : f_X7_isStart u x1 = some r) : Ct l yX7_isStart (uw (Cond.code yX7_isStart cX7_isStart 2 (some .boolean))) rmX7_isStart D (tyL cI cZ cO) E0 [.ref (a 0), .int x1] (wT cI cZ cO a u) (some (.int r)) (wT cI cZ cO a u) := by
  refine sm_start (cc := cX7_isStart) (maxL := 2) (ret := (some .boolean)) (own := RX7) (by decide) rfl rfl (Nat.le_of_ble_eq_true rfl) (lv := [(0, .ref (a 0)), (1, .int x1)]) rfl ?_
  intro p e s m below meth c A F hE hA
  unfold f_X7_isStart at hf
  refine sm_iload_n F dX7_isStart_0 rfl 1 rfl ?_
  refine sm_if_eq (tgt := 17) F dX7_isStart_1 (by decide) (fun c1 => ?_) (fun c1 => ?_)
  · replace hf := if_t c1 hf
    refine sm_iconst F dX7_isStart_17 kc_i_1 ?_
    refine sm_goto (tgt := 22) F dX7_isStart_18 (by decide) ?_
    exact sm_zret F dX7_isStart_22 rfl (Option.some.inj hf) rfl
  · replace hf := if_f c1 hf
    refine sm_aload_n F dX7_isStart_4 rfl 0 rfl ?_
    refine sm_get (v := .ref (a 1)) F inX7 0 rfl rfl 0 (by decide) qw1_161 rfl rfl dX7_isStart_5 ?_
    refine sm_iload_n F dX7_isStart_8 rfl 1 rfl ?_
    refine sm_iconst F dX7_isStart_9 kc_i_1 ?_
    refine sm_isub F dX7_isStart_10 ?_
    obtain ⟨h11, hf⟩ := ck_some hf
    refine sm_iald F 1 0 rfl rfl h11 dX7_isStart_11 ?_
    refine sm_bipush F dX7_isStart_12 kc_b_59 ?_
    refine sm_icmp_ne (tgt := 21) F dX7_isStart_14 (by decide) (fun c14 => ?_) (fun c14 => ?_)
    · replace hf := if_f c14 hf
      refine sm_iconst F dX7_isStart_21 kc_i_0 ?_
      exact sm_zret F dX7_isStart_22 rfl (Option.some.inj hf) rfl
    · replace hf := if_t c14 hf
      refine sm_iconst F dX7_isStart_17 kc_i_1 ?_
      refine sm_goto (tgt := 22) F dX7_isStart_18 (by decide) ?_
      exact sm_zret F dX7_isStart_22 rfl (Option.some.inj hf) rfl
/-! SoManyForgotten$Telling.digit(I)I -/
abbrev rmX7_digit : Room := { frames := 0, cells := 0, slots := 0, locals := 0 }
set_option maxRecDepth 100000 in
theorem hvX7_digit : yX7_digit.cls = RX7 ∧ yX7_digit.cls ≠ "java/lang/invoke/MethodHandle" ∧ yX7_digit.cls ≠ "java/lang/invoke/VarHandle" ∧ (parseMethodDescriptor yX7_digit.desc).map (fun d => d.parameters.length) = some 1 := by decide +kernel
set_option maxRecDepth 100000 in
set_option maxHeartbeats 4000000 in
theorem ct_X7_digit (l : Launch) (D : va_G) (cI cZ cO : ClassId) (a : Nat → Nat) {u : TS} {x1 : Int32} {r : Int32} (hf : f_X7_digit u x1 = some r) : Ct l yX7_digit (uw (Cond.code yX7_digit cX7_digit 2 (some .int))) rmX7_digit D (tyL cI cZ cO) E0 [.ref (a 0), .int x1] (wT cI cZ cO a u) (some (.int r)) (wT cI cZ cO a u) := by
  refine sm_start (cc := cX7_digit) (maxL := 2) (ret := (some .int)) (own := RX7) (by decide) rfl rfl (Nat.le_of_ble_eq_true rfl) (lv := [(0, .ref (a 0)), (1, .int x1)]) rfl ?_
  intro p e s m below meth c A F hE hA
  unfold f_X7_digit at hf
  refine sm_iload_n F dX7_digit_0 rfl 1 rfl ?_
  refine sm_aload_n F dX7_digit_1 rfl 0 rfl ?_
  refine sm_get (v := .int (gT_size u)) F inX7 0 rfl rfl 1 (by decide) qw1_162 rfl rfl dX7_digit_2 ?_
  refine sm_icmp_ge (tgt := 20) F dX7_digit_5 (by decide) (fun c5 => ?_) (fun c5 => ?_)
  · replace hf := if_t c5 hf
    refine sm_iconst F dX7_digit_20 kc_i_0 ?_
    exact sm_iret F dX7_digit_21 (Option.some.inj hf) rfl
  · replace hf := if_f c5 hf
    refine sm_aload_n F dX7_digit_8 rfl 0 rfl ?_
    refine sm_get (v := .ref (a 1)) F inX7 0 rfl rfl 0 (by decide) qw1_161 rfl rfl dX7_digit_9 ?_
    refine sm_iload_n F dX7_digit_12 rfl 1 rfl ?_
    obtain ⟨h13, hf⟩ := ck_some hf
    refine sm_iald F 1 0 rfl rfl h13 dX7_digit_13 ?_
    refine sm_bipush F dX7_digit_14 kc_b_48 ?_
    refine sm_isub F dX7_digit_16 ?_
    refine sm_goto (tgt := 21) F dX7_digit_17 (by decide) ?_
    exact sm_iret F dX7_digit_21 (Option.some.inj hf) rfl
/-! SoManyForgotten$Telling.number(I)I -/
abbrev rmX7_number : Room := { frames := 1, cells := 0, slots := 0, locals := 21 }
set_option maxRecDepth 100000 in
theorem hvX7_number : yX7_number.cls = RX7 ∧ yX7_number.cls ≠ "java/lang/invoke/MethodHandle" ∧ yX7_number.cls ≠ "java/lang/invoke/VarHandle" ∧ (parseMethodDescriptor yX7_number.desc).map (fun d => d.parameters.length) = some 1 := by decide +kernel
set_option maxRecDepth 100000 in
set_option maxHeartbeats 4000000 in
theorem ct_X7_number (l : Launch) (D : va_G) (cI cZ cO : ClassId) (a : Nat → Nat) {u : TS} {x1 : Int32} {r : Int32} (hf : f_X7_number u x1 = some r) : Ct l yX7_number (uw (Cond.code yX7_number cX7_number 2 (some .int))) rmX7_number D (tyL cI cZ cO) E0 [.ref (a 0), .int x1] (wT cI cZ cO a u) (some (.int r)) (wT cI cZ cO a u) := by
  refine sm_start (cc := cX7_number) (maxL := 2) (ret := (some .int)) (own := RX7) (by decide) rfl rfl (Nat.le_of_ble_eq_true rfl) (lv := [(0, .ref (a 0)), (1, .int x1)]) rfl ?_
  intro p e s m below meth c A F hE hA
  unfold f_X7_number at hf
  refine sm_bipush F dX7_number_0 kc_b_10 ?_
  refine sm_aload_n F dX7_number_2 rfl 0 rfl ?_
  refine sm_iload_n F dX7_number_3 rfl 1 rfl ?_
  obtain ⟨z4, hz4, hf⟩ := bd_some hf
  refine sm_callV (rest := [.int (10 : Int32)]) F (ct_X7_digit l D cI cZ cO a hz4) (cut_T_id cI cZ cO a u u) rfl rfl rfl qw2_153 qw2_155 qw0_6 qw1_10 qw2_156 hvX7_digit ⟨Nat.le_of_ble_eq_true rfl, Nat.le_of_ble_eq_true rfl⟩ ⟨Nat.zero_le _, Nat.zero_le _⟩ 0 7 rfl rfl rfl rfl (Nat.le_of_ble_eq_true rfl) E0_b (fun _ _ _ _ _ _ => trivial) rfl dX7_number_4 [.int z4, .int (10 : Int32)] rfl ?_
  refine sm_imul F dX7_number_7 ?_
  refine sm_aload_n F dX7_number_8 rfl 0 rfl ?_
  refine sm_iload_n F dX7_number_9 rfl 1 rfl ?_
  refine sm_iconst F dX7_number_10 kc_i_1 ?_
  refine sm_iadd F dX7_number_11 ?_
  obtain ⟨z12, hz12, hf⟩ := bd_some hf
  refine sm_callV (rest := [.int ((10 : Int32) * z4)]) F (ct_X7_digit l D cI cZ cO a hz12) (cut_T_id cI cZ cO a u u) rfl rfl rfl qw2_153 qw2_155 qw0_6 qw1_10 qw2_156 hvX7_digit ⟨Nat.le_of_ble_eq_true rfl, Nat.le_of_ble_eq_true rfl⟩ ⟨Nat.zero_le _, Nat.zero_le _⟩ 0 7 rfl rfl rfl rfl (Nat.le_of_ble_eq_true rfl) E0_b (fun _ _ _ _ _ _ => trivial) rfl dX7_number_12 [.int z12, .int ((10 : Int32) * z4)] rfl ?_
  refine sm_iadd F dX7_number_15 ?_
  exact sm_iret F dX7_number_16 (Option.some.inj hf) rfl
/-! SoManyForgotten$Telling.carryOutRecalls(LSoManyForgotten$Valley;III)Z -/
abbrev rmX7_carryOutRecalls : Room := { frames := 2, cells := 0, slots := 0, locals := 43 }
set_option maxRecDepth 100000 in
theorem hsX7_carryOutRecalls : yX7_carryOutRecalls.cls ≠ "java/lang/invoke/MethodHandle" ∧ yX7_carryOutRecalls.cls ≠ "java/lang/invoke/VarHandle" ∧ (parseMethodDescriptor yX7_carryOutRecalls.desc).map (fun d => d.parameters.length) = some 4 := by decide +kernel
set_option maxRecDepth 100000 in
set_option maxHeartbeats 4000000 in
theorem ct_X7_carryOutRecalls (l : Launch) (D : va_G) (cI cZ cO : ClassId) (a : Nat → Nat) {u : VS} {x1 : Int32} {x2 : Int32} {x3 : Int32} {r : Int32} {o : VS} (hf : f_X7_carryOutRecalls u x1 x2 x3 = some (r, o)) : Ct l yX7_carryOutRecalls (uw (Cond.code yX7_carryOutRecalls cX7_carryOutRecalls 4 (some .boolean))) rmX7_carryOutRecalls D (tyL cI cZ cO) E0 [.ref (a 0), .int x1, .int x2, .int x3] (wV cI cZ cO a u) (some (.int r)) (wV cI cZ cO a o) := by
  refine sm_start (cc := cX7_carryOutRecalls) (maxL := 4) (ret := (some .boolean)) (own := RX7) (by decide) rfl rfl (Nat.le_of_ble_eq_true rfl) (lv := [(0, .ref (a 0)), (1, .int x1), (2, .int x2), (3, .int x3)]) rfl ?_
  intro p e s m below meth c A F hE hA
  unfold f_X7_carryOutRecalls at hf
  refine sm_aload_n F dX7_carryOutRecalls_0 rfl 0 rfl ?_
  refine sm_iload_n F dX7_carryOutRecalls_1 rfl 1 rfl ?_
  refine sm_iload_n F dX7_carryOutRecalls_2 rfl 2 rfl ?_
  obtain ⟨z3, hz3, hf⟩ := bd_some hf
  refine sm_callV (rest := []) F (ct_X8_areTwo l D cI cZ cO a hz3) (cut_V_id cI cZ cO a u u) rfl rfl rfl qw2_172 qw2_173 qw2_174 qw1_8 qw2_175 hvX8_areTwo ⟨Nat.le_of_ble_eq_true rfl, Nat.le_of_ble_eq_true rfl⟩ ⟨Nat.zero_le _, Nat.zero_le _⟩ 0 8 rfl rfl rfl rfl (Nat.le_of_ble_eq_true rfl) E0_b (fun _ _ _ _ _ _ => trivial) rfl dX7_carryOutRecalls_3 [.int z3] rfl ?_
  refine sm_if_ne (tgt := 11) F dX7_carryOutRecalls_6 (by decide) (fun c6 => ?_) (fun c6 => ?_)
  · replace hf := if_f c6 hf
    refine sm_aload_n F dX7_carryOutRecalls_11 rfl 0 rfl ?_
    refine sm_iload_n F dX7_carryOutRecalls_12 rfl 1 rfl ?_
    refine sm_iload_n F dX7_carryOutRecalls_13 rfl 2 rfl ?_
    refine sm_iload_n F dX7_carryOutRecalls_14 rfl 3 rfl ?_
    obtain ⟨z15, hz15, hf⟩ := bd_some hf
    refine sm_callV (rest := []) F (ct_X8_setMemory l D cI cZ cO a hz15) (cut_V_id cI cZ cO a u z15) rfl rfl rfl qw2_180 qw2_162 qw2_163 qw1_8 qw2_164 hvX8_setMemory ⟨Nat.le_of_ble_eq_true rfl, Nat.le_of_ble_eq_true rfl⟩ ⟨Nat.zero_le _, Nat.zero_le _⟩ 0 8 rfl rfl rfl rfl (Nat.le_of_ble_eq_true rfl) E0_b (fun _ _ _ _ _ _ => trivial) rfl dX7_carryOutRecalls_15 [] rfl ?_
    refine sm_iconst F dX7_carryOutRecalls_18 kc_i_1 ?_
    exact sm_zret F dX7_carryOutRecalls_19 rfl (Prod.mk.inj (Option.some.inj hf)).1 (congrArg (fun z => (wV cI cZ cO a z)) (Prod.mk.inj (Option.some.inj hf)).2)
  · replace hf := if_t c6 hf
    refine sm_iconst F dX7_carryOutRecalls_9 kc_i_0 ?_
    exact sm_zret F dX7_carryOutRecalls_10 rfl (Prod.mk.inj (Option.some.inj hf)).1 (congrArg (fun z => (wV cI cZ cO a z)) (Prod.mk.inj (Option.some.inj hf)).2)
/-! SoManyForgotten$Telling.carryOutOwes(LSoManyForgotten$Valley;II)Z -/
abbrev rmX7_carryOutOwes : Room := { frames := 1, cells := 0, slots := 0, locals := 21 }
set_option maxRecDepth 100000 in
theorem hsX7_carryOutOwes : yX7_carryOutOwes.cls ≠ "java/lang/invoke/MethodHandle" ∧ yX7_carryOutOwes.cls ≠ "java/lang/invoke/VarHandle" ∧ (parseMethodDescriptor yX7_carryOutOwes.desc).map (fun d => d.parameters.length) = some 3 := by decide +kernel
set_option maxRecDepth 100000 in
set_option maxHeartbeats 4000000 in
theorem ct_X7_carryOutOwes (l : Launch) (D : va_G) (cI cZ cO : ClassId) (a : Nat → Nat) {u : VS} {x1 : Int32} {x2 : Int32} {r : Int32} {o : VS} (hf : f_X7_carryOutOwes u x1 x2 = some (r, o)) : Ct l yX7_carryOutOwes (uw (Cond.code yX7_carryOutOwes cX7_carryOutOwes 3 (some .boolean))) rmX7_carryOutOwes D (tyL cI cZ cO) E0 [.ref (a 0), .int x1, .int x2] (wV cI cZ cO a u) (some (.int r)) (wV cI cZ cO a o) := by
  refine sm_start (cc := cX7_carryOutOwes) (maxL := 3) (ret := (some .boolean)) (own := RX7) (by decide) rfl rfl (Nat.le_of_ble_eq_true rfl) (lv := [(0, .ref (a 0)), (1, .int x1), (2, .int x2)]) rfl ?_
  intro p e s m below meth c A F hE hA
  unfold f_X7_carryOutOwes at hf
  refine sm_aload_n F dX7_carryOutOwes_0 rfl 0 rfl ?_
  refine sm_iload_n F dX7_carryOutOwes_1 rfl 1 rfl ?_
  obtain ⟨z2, hz2, hf⟩ := bd_some hf
  refine sm_callV (rest := []) F (ct_X8_has l D cI cZ cO a hz2) (cut_V_id cI cZ cO a u u) rfl rfl rfl qw2_184 qw2_177 qw2_178 qw1_8 qw2_179 hvX8_has ⟨Nat.le_of_ble_eq_true rfl, Nat.le_of_ble_eq_true rfl⟩ ⟨Nat.zero_le _, Nat.zero_le _⟩ 0 8 rfl rfl rfl rfl (Nat.le_of_ble_eq_true rfl) E0_b (fun _ _ _ _ _ _ => trivial) rfl dX7_carryOutOwes_2 [.int z2] rfl ?_
  refine sm_if_ne (tgt := 10) F dX7_carryOutOwes_5 (by decide) (fun c5 => ?_) (fun c5 => ?_)
  · replace hf := if_f c5 hf
    refine sm_aload_n F dX7_carryOutOwes_10 rfl 0 rfl ?_
    refine sm_get (v := .ref (a 3)) F inX8 0 rfl rfl 3 (by decide) qw1_87 rfl rfl dX7_carryOutOwes_11 ?_
    refine sm_iload_n F dX7_carryOutOwes_14 rfl 1 rfl ?_
    refine sm_iload_n F dX7_carryOutOwes_15 rfl 2 rfl ?_
    obtain ⟨h16, hf⟩ := ck_some hf
    refine sm_iast F 3 0 rfl rfl h16 (wV cI cZ cO a (sV_owed u (upd (gV_owed u) (Int32.toNatClampNeg x1) x2))) rfl dX7_carryOutOwes_16 ?_
    refine sm_iconst F dX7_carryOutOwes_17 kc_i_1 ?_
    exact sm_zret F dX7_carryOutOwes_18 rfl (Prod.mk.inj (Option.some.inj hf)).1 (congrArg (fun z => (wV cI cZ cO a z)) (Prod.mk.inj (Option.some.inj hf)).2)
  · replace hf := if_t c5 hf
    refine sm_iconst F dX7_carryOutOwes_8 kc_i_0 ?_
    exact sm_zret F dX7_carryOutOwes_9 rfl (Prod.mk.inj (Option.some.inj hf)).1 (congrArg (fun z => (wV cI cZ cO a z)) (Prod.mk.inj (Option.some.inj hf)).2)
/-! SoManyForgotten$Telling.carryOutSpeaks(LSoManyForgotten$Valley;II)Z -/
abbrev rmX7_carryOutSpeaks : Room := { frames := 3, cells := 0, slots := 0, locals := 71 }
set_option maxRecDepth 100000 in
theorem hsX7_carryOutSpeaks : yX7_carryOutSpeaks.cls ≠ "java/lang/invoke/MethodHandle" ∧ yX7_carryOutSpeaks.cls ≠ "java/lang/invoke/VarHandle" ∧ (parseMethodDescriptor yX7_carryOutSpeaks.desc).map (fun d => d.parameters.length) = some 3 := by decide +kernel
set_option maxRecDepth 100000 in
set_option maxHeartbeats 4000000 in
theorem ct_X7_carryOutSpeaks (l : Launch) (D : va_G) (cI cZ cO : ClassId) (a : Nat → Nat) {u : VS} {x1 : Int32} {x2 : Int32} {r : Int32} {o : VS} (hf : f_X7_carryOutSpeaks u x1 x2 = some (r, o)) : Ct l yX7_carryOutSpeaks (uw (Cond.code yX7_carryOutSpeaks cX7_carryOutSpeaks 3 (some .boolean))) rmX7_carryOutSpeaks D (tyL cI cZ cO) E0 [.ref (a 0), .int x1, .int x2] (wV cI cZ cO a u) (some (.int r)) (wV cI cZ cO a o) := by
  refine sm_start (cc := cX7_carryOutSpeaks) (maxL := 3) (ret := (some .boolean)) (own := RX7) (by decide) rfl rfl (Nat.le_of_ble_eq_true rfl) (lv := [(0, .ref (a 0)), (1, .int x1), (2, .int x2)]) rfl ?_
  intro p e s m below meth c A F hE hA
  unfold f_X7_carryOutSpeaks at hf
  refine sm_aload_n F dX7_carryOutSpeaks_0 rfl 0 rfl ?_
  refine sm_iload_n F dX7_carryOutSpeaks_1 rfl 1 rfl ?_
  refine sm_iload_n F dX7_carryOutSpeaks_2 rfl 2 rfl ?_
  obtain ⟨z3, hz3, hf⟩ := bd_some hf
  refine sm_callV (rest := []) F (ct_X8_areTwoHere l D cI cZ cO a hz3) (cut_V_id cI cZ cO a u u) rfl rfl rfl qw2_188 qw2_189 qw2_190 qw1_8 qw2_191 hvX8_areTwoHere ⟨Nat.le_of_ble_eq_true rfl, Nat.le_of_ble_eq_true rfl⟩ ⟨Nat.zero_le _, Nat.zero_le _⟩ 0 8 rfl rfl rfl rfl (Nat.le_of_ble_eq_true rfl) E0_b (fun _ _ _ _ _ _ => trivial) rfl dX7_carryOutSpeaks_3 [.int z3] rfl ?_
  refine sm_if_ne (tgt := 11) F dX7_carryOutSpeaks_6 (by decide) (fun c6 => ?_) (fun c6 => ?_)
  · replace hf := if_f c6 hf
    refine sm_aload_n F dX7_carryOutSpeaks_11 rfl 0 rfl ?_
    refine sm_iload_n F dX7_carryOutSpeaks_12 rfl 1 rfl ?_
    refine sm_iload_n F dX7_carryOutSpeaks_13 rfl 2 rfl ?_
    obtain ⟨z14, hz14, hf⟩ := bd_some hf
    refine sm_callV (rest := []) F (ct_X8_talk l D cI cZ cO a hz14) (cut_V_id cI cZ cO a u z14) rfl rfl rfl qw2_196 qw2_197 qw2_198 qw1_8 qw2_199 hvX8_talk ⟨Nat.le_of_ble_eq_true rfl, Nat.le_of_ble_eq_true rfl⟩ ⟨Nat.zero_le _, Nat.zero_le _⟩ 0 8 rfl rfl rfl rfl (Nat.le_of_ble_eq_true rfl) E0_b (fun _ _ _ _ _ _ => trivial) rfl dX7_carryOutSpeaks_14 [] rfl ?_
    refine sm_iconst F dX7_carryOutSpeaks_17 kc_i_1 ?_
    exact sm_zret F dX7_carryOutSpeaks_18 rfl (Prod.mk.inj (Option.some.inj hf)).1 (congrArg (fun z => (wV cI cZ cO a z)) (Prod.mk.inj (Option.some.inj hf)).2)
  · replace hf := if_t c6 hf
    refine sm_iconst F dX7_carryOutSpeaks_9 kc_i_0 ?_
    exact sm_zret F dX7_carryOutSpeaks_10 rfl (Prod.mk.inj (Option.some.inj hf)).1 (congrArg (fun z => (wV cI cZ cO a z)) (Prod.mk.inj (Option.some.inj hf)).2)
/-! SoManyForgotten$Telling.carryOutBack(LSoManyForgotten$Valley;I)Z -/
abbrev rmX7_carryOutBack : Room := { frames := 2, cells := 0, slots := 0, locals := 44 }
set_option maxRecDepth 100000 in
theorem hsX7_carryOutBack : yX7_carryOutBack.cls ≠ "java/lang/invoke/MethodHandle" ∧ yX7_carryOutBack.cls ≠ "java/lang/invoke/VarHandle" ∧ (parseMethodDescriptor yX7_carryOutBack.desc).map (fun d => d.parameters.length) = some 2 := by decide +kernel
set_option maxRecDepth 100000 in
set_option maxHeartbeats 4000000 in
theorem ct_X7_carryOutBack (l : Launch) (D : va_G) (cI cZ cO : ClassId) (a : Nat → Nat) {u : VS} {x1 : Int32} {r : Int32} {o : VS} (hf : f_X7_carryOutBack u x1 = some (r, o)) : Ct l yX7_carryOutBack (uw (Cond.code yX7_carryOutBack cX7_carryOutBack 2 (some .boolean))) rmX7_carryOutBack D (tyL cI cZ cO) E0 [.ref (a 0), .int x1] (wV cI cZ cO a u) (some (.int r)) (wV cI cZ cO a o) := by
  refine sm_start (cc := cX7_carryOutBack) (maxL := 2) (ret := (some .boolean)) (own := RX7) (by decide) rfl rfl (Nat.le_of_ble_eq_true rfl) (lv := [(0, .ref (a 0)), (1, .int x1)]) rfl ?_
  intro p e s m below meth c A F hE hA
  unfold f_X7_carryOutBack at hf
  refine sm_aload_n F dX7_carryOutBack_0 rfl 0 rfl ?_
  refine sm_iload_n F dX7_carryOutBack_1 rfl 1 rfl ?_
  obtain ⟨z2, hz2, hf⟩ := bd_some hf
  refine sm_callV (rest := []) F (ct_X8_has l D cI cZ cO a hz2) (cut_V_id cI cZ cO a u u) rfl rfl rfl qw2_184 qw2_177 qw2_178 qw1_8 qw2_179 hvX8_has ⟨Nat.le_of_ble_eq_true rfl, Nat.le_of_ble_eq_true rfl⟩ ⟨Nat.zero_le _, Nat.zero_le _⟩ 0 8 rfl rfl rfl rfl (Nat.le_of_ble_eq_true rfl) E0_b (fun _ _ _ _ _ _ => trivial) rfl dX7_carryOutBack_2 [.int z2] rfl ?_
  refine sm_if_eq (tgt := 17) F dX7_carryOutBack_5 (by decide) (fun c5 => ?_) (fun c5 => ?_)
  · replace hf := if_t c5 hf
    refine sm_iconst F dX7_carryOutBack_17 kc_i_0 ?_
    exact sm_zret F dX7_carryOutBack_18 rfl (Prod.mk.inj (Option.some.inj hf)).1 (congrArg (fun z => (wV cI cZ cO a z)) (Prod.mk.inj (Option.some.inj hf)).2)
  · replace hf := if_f c5 hf
    refine sm_aload_n F dX7_carryOutBack_8 rfl 0 rfl ?_
    refine sm_get (v := .ref (a 4)) F inX8 0 rfl rfl 4 (by decide) qw1_92 rfl rfl dX7_carryOutBack_9 ?_
    refine sm_iload_n F dX7_carryOutBack_12 rfl 1 rfl ?_
    obtain ⟨h13, hf⟩ := ck_some hf
    refine sm_zald F 4 1 rfl rfl h13 dX7_carryOutBack_13 ?_
    refine sm_if_eq (tgt := 19) F dX7_carryOutBack_14 (by decide) (fun c14 => ?_) (fun c14 => ?_)
    · replace hf := if_t c14 hf
      refine sm_aload_n F dX7_carryOutBack_19 rfl 0 rfl ?_
      refine sm_iload_n F dX7_carryOutBack_20 rfl 1 rfl ?_
      obtain ⟨z21, hz21, hf⟩ := bd_some hf
      refine sm_callV (rest := []) F (ct_X8_comeBack l D cI cZ cO a hz21) (cut_V_id cI cZ cO a u z21) rfl rfl rfl qw2_208 qw2_209 qw2_210 qw1_8 qw2_211 hvX8_comeBack ⟨Nat.le_of_ble_eq_true rfl, Nat.le_of_ble_eq_true rfl⟩ ⟨Nat.zero_le _, Nat.zero_le _⟩ 0 8 rfl rfl rfl rfl (Nat.le_of_ble_eq_true rfl) E0_b (fun _ _ _ _ _ _ => trivial) rfl dX7_carryOutBack_21 [] rfl ?_
      refine sm_iconst F dX7_carryOutBack_24 kc_i_1 ?_
      exact sm_zret F dX7_carryOutBack_25 rfl (Prod.mk.inj (Option.some.inj hf)).1 (congrArg (fun z => (wV cI cZ cO a z)) (Prod.mk.inj (Option.some.inj hf)).2)
    · replace hf := if_f c14 hf
      refine sm_iconst F dX7_carryOutBack_17 kc_i_0 ?_
      exact sm_zret F dX7_carryOutBack_18 rfl (Prod.mk.inj (Option.some.inj hf)).1 (congrArg (fun z => (wV cI cZ cO a z)) (Prod.mk.inj (Option.some.inj hf)).2)
/-! SoManyForgotten$Telling.carryOutNames(LSoManyForgotten$Valley;I)Z -/
abbrev rmX7_carryOutNames : Room := { frames := 0, cells := 0, slots := 0, locals := 0 }
set_option maxRecDepth 100000 in
theorem hsX7_carryOutNames : yX7_carryOutNames.cls ≠ "java/lang/invoke/MethodHandle" ∧ yX7_carryOutNames.cls ≠ "java/lang/invoke/VarHandle" ∧ (parseMethodDescriptor yX7_carryOutNames.desc).map (fun d => d.parameters.length) = some 2 := by decide +kernel
set_option maxRecDepth 100000 in
set_option maxHeartbeats 4000000 in
theorem ct_X7_carryOutNames (l : Launch) (D : va_G) (cI cZ cO : ClassId) (a : Nat → Nat) {u : VS} {x1 : Int32} {r : Int32} {o : VS} (hf : f_X7_carryOutNames u x1 = some (r, o)) : Ct l yX7_carryOutNames (uw (Cond.code yX7_carryOutNames cX7_carryOutNames 2 (some .boolean))) rmX7_carryOutNames D (tyL cI cZ cO) E0 [.ref (a 0), .int x1] (wV cI cZ cO a u) (some (.int r)) (wV cI cZ cO a o) := by
  refine sm_start (cc := cX7_carryOutNames) (maxL := 2) (ret := (some .boolean)) (own := RX7) (by decide) rfl rfl (Nat.le_of_ble_eq_true rfl) (lv := [(0, .ref (a 0)), (1, .int x1)]) rfl ?_
  intro p e s m below meth c A F hE hA
  unfold f_X7_carryOutNames at hf
  refine sm_iload_n F dX7_carryOutNames_0 rfl 1 rfl ?_
  refine sm_iconst F dX7_carryOutNames_1 kc_i_3 ?_
  refine sm_icmp_le (tgt := 7) F dX7_carryOutNames_2 (by decide) (fun c2 => ?_) (fun c2 => ?_)
  · replace hf := if_t c2 hf
    refine sm_aload_n F dX7_carryOutNames_7 rfl 0 rfl ?_
    refine sm_iload_n F dX7_carryOutNames_8 rfl 1 rfl ?_
    refine sm_put F inX8 tyX8 tyX8_ok nmX8 0 rfl rfl 7 (by decide) qw1_100 rfl rfl rfl rfl (Nat.le_of_ble_eq_true rfl) (wV cI cZ cO a (sV_names u x1)) rfl dX7_carryOutNames_9 ?_
    refine sm_iconst F dX7_carryOutNames_12 kc_i_1 ?_
    exact sm_zret F dX7_carryOutNames_13 rfl (Prod.mk.inj (Option.some.inj hf)).1 (congrArg (fun z => (wV cI cZ cO a z)) (Prod.mk.inj (Option.some.inj hf)).2)
  · replace hf := if_f c2 hf
    refine sm_iconst F dX7_carryOutNames_5 kc_i_0 ?_
    exact sm_zret F dX7_carryOutNames_6 rfl (Prod.mk.inj (Option.some.inj hf)).1 (congrArg (fun z => (wV cI cZ cO a z)) (Prod.mk.inj (Option.some.inj hf)).2)
/-! SoManyForgotten$Telling.carryOutWeeks(LSoManyForgotten$Valley;I)Z -/
abbrev rmX7_carryOutWeeks : Room := { frames := 4, cells := 0, slots := 0, locals := 94 }
set_option maxRecDepth 100000 in
theorem hsX7_carryOutWeeks : yX7_carryOutWeeks.cls ≠ "java/lang/invoke/MethodHandle" ∧ yX7_carryOutWeeks.cls ≠ "java/lang/invoke/VarHandle" ∧ (parseMethodDescriptor yX7_carryOutWeeks.desc).map (fun d => d.parameters.length) = some 2 := by decide +kernel
set_option maxRecDepth 100000 in
set_option maxHeartbeats 4000000 in
theorem s_X7_carryOutWeeks_27_b {p : Program} {l : Launch} {e : Env} {s : State} {m : MethodId} {args : Array Value} {below : List Frame} {meth : Method} {c : Code} {A : Nat → Prop} {D : va_G} {cI cZ cO : ClassId} {a : Nat → Nat} {r : Int32} {o : VS} (F : smF p s m args meth c cX7_carryOutWeeks 3 (some .boolean) RX7 D (tyL cI cZ cO) A) (x1 : Int32) (k27 : VS → Int32 → Option (Int32 × (VS))) (hk27 : ∀ (u' : VS) (x2' : Int32), k27 u' x2' = some (r, o) → Sm p l e rmX7_carryOutWeeks s m args below meth c D A 3 0 0 (smQ below args s D A (some (.int r)) (wV cI cZ cO a o)) 27 [(0, .ref (a 0)), (1, .int x1), (2, .int x2')] [] (wV cI cZ cO a u')) (u : VS) (x2 : Int32) (hf : b_X7_carryOutWeeks_27 x1  k27 u x2 = some (r, o)) : Sm p l e rmX7_carryOutWeeks s m args below meth c D A 3 0 0 (smQ below args s D A (some (.int r)) (wV cI cZ cO a o)) 27 [(0, .ref (a 0)), (1, .int x1), (2, .int x2)] [] (wV cI cZ cO a u) := by
  unfold b_X7_carryOutWeeks_27 at hf
  refine sm_iload_n F dX7_carryOutWeeks_27 rfl 2 rfl ?_
  refine sm_iload_n F dX7_carryOutWeeks_28 rfl 1 rfl ?_
  refine sm_icmp_ge (tgt := 42) F dX7_carryOutWeeks_29 (by decide) (fun c29 => ?_) (fun c29 => ?_)
  · replace hf := if_t c29 hf
    refine sm_iconst F dX7_carryOutWeeks_42 kc_i_1 ?_
    exact sm_zret F dX7_carryOutWeeks_43 rfl (Prod.mk.inj (Option.some.inj hf)).1 (congrArg (fun z => (wV cI cZ cO a z)) (Prod.mk.inj (Option.some.inj hf)).2)
  · replace hf := if_f c29 hf
    refine sm_aload_n F dX7_carryOutWeeks_32 rfl 0 rfl ?_
    obtain ⟨z33, hz33, hf⟩ := bd_some hf
    refine sm_callV (rest := []) F (ct_X8_passWeek l D cI cZ cO a hz33) (cut_V_id cI cZ cO a u z33) rfl rfl rfl qw2_222 qw2_223 qw2_224 qw1_8 qw2_225 hvX8_passWeek ⟨Nat.le_of_ble_eq_true rfl, Nat.le_of_ble_eq_true rfl⟩ ⟨Nat.zero_le _, Nat.zero_le _⟩ 0 8 rfl rfl rfl rfl (Nat.le_of_ble_eq_true rfl) E0_b (fun _ _ _ _ _ _ => trivial) rfl dX7_carryOutWeeks_33 [] rfl ?_
    refine sm_iinc F [(0, .ref (a 0)), (1, .int x1), (2, .int (x2 + 1))] 2 [1, 2, 0] dX7_carryOutWeeks_36 rfl kc_i_1 (by decide) rfl ?_
    refine sm_goto (tgt := 27) F dX7_carryOutWeeks_39 (by decide) ?_
    exact hk27 z33 (x2 + 1) hf
set_option maxRecDepth 100000 in
set_option maxHeartbeats 4000000 in
theorem s_X7_carryOutWeeks_27 {p : Program} {l : Launch} {e : Env} {s : State} {m : MethodId} {args : Array Value} {below : List Frame} {meth : Method} {c : Code} {A : Nat → Prop} {D : va_G} {cI cZ cO : ClassId} {a : Nat → Nat} {r : Int32} {o : VS} (F : smF p s m args meth c cX7_carryOutWeeks 3 (some .boolean) RX7 D (tyL cI cZ cO) A) (x1 : Int32)  (n : Nat) (u : VS) (x2 : Int32) (hf : f_X7_carryOutWeeks_27 x1  n u x2 = some (r, o)) : Sm p l e rmX7_carryOutWeeks s m args below meth c D A 3 0 0 (smQ below args s D A (some (.int r)) (wV cI cZ cO a o)) 27 [(0, .ref (a 0)), (1, .int x1), (2, .int x2)] [] (wV cI cZ cO a u) :=
  lq2_ind (P := fun (u : VS) (x2 : Int32) => Sm p l e rmX7_carryOutWeeks s m args below meth c D A 3 0 0 (smQ below args s D A (some (.int r)) (wV cI cZ cO a o)) 27 [(0, .ref (a 0)), (1, .int x1), (2, .int x2)] [] (wV cI cZ cO a u)) (fun k27 hk27 u x2 h9 => s_X7_carryOutWeeks_27_b F x1  k27 hk27 u x2 h9) n u x2 hf
set_option maxRecDepth 100000 in
set_option maxHeartbeats 4000000 in
theorem ct_X7_carryOutWeeks (l : Launch) (D : va_G) (cI cZ cO : ClassId) (a : Nat → Nat) {u : VS} {x1 : Int32} {r : Int32} {o : VS} (hf : f_X7_carryOutWeeks u x1 = some (r, o)) : Ct l yX7_carryOutWeeks (uw (Cond.code yX7_carryOutWeeks cX7_carryOutWeeks 3 (some .boolean))) rmX7_carryOutWeeks D (tyL cI cZ cO) E0 [.ref (a 0), .int x1] (wV cI cZ cO a u) (some (.int r)) (wV cI cZ cO a o) := by
  refine sm_start (cc := cX7_carryOutWeeks) (maxL := 3) (ret := (some .boolean)) (own := RX7) (by decide) rfl rfl (Nat.le_of_ble_eq_true rfl) (lv := [(0, .ref (a 0)), (1, .int x1)]) rfl ?_
  intro p e s m below meth c A F hE hA
  unfold f_X7_carryOutWeeks at hf
  refine sm_iload_n F dX7_carryOutWeeks_0 rfl 1 rfl ?_
  refine sm_iconst F dX7_carryOutWeeks_1 kc_i_1 ?_
  refine sm_icmp_lt (tgt := 23) F dX7_carryOutWeeks_2 (by decide) (fun c2 => ?_) (fun c2 => ?_)
  · replace hf := if_t c2 hf
    refine sm_iconst F dX7_carryOutWeeks_23 kc_i_0 ?_
    exact sm_zret F dX7_carryOutWeeks_24 rfl (Prod.mk.inj (Option.some.inj hf)).1 (congrArg (fun z => (wV cI cZ cO a z)) (Prod.mk.inj (Option.some.inj hf)).2)
  · replace hf := if_f c2 hf
    refine sm_iload_n F dX7_carryOutWeeks_5 rfl 1 rfl ?_
    refine sm_bipush F dX7_carryOutWeeks_6 kc_b_60 ?_
    refine sm_icmp_gt (tgt := 23) F dX7_carryOutWeeks_8 (by decide) (fun c8 => ?_) (fun c8 => ?_)
    · replace hf := if_t c8 hf
      refine sm_iconst F dX7_carryOutWeeks_23 kc_i_0 ?_
      exact sm_zret F dX7_carryOutWeeks_24 rfl (Prod.mk.inj (Option.some.inj hf)).1 (congrArg (fun z => (wV cI cZ cO a z)) (Prod.mk.inj (Option.some.inj hf)).2)
    · replace hf := if_f c8 hf
      refine sm_aload_n F dX7_carryOutWeeks_11 rfl 0 rfl ?_
      refine sm_get (v := .int (gV_week u)) F inX8 0 rfl rfl 8 (by decide) qw1_103 rfl rfl dX7_carryOutWeeks_12 ?_
      refine sm_iload_n F dX7_carryOutWeeks_15 rfl 1 rfl ?_
      refine sm_iadd F dX7_carryOutWeeks_16 ?_
      refine sm_sipush F dX7_carryOutWeeks_17 kc_s_999 ?_
      refine sm_icmp_le (tgt := 25) F dX7_carryOutWeeks_20 (by decide) (fun c20 => ?_) (fun c20 => ?_)
      · replace hf := if_t c20 hf
        refine sm_iconst F dX7_carryOutWeeks_25 kc_i_0 ?_
        refine sm_istore_n F [(0, .ref (a 0)), (1, .int x1), (2, .int (0 : Int32))] [1, 2, 0] dX7_carryOutWeeks_26 rfl (by decide) rfl ?_
        exact s_X7_carryOutWeeks_27 F x1 smN u (0 : Int32) hf
      · replace hf := if_f c20 hf
        refine sm_iconst F dX7_carryOutWeeks_23 kc_i_0 ?_
        exact sm_zret F dX7_carryOutWeeks_24 rfl (Prod.mk.inj (Option.some.inj hf)).1 (congrArg (fun z => (wV cI cZ cO a z)) (Prod.mk.inj (Option.some.inj hf)).2)
