/-! SoManyForgotten.counted(I)I -/
abbrev rmX10_counted : Room := { frames := 0, cells := 0, slots := 0, locals := 0 }
set_option maxRecDepth 100000 in
theorem hvX10_counted : yX10_counted.cls = RX10 ∧ yX10_counted.cls ≠ "java/lang/invoke/MethodHandle" ∧ yX10_counted.cls ≠ "java/lang/invoke/VarHandle" ∧ (parseMethodDescriptor yX10_counted.desc).map (fun d => d.parameters.length) = some 1 := by decide +kernel
set_option maxRecDepth 100000 in
set_option maxHeartbeats 4000000 in
theorem ct_X10_counted (l : Launch) (D : va_G) (cI cZ cO : ClassId) (a : Nat → Nat) {u : XS} {x1 : Int32} {r : Int32} {o : XS} (hf : f_X10_counted u x1 = some (r, o)) : Ct l yX10_counted (uw (Cond.code yX10_counted cX10_counted 2 (some .int))) rmX10_counted D (tyL cI cZ cO) E0 [.ref (a 0), .int x1] (wX cI cZ cO a u) (some (.int r)) (wX cI cZ cO a o) := by
  refine sm_start (cc := cX10_counted) (maxL := 2) (ret := (some .int)) (own := RX10) (by decide) rfl rfl (Nat.le_of_ble_eq_true rfl) (lv := [(0, .ref (a 0)), (1, .int x1)]) rfl ?_
  intro p e s m below meth c A F hE hA
  unfold f_X10_counted at hf
  refine sm_iload_n F dX10_counted_0 rfl 1 rfl ?_
  refine sm_iconst F dX10_counted_1 kc_i_m1 ?_
  refine sm_icmp_gt (tgt := 22) F dX10_counted_2 (by decide) (fun c2 => ?_) (fun c2 => ?_)
  · replace hf := if_t c2 hf
    refine sm_iload_n F dX10_counted_22 rfl 1 rfl ?_
    exact sm_iret F dX10_counted_23 (Prod.mk.inj (Option.some.inj hf)).1 (congrArg (fun z => (wX cI cZ cO a z)) (Prod.mk.inj (Option.some.inj hf)).2)
  · replace hf := if_f c2 hf
    refine sm_iload_n F dX10_counted_5 rfl 1 rfl ?_
    refine sm_bipush F dX10_counted_6 kc_b_m6 ?_
    refine sm_icmp_lt (tgt := 22) F dX10_counted_8 (by decide) (fun c8 => ?_) (fun c8 => ?_)
    · replace hf := if_t c8 hf
      refine sm_iload_n F dX10_counted_22 rfl 1 rfl ?_
      exact sm_iret F dX10_counted_23 (Prod.mk.inj (Option.some.inj hf)).1 (congrArg (fun z => (wX cI cZ cO a z)) (Prod.mk.inj (Option.some.inj hf)).2)
    · replace hf := if_f c8 hf
      refine sm_aload_n F dX10_counted_11 rfl 0 rfl ?_
      refine sm_get (v := .ref (a 1)) F inX10 0 rfl rfl 6 (by decide) qw1_191 rfl rfl dX10_counted_12 ?_
      refine sm_iload_n F dX10_counted_15 rfl 1 rfl ?_
      refine sm_ineg F dX10_counted_16 ?_
      refine sm_dup2 F dX10_counted_17 rfl rfl ?_
      obtain ⟨h18, hf⟩ := ck_some hf
      refine sm_iald F 1 0 rfl rfl h18 dX10_counted_18 ?_
      refine sm_iconst F dX10_counted_19 kc_i_1 ?_
      refine sm_iadd F dX10_counted_20 ?_
      obtain ⟨h21, hf⟩ := ck_some hf
      refine sm_iast F 1 0 rfl rfl h21 (wX cI cZ cO a (sX_ref u (upd (gX_ref u) (Int32.toNatClampNeg (-x1)) (((gX_ref u) (Int32.toNatClampNeg (-x1))) + (1 : Int32))))) rfl dX10_counted_21 ?_
      obtain ⟨u21, hu21, hf⟩ := bd_some hf
      refine sm_ws (ws' := (wX cI cZ cO a u21)) (congrArg (fun z => (wX cI cZ cO a z)) (Option.some.inj hu21)) ?_
      refine sm_iload_n F dX10_counted_22 rfl 1 rfl ?_
      exact sm_iret F dX10_counted_23 (Prod.mk.inj (Option.some.inj hf)).1 (congrArg (fun z => (wX cI cZ cO a z)) (Prod.mk.inj (Option.some.inj hf)).2)
/-! SoManyForgotten.refused(II)I -/
abbrev rmX10_refused_ : Room := { frames := 1, cells := 0, slots := 0, locals := 21 }
set_option maxRecDepth 100000 in
theorem hvX10_refused_ : yX10_refused_.cls = RX10 ∧ yX10_refused_.cls ≠ "java/lang/invoke/MethodHandle" ∧ yX10_refused_.cls ≠ "java/lang/invoke/VarHandle" ∧ (parseMethodDescriptor yX10_refused_.desc).map (fun d => d.parameters.length) = some 2 := by decide +kernel
set_option maxRecDepth 100000 in
set_option maxHeartbeats 4000000 in
theorem ct_X10_refused_ (l : Launch) (D : va_G) (cI cZ cO : ClassId) (a : Nat → Nat) {u : XS} {x1 : Int32} {x2 : Int32} {r : Int32} {o : XS} (hf : f_X10_refused_ u x1 x2 = some (r, o)) : Ct l yX10_refused_ (uw (Cond.code yX10_refused_ cX10_refused_ 3 (some .int))) rmX10_refused_ D (tyL cI cZ cO) E0 [.ref (a 0), .int x1, .int x2] (wX cI cZ cO a u) (some (.int r)) (wX cI cZ cO a o) := by
  refine sm_start (cc := cX10_refused_) (maxL := 3) (ret := (some .int)) (own := RX10) (by decide) rfl rfl (Nat.le_of_ble_eq_true rfl) (lv := [(0, .ref (a 0)), (1, .int x1), (2, .int x2)]) rfl ?_
  intro p e s m below meth c A F hE hA
  unfold f_X10_refused_ at hf
  refine sm_aload_n F dX10_refused__0 rfl 0 rfl ?_
  refine sm_iload_n F dX10_refused__1 rfl 1 rfl ?_
  refine sm_iload_n F dX10_refused__2 rfl 2 rfl ?_
  obtain ⟨z3, hz3, hf⟩ := bd_some hf
  refine sm_callS (rest := [.ref (a 0)]) F (ct_X10_firstThatFits l D (tyL cI cZ cO) hz3) (cut_X_none cI cZ cO a u) rfl rfl rfl qw1_225 qw1_226 qw1_1 qw1_227 hsX10_firstThatFits ⟨Nat.le_of_ble_eq_true rfl, Nat.le_of_ble_eq_true rfl⟩ ⟨Nat.zero_le _, Nat.zero_le _⟩ rfl (Nat.le_of_ble_eq_true rfl) E0_b (fun _ _ _ _ _ _ => trivial) rfl dX10_refused__3 [.int z3, .ref (a 0)] rfl ?_
  obtain ⟨z6, hz6, hf⟩ := bd_some hf
  refine sm_callV (rest := []) F (ct_X10_counted l D cI cZ cO a hz6) (cut_X_id cI cZ cO a u z6.2) rfl rfl rfl qw1_228 qw1_230 qw0_1 qw1_1 qw1_231 hvX10_counted ⟨Nat.le_of_ble_eq_true rfl, Nat.le_of_ble_eq_true rfl⟩ ⟨Nat.zero_le _, Nat.zero_le _⟩ 0 10 rfl rfl rfl rfl (Nat.le_of_ble_eq_true rfl) E0_b (fun _ _ _ _ _ _ => trivial) rfl dX10_refused__6 [.int z6.1] rfl ?_
  exact sm_iret F dX10_refused__9 (Prod.mk.inj (Option.some.inj hf)).1 (congrArg (fun z => (wX cI cZ cO a z)) (Prod.mk.inj (Option.some.inj hf)).2)
/-! SoManyForgotten.letter(I)I -/
abbrev rmX10_letter : Room := { frames := 2, cells := 0, slots := 0, locals := 43 }
set_option maxRecDepth 100000 in
theorem hvX10_letter : yX10_letter.cls = RX10 ∧ yX10_letter.cls ≠ "java/lang/invoke/MethodHandle" ∧ yX10_letter.cls ≠ "java/lang/invoke/VarHandle" ∧ (parseMethodDescriptor yX10_letter.desc).map (fun d => d.parameters.length) = some 1 := by decide +kernel
set_option maxRecDepth 100000 in
set_option maxHeartbeats 4000000 in
theorem s_X10_letter_25 {p : Program} {l : Launch} {e : Env} {s : State} {m : MethodId} {args : Array Value} {below : List Frame} {meth : Method} {c : Code} {A : Nat → Prop} {D : va_G} {cI cZ cO : ClassId} {a : Nat → Nat} {r : Int32} {o : XS} (F : smF p s m args meth c cX10_letter 3 (some .int) RX10 D (tyL cI cZ cO) A) (x1 : Int32)  (u : XS) (y0 : Int32) (y1 : Int32) (hf : f_X10_letter_25 x1   u y0 y1 = some (r, o)) : Sm p l e rmX10_letter s m args below meth c D A 3 0 0 (smQ below args s D A (some (.int r)) (wX cI cZ cO a o)) 25 [(0, .ref (a 0)), (1, .int x1)] [.int y0, .int y1, .ref (a 0)] (wX cI cZ cO a u) := by
  unfold f_X10_letter_25 at hf
  obtain ⟨z25, hz25, hf⟩ := bd_some hf
  refine sm_callV (rest := []) F (ct_X10_refused_ l D cI cZ cO a hz25) (cut_X_id cI cZ cO a u z25.2) rfl rfl rfl qw1_221 qw1_223 qw0_0 qw1_1 qw1_224 hvX10_refused_ ⟨Nat.le_of_ble_eq_true rfl, Nat.le_of_ble_eq_true rfl⟩ ⟨Nat.zero_le _, Nat.zero_le _⟩ 0 10 rfl rfl rfl rfl (Nat.le_of_ble_eq_true rfl) E0_b (fun _ _ _ _ _ _ => trivial) rfl dX10_letter_25 [.int z25.1] rfl ?_
  refine sm_istore_n F [(0, .ref (a 0)), (1, .int x1), (2, .int z25.1)] [1, 2, 0] dX10_letter_28 rfl (by decide) rfl ?_
  refine sm_iload_n F dX10_letter_29 rfl 2 rfl ?_
  refine sm_if_eq (tgt := 37) F dX10_letter_30 (by decide) (fun c30 => ?_) (fun c30 => ?_)
  · replace hf := if_t c30 hf
    refine sm_aload_n F dX10_letter_37 rfl 0 rfl ?_
    refine sm_get (v := .ref (a 2)) F inX10 0 rfl rfl 4 (by decide) qw1_189 rfl rfl dX10_letter_38 ?_
    refine sm_iload_n F dX10_letter_41 rfl 1 rfl ?_
    obtain ⟨z42, hz42, hf⟩ := bd_some hf
    refine sm_callV (rest := []) F (ct_X7_add l D cI cZ cO (fun i => a (pm_X_t i)) hz42) (cut_X_t cI cZ cO a z25.2 z42.2) rfl rfl rfl qw1_232 qw1_233 qw1_234 qw1_10 qw1_235 hvX7_add ⟨Nat.le_of_ble_eq_true rfl, Nat.le_of_ble_eq_true rfl⟩ ⟨Nat.zero_le _, Nat.zero_le _⟩ 0 7 rfl rfl rfl rfl (Nat.le_of_ble_eq_true rfl) E0_b (fun _ _ _ _ _ _ => trivial) rfl dX10_letter_42 [.int z42.1] rfl ?_
    exact sm_iret F dX10_letter_45 (Prod.mk.inj (Option.some.inj hf)).1 (congrArg (fun z => (wX cI cZ cO a z)) (Prod.mk.inj (Option.some.inj hf)).2)
  · replace hf := if_f c30 hf
    refine sm_iload_n F dX10_letter_33 rfl 2 rfl ?_
    refine sm_goto (tgt := 45) F dX10_letter_34 (by decide) ?_
    exact sm_iret F dX10_letter_45 (Prod.mk.inj (Option.some.inj hf)).1 (congrArg (fun z => (wX cI cZ cO a z)) (Prod.mk.inj (Option.some.inj hf)).2)
set_option maxRecDepth 100000 in
set_option maxHeartbeats 4000000 in
theorem ct_X10_letter (l : Launch) (D : va_G) (cI cZ cO : ClassId) (a : Nat → Nat) {u : XS} {x1 : Int32} {r : Int32} {o : XS} (hf : f_X10_letter u x1 = some (r, o)) : Ct l yX10_letter (uw (Cond.code yX10_letter cX10_letter 3 (some .int))) rmX10_letter D (tyL cI cZ cO) E0 [.ref (a 0), .int x1] (wX cI cZ cO a u) (some (.int r)) (wX cI cZ cO a o) := by
  refine sm_start (cc := cX10_letter) (maxL := 3) (ret := (some .int)) (own := RX10) (by decide) rfl rfl (Nat.le_of_ble_eq_true rfl) (lv := [(0, .ref (a 0)), (1, .int x1)]) rfl ?_
  intro p e s m below meth c A F hE hA
  unfold f_X10_letter at hf
  refine sm_aload_n F dX10_letter_0 rfl 0 rfl ?_
  refine sm_iload_n F dX10_letter_1 rfl 1 rfl ?_
  refine sm_iconst F dX10_letter_2 kc_i_0 ?_
  refine sm_sipush F dX10_letter_3 kc_s_255 ?_
  obtain ⟨z6, hz6, hf⟩ := bd_some hf
  refine sm_callS (rest := [.ref (a 0)]) F (ct_X10_outside l D (tyL cI cZ cO) hz6) (cut_X_none cI cZ cO a u) rfl rfl rfl qw1_214 qw1_215 qw1_1 qw1_216 hsX10_outside ⟨Nat.le_of_ble_eq_true rfl, Nat.le_of_ble_eq_true rfl⟩ ⟨Nat.zero_le _, Nat.zero_le _⟩ rfl (Nat.le_of_ble_eq_true rfl) E0_b (fun _ _ _ _ _ _ => trivial) rfl dX10_letter_6 [.int z6, .ref (a 0)] rfl ?_
  refine sm_aload_n F dX10_letter_9 rfl 0 rfl ?_
  refine sm_get (v := .ref (a 2)) F inX10 0 rfl rfl 4 (by decide) qw1_189 rfl rfl dX10_letter_10 ?_
  obtain ⟨z13, hz13, hf⟩ := bd_some hf
  refine sm_callV (rest := [.int z6, .ref (a 0)]) F (ct_X7_isFull l D cI cZ cO (fun i => a (pm_X_t i)) hz13) (cut_X_t_ro cI cZ cO a u) rfl rfl rfl qw1_217 qw1_218 qw1_219 qw1_10 qw1_220 hvX7_isFull ⟨Nat.le_of_ble_eq_true rfl, Nat.le_of_ble_eq_true rfl⟩ ⟨Nat.zero_le _, Nat.zero_le _⟩ 0 7 rfl rfl rfl rfl (Nat.le_of_ble_eq_true rfl) E0_b (fun _ _ _ _ _ _ => trivial) rfl dX10_letter_13 [.int z13, .int z6, .ref (a 0)] rfl ?_
  refine sm_if_eq (tgt := 24) F dX10_letter_16 (by decide) (fun c16 => ?_) (fun c16 => ?_)
  · replace hf := if_t c16 hf
    refine sm_iconst F dX10_letter_24 kc_i_0 ?_
    exact s_X10_letter_25 F x1 u (0 : Int32) z6 hf
  · replace hf := if_f c16 hf
    refine sm_bipush F dX10_letter_19 kc_b_m6 ?_
    refine sm_goto (tgt := 25) F dX10_letter_21 (by decide) ?_
    exact s_X10_letter_25 F x1 u ((-6) : Int32) z6 hf
/-! SoManyForgotten.nobody(I)I -/
abbrev rmX10_nobody : Room := { frames := 1, cells := 0, slots := 0, locals := 21 }
set_option maxRecDepth 100000 in
theorem hvX10_nobody : yX10_nobody.cls = RX10 ∧ yX10_nobody.cls ≠ "java/lang/invoke/MethodHandle" ∧ yX10_nobody.cls ≠ "java/lang/invoke/VarHandle" ∧ (parseMethodDescriptor yX10_nobody.desc).map (fun d => d.parameters.length) = some 1 := by decide +kernel
set_option maxRecDepth 100000 in
set_option maxHeartbeats 4000000 in
theorem ct_X10_nobody (l : Launch) (D : va_G) (cI cZ cO : ClassId) (a : Nat → Nat) {u : XS} {x1 : Int32} {r : Int32} (hf : f_X10_nobody u x1 = some r) : Ct l yX10_nobody (uw (Cond.code yX10_nobody cX10_nobody 2 (some .int))) rmX10_nobody D (tyL cI cZ cO) E0 [.ref (a 0), .int x1] (wX cI cZ cO a u) (some (.int r)) (wX cI cZ cO a u) := by
  refine sm_start (cc := cX10_nobody) (maxL := 2) (ret := (some .int)) (own := RX10) (by decide) rfl rfl (Nat.le_of_ble_eq_true rfl) (lv := [(0, .ref (a 0)), (1, .int x1)]) rfl ?_
  intro p e s m below meth c A F hE hA
  unfold f_X10_nobody at hf
  refine sm_aload_n F dX10_nobody_0 rfl 0 rfl ?_
  refine sm_get (v := .ref (a 22)) F inX10 0 rfl rfl 0 (by decide) qw1_185 rfl rfl dX10_nobody_1 ?_
  refine sm_iload_n F dX10_nobody_4 rfl 1 rfl ?_
  obtain ⟨z5, hz5, hf⟩ := bd_some hf
  refine sm_callV (rest := []) F (ct_X8_has l D cI cZ cO (fun i => a (pm_X_v22 i)) hz5) (cut_X_v22_ro cI cZ cO a u) rfl rfl rfl qw3_56 qw2_177 qw2_178 qw1_8 qw2_179 hvX8_has ⟨Nat.le_of_ble_eq_true rfl, Nat.le_of_ble_eq_true rfl⟩ ⟨Nat.zero_le _, Nat.zero_le _⟩ 0 8 rfl rfl rfl rfl (Nat.le_of_ble_eq_true rfl) E0_b (fun _ _ _ _ _ _ => trivial) rfl dX10_nobody_5 [.int z5] rfl ?_
  refine sm_if_eq (tgt := 15) F dX10_nobody_8 (by decide) (fun c8 => ?_) (fun c8 => ?_)
  · replace hf := if_t c8 hf
    refine sm_iconst F dX10_nobody_15 kc_i_m1 ?_
    exact sm_iret F dX10_nobody_16 (Option.some.inj hf) rfl
  · replace hf := if_f c8 hf
    refine sm_iconst F dX10_nobody_11 kc_i_0 ?_
    refine sm_goto (tgt := 16) F dX10_nobody_12 (by decide) ?_
    exact sm_iret F dX10_nobody_16 (Option.some.inj hf) rfl
/-! SoManyForgotten.person(II)I -/
abbrev rmX10_person : Room := { frames := 2, cells := 0, slots := 0, locals := 43 }
set_option maxRecDepth 100000 in
theorem hvX10_person : yX10_person.cls = RX10 ∧ yX10_person.cls ≠ "java/lang/invoke/MethodHandle" ∧ yX10_person.cls ≠ "java/lang/invoke/VarHandle" ∧ (parseMethodDescriptor yX10_person.desc).map (fun d => d.parameters.length) = some 2 := by decide +kernel
set_option maxRecDepth 100000 in
set_option maxHeartbeats 4000000 in
theorem ct_X10_person (l : Launch) (D : va_G) (cI cZ cO : ClassId) (a : Nat → Nat) {u : XS} {x1 : Int32} {x2 : Int32} {r : Int32} {o : XS} (hf : f_X10_person u x1 x2 = some (r, o)) : Ct l yX10_person (uw (Cond.code yX10_person cX10_person 4 (some .int))) rmX10_person D (tyL cI cZ cO) E0 [.ref (a 0), .int x1, .int x2] (wX cI cZ cO a u) (some (.int r)) (wX cI cZ cO a o) := by
  refine sm_start (cc := cX10_person) (maxL := 4) (ret := (some .int)) (own := RX10) (by decide) rfl rfl (Nat.le_of_ble_eq_true rfl) (lv := [(0, .ref (a 0)), (1, .int x1), (2, .int x2)]) rfl ?_
  intro p e s m below meth c A F hE hA
  unfold f_X10_person at hf
  refine sm_aload_n F dX10_person_0 rfl 0 rfl ?_
  refine sm_aload_n F dX10_person_1 rfl 0 rfl ?_
  refine sm_iload_n F dX10_person_2 rfl 1 rfl ?_
  obtain ⟨z3, hz3, hf⟩ := bd_some hf
  refine sm_callV (rest := [.ref (a 0)]) F (ct_X10_nobody l D cI cZ cO a hz3) (cut_X_id cI cZ cO a u u) rfl rfl rfl qw3_52 qw3_54 qw0_13 qw1_1 qw3_55 hvX10_nobody ⟨Nat.le_of_ble_eq_true rfl, Nat.le_of_ble_eq_true rfl⟩ ⟨Nat.zero_le _, Nat.zero_le _⟩ 0 10 rfl rfl rfl rfl (Nat.le_of_ble_eq_true rfl) E0_b (fun _ _ _ _ _ _ => trivial) rfl dX10_person_3 [.int z3, .ref (a 0)] rfl ?_
  refine sm_iload_n F dX10_person_6 rfl 2 rfl ?_
  refine sm_iconst F dX10_person_7 kc_i_5 ?_
  obtain ⟨z8, hz8, hf⟩ := bd_some hf
  refine sm_callS (rest := [.int z3, .ref (a 0)]) F (ct_X10_wrongWhat l D (tyL cI cZ cO) hz8) (cut_X_none cI cZ cO a u) rfl rfl rfl qw3_57 qw3_58 qw1_1 qw3_59 hsX10_wrongWhat ⟨Nat.le_of_ble_eq_true rfl, Nat.le_of_ble_eq_true rfl⟩ ⟨Nat.zero_le _, Nat.zero_le _⟩ rfl (Nat.le_of_ble_eq_true rfl) E0_b (fun _ _ _ _ _ _ => trivial) rfl dX10_person_8 [.int z8, .int z3, .ref (a 0)] rfl ?_
  obtain ⟨z11, hz11, hf⟩ := bd_some hf
  refine sm_callV (rest := []) F (ct_X10_refused_ l D cI cZ cO a hz11) (cut_X_id cI cZ cO a u z11.2) rfl rfl rfl qw1_221 qw1_223 qw0_0 qw1_1 qw1_224 hvX10_refused_ ⟨Nat.le_of_ble_eq_true rfl, Nat.le_of_ble_eq_true rfl⟩ ⟨Nat.zero_le _, Nat.zero_le _⟩ 0 10 rfl rfl rfl rfl (Nat.le_of_ble_eq_true rfl) E0_b (fun _ _ _ _ _ _ => trivial) rfl dX10_person_11 [.int z11.1] rfl ?_
  refine sm_istore_n F [(0, .ref (a 0)), (1, .int x1), (2, .int x2), (3, .int z11.1)] [1, 2, 3, 0] dX10_person_14 rfl (by decide) rfl ?_
  refine sm_iload_n F dX10_person_15 rfl 3 rfl ?_
  refine sm_if_eq (tgt := 21) F dX10_person_16 (by decide) (fun c16 => ?_) (fun c16 => ?_)
  · replace hf := if_t c16 hf
    refine sm_iload_n F dX10_person_21 rfl 2 rfl ?_
    by_cases w22_0 : x2 = 0
    · replace hf := if_t w22_0 hf
      refine sm_tableIn (off := 34) (tgt := 56) F dX10_person_22 (by rw [w22_0]; decide) (by rw [w22_0]; decide) (by rw [w22_0]; rfl) (by decide) ?_
      refine sm_aload_n F dX10_person_56 rfl 0 rfl ?_
      refine sm_get (v := .ref (a 22)) F inX10 0 rfl rfl 0 (by decide) qw1_185 rfl rfl dX10_person_57 ?_
      refine sm_get (v := .ref (a 23)) F inX8 22 rfl rfl 1 (by decide) qw1_80 rfl rfl dX10_person_60 ?_
      refine sm_iload_n F dX10_person_63 rfl 1 rfl ?_
      obtain ⟨h64, hf⟩ := ck_some hf
      refine sm_iald F 23 0 rfl rfl h64 dX10_person_64 ?_
      exact sm_iret F dX10_person_65 (Prod.mk.inj (Option.some.inj hf)).1 (congrArg (fun z => (wX cI cZ cO a z)) (Prod.mk.inj (Option.some.inj hf)).2)
    replace hf := if_f w22_0 hf
    by_cases w22_1 : x2 = 1
    · replace hf := if_t w22_1 hf
      refine sm_tableIn (off := 44) (tgt := 66) F dX10_person_22 (by rw [w22_1]; decide) (by rw [w22_1]; decide) (by rw [w22_1]; rfl) (by decide) ?_
      refine sm_aload_n F dX10_person_66 rfl 0 rfl ?_
      refine sm_get (v := .ref (a 22)) F inX10 0 rfl rfl 0 (by decide) qw1_185 rfl rfl dX10_person_67 ?_
      refine sm_get (v := .ref (a 24)) F inX8 22 rfl rfl 2 (by decide) qw1_83 rfl rfl dX10_person_70 ?_
      refine sm_iload_n F dX10_person_73 rfl 1 rfl ?_
      obtain ⟨h74, hf⟩ := ck_some hf
      refine sm_iald F 24 0 rfl rfl h74 dX10_person_74 ?_
      exact sm_iret F dX10_person_75 (Prod.mk.inj (Option.some.inj hf)).1 (congrArg (fun z => (wX cI cZ cO a z)) (Prod.mk.inj (Option.some.inj hf)).2)
    replace hf := if_f w22_1 hf
    by_cases w22_2 : x2 = 2
    · replace hf := if_t w22_2 hf
      refine sm_tableIn (off := 54) (tgt := 76) F dX10_person_22 (by rw [w22_2]; decide) (by rw [w22_2]; decide) (by rw [w22_2]; rfl) (by decide) ?_
      refine sm_aload_n F dX10_person_76 rfl 0 rfl ?_
      refine sm_get (v := .ref (a 22)) F inX10 0 rfl rfl 0 (by decide) qw1_185 rfl rfl dX10_person_77 ?_
      refine sm_get (v := .ref (a 26)) F inX8 22 rfl rfl 4 (by decide) qw1_90 rfl rfl dX10_person_80 ?_
      refine sm_iload_n F dX10_person_83 rfl 1 rfl ?_
      obtain ⟨h84, hf⟩ := ck_some hf
      refine sm_zald F 26 1 rfl rfl h84 dX10_person_84 ?_
      refine sm_if_eq (tgt := 92) F dX10_person_85 (by decide) (fun c85 => ?_) (fun c85 => ?_)
      · replace hf := if_t c85 hf
        refine sm_iconst F dX10_person_92 kc_i_0 ?_
        exact sm_iret F dX10_person_93 (Prod.mk.inj (Option.some.inj hf)).1 (congrArg (fun z => (wX cI cZ cO a z)) (Prod.mk.inj (Option.some.inj hf)).2)
      · replace hf := if_f c85 hf
        refine sm_iconst F dX10_person_88 kc_i_1 ?_
        refine sm_goto (tgt := 93) F dX10_person_89 (by decide) ?_
        exact sm_iret F dX10_person_93 (Prod.mk.inj (Option.some.inj hf)).1 (congrArg (fun z => (wX cI cZ cO a z)) (Prod.mk.inj (Option.some.inj hf)).2)
    replace hf := if_f w22_2 hf
    by_cases w22_3 : x2 = 3
    · replace hf := if_t w22_3 hf
      refine sm_tableIn (off := 72) (tgt := 94) F dX10_person_22 (by rw [w22_3]; decide) (by rw [w22_3]; decide) (by rw [w22_3]; rfl) (by decide) ?_
      refine sm_aload_n F dX10_person_94 rfl 0 rfl ?_
      refine sm_get (v := .ref (a 22)) F inX10 0 rfl rfl 0 (by decide) qw1_185 rfl rfl dX10_person_95 ?_
      refine sm_get (v := .ref (a 25)) F inX8 22 rfl rfl 3 (by decide) qw1_86 rfl rfl dX10_person_98 ?_
      refine sm_iload_n F dX10_person_101 rfl 1 rfl ?_
      obtain ⟨h102, hf⟩ := ck_some hf
      refine sm_iald F 25 0 rfl rfl h102 dX10_person_102 ?_
      exact sm_iret F dX10_person_103 (Prod.mk.inj (Option.some.inj hf)).1 (congrArg (fun z => (wX cI cZ cO a z)) (Prod.mk.inj (Option.some.inj hf)).2)
    replace hf := if_f w22_3 hf
    by_cases w22_4 : x2 = 4
    · replace hf := if_t w22_4 hf
      refine sm_tableIn (off := 82) (tgt := 104) F dX10_person_22 (by rw [w22_4]; decide) (by rw [w22_4]; decide) (by rw [w22_4]; rfl) (by decide) ?_
      refine sm_aload_n F dX10_person_104 rfl 0 rfl ?_
      refine sm_get (v := .ref (a 22)) F inX10 0 rfl rfl 0 (by decide) qw1_185 rfl rfl dX10_person_105 ?_
      refine sm_iload_n F dX10_person_108 rfl 1 rfl ?_
      obtain ⟨z109, hz109, hf⟩ := bd_some hf
      refine sm_callV (rest := []) F (ct_X8_knownOf l D cI cZ cO (fun i => a (pm_X_v22 i)) hz109) (cut_X_v22_ro cI cZ cO a z11.2) rfl rfl rfl qw3_60 qw3_36 qw3_37 qw1_8 qw3_38 hvX8_knownOf ⟨Nat.le_of_ble_eq_true rfl, Nat.le_of_ble_eq_true rfl⟩ ⟨Nat.zero_le _, Nat.zero_le _⟩ 0 8 rfl rfl rfl rfl (Nat.le_of_ble_eq_true rfl) E0_b (fun _ _ _ _ _ _ => trivial) rfl dX10_person_109 [.int z109] rfl ?_
      exact sm_iret F dX10_person_112 (Prod.mk.inj (Option.some.inj hf)).1 (congrArg (fun z => (wX cI cZ cO a z)) (Prod.mk.inj (Option.some.inj hf)).2)
    replace hf := if_f w22_4 hf
    have e22_0 := lv_neT w22_0 (a := 0) rfl
    have e22_1 := lv_neT w22_1 (a := 1) rfl
    have e22_2 := lv_neT w22_2 (a := 2) rfl
    have e22_3 := lv_neT w22_3 (a := 3) rfl
    have e22_4 := lv_neT w22_4 (a := 4) rfl
    have T22 : ∀ i : Nat, i < 5 → (#[34, 44, 54, 72, 82] : Array Int)[i]? = some 91 ∨ i ∈ ([0, 1, 2, 3, 4] : List Nat) := by decide
    refine sm_tableX (tgt := 113) F dX10_person_22 (by decide) (fun i hi hx => (T22 i hi).elim id (fun q => by simp only [List.mem_cons, List.not_mem_nil, or_false] at q; exfalso; omega)) (by decide) ?_
    refine sm_aload_n F dX10_person_113 rfl 0 rfl ?_
    refine sm_get (v := .ref (a 22)) F inX10 0 rfl rfl 0 (by decide) qw1_185 rfl rfl dX10_person_114 ?_
    refine sm_iload_n F dX10_person_117 rfl 1 rfl ?_
    obtain ⟨z118, hz118, hf⟩ := bd_some hf
    refine sm_callV (rest := []) F (ct_X8_mayBeNamed l D cI cZ cO (fun i => a (pm_X_v22 i)) hz118) (cut_X_v22_ro cI cZ cO a z11.2) rfl rfl rfl qw3_61 qw3_62 qw3_63 qw1_8 qw3_64 hvX8_mayBeNamed ⟨Nat.le_of_ble_eq_true rfl, Nat.le_of_ble_eq_true rfl⟩ ⟨Nat.zero_le _, Nat.zero_le _⟩ 0 8 rfl rfl rfl rfl (Nat.le_of_ble_eq_true rfl) E0_b (fun _ _ _ _ _ _ => trivial) rfl dX10_person_118 [.int z118] rfl ?_
    refine sm_if_eq (tgt := 128) F dX10_person_121 (by decide) (fun c121 => ?_) (fun c121 => ?_)
    · replace hf := if_t c121 hf
      refine sm_iconst F dX10_person_128 kc_i_0 ?_
      exact sm_iret F dX10_person_129 (Prod.mk.inj (Option.some.inj hf)).1 (congrArg (fun z => (wX cI cZ cO a z)) (Prod.mk.inj (Option.some.inj hf)).2)
    · replace hf := if_f c121 hf
      refine sm_iconst F dX10_person_124 kc_i_1 ?_
      refine sm_goto (tgt := 129) F dX10_person_125 (by decide) ?_
      exact sm_iret F dX10_person_129 (Prod.mk.inj (Option.some.inj hf)).1 (congrArg (fun z => (wX cI cZ cO a z)) (Prod.mk.inj (Option.some.inj hf)).2)
  · replace hf := if_f c16 hf
    refine sm_iload_n F dX10_person_19 rfl 3 rfl ?_
    exact sm_iret F dX10_person_20 (Prod.mk.inj (Option.some.inj hf)).1 (congrArg (fun z => (wX cI cZ cO a z)) (Prod.mk.inj (Option.some.inj hf)).2)
/-! SoManyForgotten.notTwo(II)I -/
abbrev rmX10_notTwo : Room := { frames := 2, cells := 0, slots := 0, locals := 43 }
set_option maxRecDepth 100000 in
theorem hvX10_notTwo : yX10_notTwo.cls = RX10 ∧ yX10_notTwo.cls ≠ "java/lang/invoke/MethodHandle" ∧ yX10_notTwo.cls ≠ "java/lang/invoke/VarHandle" ∧ (parseMethodDescriptor yX10_notTwo.desc).map (fun d => d.parameters.length) = some 2 := by decide +kernel
set_option maxRecDepth 100000 in
set_option maxHeartbeats 4000000 in
theorem ct_X10_notTwo (l : Launch) (D : va_G) (cI cZ cO : ClassId) (a : Nat → Nat) {u : XS} {x1 : Int32} {x2 : Int32} {r : Int32} (hf : f_X10_notTwo u x1 x2 = some r) : Ct l yX10_notTwo (uw (Cond.code yX10_notTwo cX10_notTwo 3 (some .int))) rmX10_notTwo D (tyL cI cZ cO) E0 [.ref (a 0), .int x1, .int x2] (wX cI cZ cO a u) (some (.int r)) (wX cI cZ cO a u) := by
  refine sm_start (cc := cX10_notTwo) (maxL := 3) (ret := (some .int)) (own := RX10) (by decide) rfl rfl (Nat.le_of_ble_eq_true rfl) (lv := [(0, .ref (a 0)), (1, .int x1), (2, .int x2)]) rfl ?_
  intro p e s m below meth c A F hE hA
  unfold f_X10_notTwo at hf
  refine sm_aload_n F dX10_notTwo_0 rfl 0 rfl ?_
  refine sm_get (v := .ref (a 22)) F inX10 0 rfl rfl 0 (by decide) qw1_185 rfl rfl dX10_notTwo_1 ?_
  refine sm_iload_n F dX10_notTwo_4 rfl 1 rfl ?_
  refine sm_iload_n F dX10_notTwo_5 rfl 2 rfl ?_
  obtain ⟨z6, hz6, hf⟩ := bd_some hf
  refine sm_callV (rest := []) F (ct_X8_areTwo l D cI cZ cO (fun i => a (pm_X_v22 i)) hz6) (cut_X_v22_ro cI cZ cO a u) rfl rfl rfl qw3_73 qw2_173 qw2_174 qw1_8 qw2_175 hvX8_areTwo ⟨Nat.le_of_ble_eq_true rfl, Nat.le_of_ble_eq_true rfl⟩ ⟨Nat.zero_le _, Nat.zero_le _⟩ 0 8 rfl rfl rfl rfl (Nat.le_of_ble_eq_true rfl) E0_b (fun _ _ _ _ _ _ => trivial) rfl dX10_notTwo_6 [.int z6] rfl ?_
  refine sm_if_eq (tgt := 16) F dX10_notTwo_9 (by decide) (fun c9 => ?_) (fun c9 => ?_)
  · replace hf := if_t c9 hf
    refine sm_iconst F dX10_notTwo_16 kc_i_m1 ?_
    exact sm_iret F dX10_notTwo_17 (Option.some.inj hf) rfl
  · replace hf := if_f c9 hf
    refine sm_iconst F dX10_notTwo_12 kc_i_0 ?_
    refine sm_goto (tgt := 17) F dX10_notTwo_13 (by decide) ?_
    exact sm_iret F dX10_notTwo_17 (Option.some.inj hf) rfl
/-! SoManyForgotten.refused(I)I -/
abbrev rmX10_refused : Room := { frames := 1, cells := 0, slots := 0, locals := 21 }
set_option maxRecDepth 100000 in
theorem hvX10_refused : yX10_refused.cls = RX10 ∧ yX10_refused.cls ≠ "java/lang/invoke/MethodHandle" ∧ yX10_refused.cls ≠ "java/lang/invoke/VarHandle" ∧ (parseMethodDescriptor yX10_refused.desc).map (fun d => d.parameters.length) = some 1 := by decide +kernel
set_option maxRecDepth 100000 in
set_option maxHeartbeats 4000000 in
theorem ct_X10_refused (l : Launch) (D : va_G) (cI cZ cO : ClassId) (a : Nat → Nat) {u : XS} {x1 : Int32} {r : Int32} {o : XS} (hf : f_X10_refused u x1 = some (r, o)) : Ct l yX10_refused (uw (Cond.code yX10_refused cX10_refused 2 (some .int))) rmX10_refused D (tyL cI cZ cO) E0 [.ref (a 0), .int x1] (wX cI cZ cO a u) (some (.int r)) (wX cI cZ cO a o) := by
  refine sm_start (cc := cX10_refused) (maxL := 2) (ret := (some .int)) (own := RX10) (by decide) rfl rfl (Nat.le_of_ble_eq_true rfl) (lv := [(0, .ref (a 0)), (1, .int x1)]) rfl ?_
  intro p e s m below meth c A F hE hA
  unfold f_X10_refused at hf
  refine sm_aload_n F dX10_refused_0 rfl 0 rfl ?_
  refine sm_iload_n F dX10_refused_1 rfl 1 rfl ?_
  obtain ⟨z2, hz2, hf⟩ := bd_some hf
  refine sm_callV (rest := []) F (ct_X10_counted l D cI cZ cO a hz2) (cut_X_id cI cZ cO a u z2.2) rfl rfl rfl qw1_228 qw1_230 qw0_1 qw1_1 qw1_231 hvX10_counted ⟨Nat.le_of_ble_eq_true rfl, Nat.le_of_ble_eq_true rfl⟩ ⟨Nat.zero_le _, Nat.zero_le _⟩ 0 10 rfl rfl rfl rfl (Nat.le_of_ble_eq_true rfl) E0_b (fun _ _ _ _ _ _ => trivial) rfl dX10_refused_2 [.int z2.1] rfl ?_
  exact sm_iret F dX10_refused_5 (Prod.mk.inj (Option.some.inj hf)).1 (congrArg (fun z => (wX cI cZ cO a z)) (Prod.mk.inj (Option.some.inj hf)).2)
/-! SoManyForgotten.memory(II)I -/
abbrev rmX10_memory : Room := { frames := 3, cells := 0, slots := 0, locals := 65 }
set_option maxRecDepth 100000 in
theorem hvX10_memory : yX10_memory.cls = RX10 ∧ yX10_memory.cls ≠ "java/lang/invoke/MethodHandle" ∧ yX10_memory.cls ≠ "java/lang/invoke/VarHandle" ∧ (parseMethodDescriptor yX10_memory.desc).map (fun d => d.parameters.length) = some 2 := by decide +kernel
set_option maxRecDepth 100000 in
set_option maxHeartbeats 4000000 in
theorem ct_X10_memory (l : Launch) (D : va_G) (cI cZ cO : ClassId) (a : Nat → Nat) {u : XS} {x1 : Int32} {x2 : Int32} {r : Int32} {o : XS} (hf : f_X10_memory u x1 x2 = some (r, o)) : Ct l yX10_memory (uw (Cond.code yX10_memory cX10_memory 4 (some .int))) rmX10_memory D (tyL cI cZ cO) E0 [.ref (a 0), .int x1, .int x2] (wX cI cZ cO a u) (some (.int r)) (wX cI cZ cO a o) := by
  refine sm_start (cc := cX10_memory) (maxL := 4) (ret := (some .int)) (own := RX10) (by decide) rfl rfl (Nat.le_of_ble_eq_true rfl) (lv := [(0, .ref (a 0)), (1, .int x1), (2, .int x2)]) rfl ?_
  intro p e s m below meth c A F hE hA
  unfold f_X10_memory at hf
  refine sm_aload_n F dX10_memory_0 rfl 0 rfl ?_
  refine sm_aload_n F dX10_memory_1 rfl 0 rfl ?_
  refine sm_iload_n F dX10_memory_2 rfl 1 rfl ?_
  refine sm_iload_n F dX10_memory_3 rfl 2 rfl ?_
  obtain ⟨z4, hz4, hf⟩ := bd_some hf
  refine sm_callV (rest := [.ref (a 0)]) F (ct_X10_notTwo l D cI cZ cO a hz4) (cut_X_id cI cZ cO a u u) rfl rfl rfl qw3_69 qw3_71 qw0_14 qw1_1 qw3_72 hvX10_notTwo ⟨Nat.le_of_ble_eq_true rfl, Nat.le_of_ble_eq_true rfl⟩ ⟨Nat.zero_le _, Nat.zero_le _⟩ 0 10 rfl rfl rfl rfl (Nat.le_of_ble_eq_true rfl) E0_b (fun _ _ _ _ _ _ => trivial) rfl dX10_memory_4 [.int z4, .ref (a 0)] rfl ?_
  obtain ⟨z7, hz7, hf⟩ := bd_some hf
  refine sm_callV (rest := []) F (ct_X10_refused l D cI cZ cO a hz7) (cut_X_id cI cZ cO a u z7.2) rfl rfl rfl qw3_74 qw3_76 qw0_15 qw1_1 qw3_77 hvX10_refused ⟨Nat.le_of_ble_eq_true rfl, Nat.le_of_ble_eq_true rfl⟩ ⟨Nat.zero_le _, Nat.zero_le _⟩ 0 10 rfl rfl rfl rfl (Nat.le_of_ble_eq_true rfl) E0_b (fun _ _ _ _ _ _ => trivial) rfl dX10_memory_7 [.int z7.1] rfl ?_
  refine sm_istore_n F [(0, .ref (a 0)), (1, .int x1), (2, .int x2), (3, .int z7.1)] [1, 2, 3, 0] dX10_memory_10 rfl (by decide) rfl ?_
  refine sm_iload_n F dX10_memory_11 rfl 3 rfl ?_
  refine sm_if_eq (tgt := 19) F dX10_memory_12 (by decide) (fun c12 => ?_) (fun c12 => ?_)
  · replace hf := if_t c12 hf
    refine sm_aload_n F dX10_memory_19 rfl 0 rfl ?_
    refine sm_get (v := .ref (a 22)) F inX10 0 rfl rfl 0 (by decide) qw1_185 rfl rfl dX10_memory_20 ?_
    refine sm_iload_n F dX10_memory_23 rfl 1 rfl ?_
    refine sm_iload_n F dX10_memory_24 rfl 2 rfl ?_
    obtain ⟨z25, hz25, hf⟩ := bd_some hf
    refine sm_callV (rest := []) F (ct_X8_memoryOf l D cI cZ cO (fun i => a (pm_X_v22 i)) hz25) (cut_X_v22_ro cI cZ cO a z7.2) rfl rfl rfl qw3_78 qw3_79 qw3_80 qw1_8 qw3_81 hvX8_memoryOf ⟨Nat.le_of_ble_eq_true rfl, Nat.le_of_ble_eq_true rfl⟩ ⟨Nat.zero_le _, Nat.zero_le _⟩ 0 8 rfl rfl rfl rfl (Nat.le_of_ble_eq_true rfl) E0_b (fun _ _ _ _ _ _ => trivial) rfl dX10_memory_25 [.int z25] rfl ?_
    exact sm_iret F dX10_memory_28 (Prod.mk.inj (Option.some.inj hf)).1 (congrArg (fun z => (wX cI cZ cO a z)) (Prod.mk.inj (Option.some.inj hf)).2)
  · replace hf := if_f c12 hf
    refine sm_iload_n F dX10_memory_15 rfl 3 rfl ?_
    refine sm_goto (tgt := 28) F dX10_memory_16 (by decide) ?_
    exact sm_iret F dX10_memory_28 (Prod.mk.inj (Option.some.inj hf)).1 (congrArg (fun z => (wX cI cZ cO a z)) (Prod.mk.inj (Option.some.inj hf)).2)
/-! SoManyForgotten.recalls(III)I -/
abbrev rmX10_recalls : Room := { frames := 3, cells := 0, slots := 0, locals := 65 }
set_option maxRecDepth 100000 in
theorem hvX10_recalls : yX10_recalls.cls = RX10 ∧ yX10_recalls.cls ≠ "java/lang/invoke/MethodHandle" ∧ yX10_recalls.cls ≠ "java/lang/invoke/VarHandle" ∧ (parseMethodDescriptor yX10_recalls.desc).map (fun d => d.parameters.length) = some 3 := by decide +kernel
set_option maxRecDepth 100000 in
set_option maxHeartbeats 4000000 in
theorem ct_X10_recalls (l : Launch) (D : va_G) (cI cZ cO : ClassId) (a : Nat → Nat) {u : XS} {x1 : Int32} {x2 : Int32} {x3 : Int32} {r : Int32} {o : XS} (hf : f_X10_recalls u x1 x2 x3 = some (r, o)) : Ct l yX10_recalls (uw (Cond.code yX10_recalls cX10_recalls 6 (some .int))) rmX10_recalls D (tyL cI cZ cO) E0 [.ref (a 0), .int x1, .int x2, .int x3] (wX cI cZ cO a u) (some (.int r)) (wX cI cZ cO a o) := by
  refine sm_start (cc := cX10_recalls) (maxL := 6) (ret := (some .int)) (own := RX10) (by decide) rfl rfl (Nat.le_of_ble_eq_true rfl) (lv := [(0, .ref (a 0)), (1, .int x1), (2, .int x2), (3, .int x3)]) rfl ?_
  intro p e s m below meth c A F hE hA
  unfold f_X10_recalls at hf
  refine sm_aload_n F dX10_recalls_0 rfl 0 rfl ?_
  refine sm_aload_n F dX10_recalls_1 rfl 0 rfl ?_
  refine sm_iload_n F dX10_recalls_2 rfl 1 rfl ?_
  refine sm_iload_n F dX10_recalls_3 rfl 2 rfl ?_
  obtain ⟨z4, hz4, hf⟩ := bd_some hf
  refine sm_callV (rest := [.ref (a 0)]) F (ct_X10_notTwo l D cI cZ cO a hz4) (cut_X_id cI cZ cO a u u) rfl rfl rfl qw3_69 qw3_71 qw0_14 qw1_1 qw3_72 hvX10_notTwo ⟨Nat.le_of_ble_eq_true rfl, Nat.le_of_ble_eq_true rfl⟩ ⟨Nat.zero_le _, Nat.zero_le _⟩ 0 10 rfl rfl rfl rfl (Nat.le_of_ble_eq_true rfl) E0_b (fun _ _ _ _ _ _ => trivial) rfl dX10_recalls_4 [.int z4, .ref (a 0)] rfl ?_
  refine sm_iload_n F dX10_recalls_7 rfl 3 rfl ?_
  refine sm_iconst F dX10_recalls_8 kc_i_0 ?_
  refine sm_bipush F dX10_recalls_9 kc_b_99 ?_
  obtain ⟨z11, hz11, hf⟩ := bd_some hf
  refine sm_callS (rest := [.int z4, .ref (a 0)]) F (ct_X10_outside l D (tyL cI cZ cO) hz11) (cut_X_none cI cZ cO a u) rfl rfl rfl qw1_214 qw1_215 qw1_1 qw1_216 hsX10_outside ⟨Nat.le_of_ble_eq_true rfl, Nat.le_of_ble_eq_true rfl⟩ ⟨Nat.zero_le _, Nat.zero_le _⟩ rfl (Nat.le_of_ble_eq_true rfl) E0_b (fun _ _ _ _ _ _ => trivial) rfl dX10_recalls_11 [.int z11, .int z4, .ref (a 0)] rfl ?_
  obtain ⟨z14, hz14, hf⟩ := bd_some hf
  refine sm_callV (rest := []) F (ct_X10_refused_ l D cI cZ cO a hz14) (cut_X_id cI cZ cO a u z14.2) rfl rfl rfl qw1_221 qw1_223 qw0_0 qw1_1 qw1_224 hvX10_refused_ ⟨Nat.le_of_ble_eq_true rfl, Nat.le_of_ble_eq_true rfl⟩ ⟨Nat.zero_le _, Nat.zero_le _⟩ 0 10 rfl rfl rfl rfl (Nat.le_of_ble_eq_true rfl) E0_b (fun _ _ _ _ _ _ => trivial) rfl dX10_recalls_14 [.int z14.1] rfl ?_
  refine sm_istore F [(0, .ref (a 0)), (1, .int x1), (2, .int x2), (3, .int x3), (4, .int z14.1)] [1, 2, 3, 4, 0] dX10_recalls_17 (by decide) rfl ?_
  refine sm_iload F dX10_recalls_19 4 rfl ?_
  refine sm_if_eq (tgt := 27) F dX10_recalls_21 (by decide) (fun c21 => ?_) (fun c21 => ?_)
  · replace hf := if_t c21 hf
    refine sm_aload_n F dX10_recalls_27 rfl 0 rfl ?_
    refine sm_get (v := .ref (a 22)) F inX10 0 rfl rfl 0 (by decide) qw1_185 rfl rfl dX10_recalls_28 ?_
    refine sm_iload_n F dX10_recalls_31 rfl 1 rfl ?_
    refine sm_iload_n F dX10_recalls_32 rfl 2 rfl ?_
    obtain ⟨z33, hz33, hf⟩ := bd_some hf
    refine sm_callV (rest := []) F (ct_X8_memoryOf l D cI cZ cO (fun i => a (pm_X_v22 i)) hz33) (cut_X_v22_ro cI cZ cO a z14.2) rfl rfl rfl qw3_78 qw3_79 qw3_80 qw1_8 qw3_81 hvX8_memoryOf ⟨Nat.le_of_ble_eq_true rfl, Nat.le_of_ble_eq_true rfl⟩ ⟨Nat.zero_le _, Nat.zero_le _⟩ 0 8 rfl rfl rfl rfl (Nat.le_of_ble_eq_true rfl) E0_b (fun _ _ _ _ _ _ => trivial) rfl dX10_recalls_33 [.int z33] rfl ?_
    refine sm_istore F [(0, .ref (a 0)), (1, .int x1), (2, .int x2), (3, .int x3), (5, .int z33)] [1, 2, 3, 4, 0] dX10_recalls_36 (by decide) rfl ?_
    refine sm_aload_n F dX10_recalls_38 rfl 0 rfl ?_
    refine sm_get (v := .ref (a 22)) F inX10 0 rfl rfl 0 (by decide) qw1_185 rfl rfl dX10_recalls_39 ?_
    refine sm_iload_n F dX10_recalls_42 rfl 1 rfl ?_
    refine sm_iload_n F dX10_recalls_43 rfl 2 rfl ?_
    refine sm_iload_n F dX10_recalls_44 rfl 3 rfl ?_
    obtain ⟨z45, hz45, hf⟩ := bd_some hf
    refine sm_callV (rest := []) F (ct_X8_setMemory l D cI cZ cO (fun i => a (pm_X_v22 i)) hz45) (cut_X_v22 cI cZ cO a z14.2 z45) rfl rfl rfl qw3_86 qw2_162 qw2_163 qw1_8 qw2_164 hvX8_setMemory ⟨Nat.le_of_ble_eq_true rfl, Nat.le_of_ble_eq_true rfl⟩ ⟨Nat.zero_le _, Nat.zero_le _⟩ 0 8 rfl rfl rfl rfl (Nat.le_of_ble_eq_true rfl) E0_b (fun _ _ _ _ _ _ => trivial) rfl dX10_recalls_45 [] rfl ?_
    refine sm_iload F dX10_recalls_48 4 rfl ?_
    exact sm_iret F dX10_recalls_50 (Prod.mk.inj (Option.some.inj hf)).1 (congrArg (fun z => (wX cI cZ cO a z)) (Prod.mk.inj (Option.some.inj hf)).2)
  · replace hf := if_f c21 hf
    refine sm_iload F dX10_recalls_24 4 rfl ?_
    exact sm_iret F dX10_recalls_26 (Prod.mk.inj (Option.some.inj hf)).1 (congrArg (fun z => (wX cI cZ cO a z)) (Prod.mk.inj (Option.some.inj hf)).2)
/-! SoManyForgotten.forgotten(I)I -/
abbrev rmX10_forgotten : Room := { frames := 1, cells := 0, slots := 0, locals := 21 }
set_option maxRecDepth 100000 in
theorem hvX10_forgotten : yX10_forgotten.cls = RX10 ∧ yX10_forgotten.cls ≠ "java/lang/invoke/MethodHandle" ∧ yX10_forgotten.cls ≠ "java/lang/invoke/VarHandle" ∧ (parseMethodDescriptor yX10_forgotten.desc).map (fun d => d.parameters.length) = some 1 := by decide +kernel
set_option maxRecDepth 100000 in
set_option maxHeartbeats 4000000 in
theorem ct_X10_forgotten (l : Launch) (D : va_G) (cI cZ cO : ClassId) (a : Nat → Nat) {u : XS} {x1 : Int32} {r : Int32} (hf : f_X10_forgotten u x1 = some r) : Ct l yX10_forgotten (uw (Cond.code yX10_forgotten cX10_forgotten 2 (some .int))) rmX10_forgotten D (tyL cI cZ cO) E0 [.ref (a 0), .int x1] (wX cI cZ cO a u) (some (.int r)) (wX cI cZ cO a u) := by
  refine sm_start (cc := cX10_forgotten) (maxL := 2) (ret := (some .int)) (own := RX10) (by decide) rfl rfl (Nat.le_of_ble_eq_true rfl) (lv := [(0, .ref (a 0)), (1, .int x1)]) rfl ?_
  intro p e s m below meth c A F hE hA
  unfold f_X10_forgotten at hf
  refine sm_aload_n F dX10_forgotten_0 rfl 0 rfl ?_
  refine sm_get (v := .ref (a 22)) F inX10 0 rfl rfl 0 (by decide) qw1_185 rfl rfl dX10_forgotten_1 ?_
  refine sm_iload_n F dX10_forgotten_4 rfl 1 rfl ?_
  obtain ⟨z5, hz5, hf⟩ := bd_some hf
  refine sm_callV (rest := []) F (ct_X8_has l D cI cZ cO (fun i => a (pm_X_v22 i)) hz5) (cut_X_v22_ro cI cZ cO a u) rfl rfl rfl qw3_56 qw2_177 qw2_178 qw1_8 qw2_179 hvX8_has ⟨Nat.le_of_ble_eq_true rfl, Nat.le_of_ble_eq_true rfl⟩ ⟨Nat.zero_le _, Nat.zero_le _⟩ 0 8 rfl rfl rfl rfl (Nat.le_of_ble_eq_true rfl) E0_b (fun _ _ _ _ _ _ => trivial) rfl dX10_forgotten_5 [.int z5] rfl ?_
  refine sm_if_eq (tgt := 28) F dX10_forgotten_8 (by decide) (fun c8 => ?_) (fun c8 => ?_)
  · replace hf := if_t c8 hf
    refine sm_iconst F dX10_forgotten_28 kc_i_0 ?_
    exact sm_iret F dX10_forgotten_29 (Option.some.inj hf) rfl
  · replace hf := if_f c8 hf
    refine sm_aload_n F dX10_forgotten_11 rfl 0 rfl ?_
    refine sm_get (v := .ref (a 22)) F inX10 0 rfl rfl 0 (by decide) qw1_185 rfl rfl dX10_forgotten_12 ?_
    refine sm_get (v := .ref (a 26)) F inX8 22 rfl rfl 4 (by decide) qw1_90 rfl rfl dX10_forgotten_15 ?_
    refine sm_iload_n F dX10_forgotten_18 rfl 1 rfl ?_
    obtain ⟨h19, hf⟩ := ck_some hf
    refine sm_zald F 26 1 rfl rfl h19 dX10_forgotten_19 ?_
    refine sm_if_ne (tgt := 28) F dX10_forgotten_20 (by decide) (fun c20 => ?_) (fun c20 => ?_)
    · replace hf := if_f c20 hf
      refine sm_iconst F dX10_forgotten_28 kc_i_0 ?_
      exact sm_iret F dX10_forgotten_29 (Option.some.inj hf) rfl
    · replace hf := if_t c20 hf
      refine sm_bipush F dX10_forgotten_23 kc_b_m3 ?_
      refine sm_goto (tgt := 29) F dX10_forgotten_25 (by decide) ?_
      exact sm_iret F dX10_forgotten_29 (Option.some.inj hf) rfl
/-! SoManyForgotten.refused(III)I -/
abbrev rmX10_refused__ : Room := { frames := 1, cells := 0, slots := 0, locals := 21 }
set_option maxRecDepth 100000 in
theorem hvX10_refused__ : yX10_refused__.cls = RX10 ∧ yX10_refused__.cls ≠ "java/lang/invoke/MethodHandle" ∧ yX10_refused__.cls ≠ "java/lang/invoke/VarHandle" ∧ (parseMethodDescriptor yX10_refused__.desc).map (fun d => d.parameters.length) = some 3 := by decide +kernel
set_option maxRecDepth 100000 in
set_option maxHeartbeats 4000000 in
theorem ct_X10_refused__ (l : Launch) (D : va_G) (cI cZ cO : ClassId) (a : Nat → Nat) {u : XS} {x1 : Int32} {x2 : Int32} {x3 : Int32} {r : Int32} {o : XS} (hf : f_X10_refused__ u x1 x2 x3 = some (r, o)) : Ct l yX10_refused__ (uw (Cond.code yX10_refused__ cX10_refused__ 4 (some .int))) rmX10_refused__ D (tyL cI cZ cO) E0 [.ref (a 0), .int x1, .int x2, .int x3] (wX cI cZ cO a u) (some (.int r)) (wX cI cZ cO a o) := by
  refine sm_start (cc := cX10_refused__) (maxL := 4) (ret := (some .int)) (own := RX10) (by decide) rfl rfl (Nat.le_of_ble_eq_true rfl) (lv := [(0, .ref (a 0)), (1, .int x1), (2, .int x2), (3, .int x3)]) rfl ?_
  intro p e s m below meth c A F hE hA
  unfold f_X10_refused__ at hf
  refine sm_aload_n F dX10_refused___0 rfl 0 rfl ?_
  refine sm_iload_n F dX10_refused___1 rfl 1 rfl ?_
  refine sm_iload_n F dX10_refused___2 rfl 2 rfl ?_
  obtain ⟨z3, hz3, hf⟩ := bd_some hf
  refine sm_callS (rest := [.ref (a 0)]) F (ct_X10_firstThatFits l D (tyL cI cZ cO) hz3) (cut_X_none cI cZ cO a u) rfl rfl rfl qw1_225 qw1_226 qw1_1 qw1_227 hsX10_firstThatFits ⟨Nat.le_of_ble_eq_true rfl, Nat.le_of_ble_eq_true rfl⟩ ⟨Nat.zero_le _, Nat.zero_le _⟩ rfl (Nat.le_of_ble_eq_true rfl) E0_b (fun _ _ _ _ _ _ => trivial) rfl dX10_refused___3 [.int z3, .ref (a 0)] rfl ?_
  refine sm_iload_n F dX10_refused___6 rfl 3 rfl ?_
  obtain ⟨z7, hz7, hf⟩ := bd_some hf
  refine sm_callS (rest := [.ref (a 0)]) F (ct_X10_firstThatFits l D (tyL cI cZ cO) hz7) (cut_X_none cI cZ cO a u) rfl rfl rfl qw1_225 qw1_226 qw1_1 qw1_227 hsX10_firstThatFits ⟨Nat.le_of_ble_eq_true rfl, Nat.le_of_ble_eq_true rfl⟩ ⟨Nat.zero_le _, Nat.zero_le _⟩ rfl (Nat.le_of_ble_eq_true rfl) E0_b (fun _ _ _ _ _ _ => trivial) rfl dX10_refused___7 [.int z7, .ref (a 0)] rfl ?_
  obtain ⟨z10, hz10, hf⟩ := bd_some hf
  refine sm_callV (rest := []) F (ct_X10_counted l D cI cZ cO a hz10) (cut_X_id cI cZ cO a u z10.2) rfl rfl rfl qw1_228 qw1_230 qw0_1 qw1_1 qw1_231 hvX10_counted ⟨Nat.le_of_ble_eq_true rfl, Nat.le_of_ble_eq_true rfl⟩ ⟨Nat.zero_le _, Nat.zero_le _⟩ 0 10 rfl rfl rfl rfl (Nat.le_of_ble_eq_true rfl) E0_b (fun _ _ _ _ _ _ => trivial) rfl dX10_refused___10 [.int z10.1] rfl ?_
  exact sm_iret F dX10_refused___13 (Prod.mk.inj (Option.some.inj hf)).1 (congrArg (fun z => (wX cI cZ cO a z)) (Prod.mk.inj (Option.some.inj hf)).2)
/-! SoManyForgotten.speaks(II)I -/
abbrev rmX10_speaks : Room := { frames := 3, cells := 0, slots := 0, locals := 71 }
set_option maxRecDepth 100000 in
theorem hvX10_speaks : yX10_speaks.cls = RX10 ∧ yX10_speaks.cls ≠ "java/lang/invoke/MethodHandle" ∧ yX10_speaks.cls ≠ "java/lang/invoke/VarHandle" ∧ (parseMethodDescriptor yX10_speaks.desc).map (fun d => d.parameters.length) = some 2 := by decide +kernel
set_option maxRecDepth 100000 in
set_option maxHeartbeats 4000000 in
theorem ct_X10_speaks (l : Launch) (D : va_G) (cI cZ cO : ClassId) (a : Nat → Nat) {u : XS} {x1 : Int32} {x2 : Int32} {r : Int32} {o : XS} (hf : f_X10_speaks u x1 x2 = some (r, o)) : Ct l yX10_speaks (uw (Cond.code yX10_speaks cX10_speaks 4 (some .int))) rmX10_speaks D (tyL cI cZ cO) E0 [.ref (a 0), .int x1, .int x2] (wX cI cZ cO a u) (some (.int r)) (wX cI cZ cO a o) := by
  refine sm_start (cc := cX10_speaks) (maxL := 4) (ret := (some .int)) (own := RX10) (by decide) rfl rfl (Nat.le_of_ble_eq_true rfl) (lv := [(0, .ref (a 0)), (1, .int x1), (2, .int x2)]) rfl ?_
  intro p e s m below meth c A F hE hA
  unfold f_X10_speaks at hf
  refine sm_aload_n F dX10_speaks_0 rfl 0 rfl ?_
  refine sm_aload_n F dX10_speaks_1 rfl 0 rfl ?_
  refine sm_iload_n F dX10_speaks_2 rfl 1 rfl ?_
  refine sm_iload_n F dX10_speaks_3 rfl 2 rfl ?_
  obtain ⟨z4, hz4, hf⟩ := bd_some hf
  refine sm_callV (rest := [.ref (a 0)]) F (ct_X10_notTwo l D cI cZ cO a hz4) (cut_X_id cI cZ cO a u u) rfl rfl rfl qw3_69 qw3_71 qw0_14 qw1_1 qw3_72 hvX10_notTwo ⟨Nat.le_of_ble_eq_true rfl, Nat.le_of_ble_eq_true rfl⟩ ⟨Nat.zero_le _, Nat.zero_le _⟩ 0 10 rfl rfl rfl rfl (Nat.le_of_ble_eq_true rfl) E0_b (fun _ _ _ _ _ _ => trivial) rfl dX10_speaks_4 [.int z4, .ref (a 0)] rfl ?_
  refine sm_aload_n F dX10_speaks_7 rfl 0 rfl ?_
  refine sm_iload_n F dX10_speaks_8 rfl 1 rfl ?_
  obtain ⟨z9, hz9, hf⟩ := bd_some hf
  refine sm_callV (rest := [.int z4, .ref (a 0)]) F (ct_X10_forgotten l D cI cZ cO a hz9) (cut_X_id cI cZ cO a u u) rfl rfl rfl qw3_91 qw3_93 qw0_16 qw1_1 qw3_94 hvX10_forgotten ⟨Nat.le_of_ble_eq_true rfl, Nat.le_of_ble_eq_true rfl⟩ ⟨Nat.zero_le _, Nat.zero_le _⟩ 0 10 rfl rfl rfl rfl (Nat.le_of_ble_eq_true rfl) E0_b (fun _ _ _ _ _ _ => trivial) rfl dX10_speaks_9 [.int z9, .int z4, .ref (a 0)] rfl ?_
  refine sm_aload_n F dX10_speaks_12 rfl 0 rfl ?_
  refine sm_iload_n F dX10_speaks_13 rfl 2 rfl ?_
  obtain ⟨z14, hz14, hf⟩ := bd_some hf
  refine sm_callV (rest := [.int z9, .int z4, .ref (a 0)]) F (ct_X10_forgotten l D cI cZ cO a hz14) (cut_X_id cI cZ cO a u u) rfl rfl rfl qw3_91 qw3_93 qw0_16 qw1_1 qw3_94 hvX10_forgotten ⟨Nat.le_of_ble_eq_true rfl, Nat.le_of_ble_eq_true rfl⟩ ⟨Nat.zero_le _, Nat.zero_le _⟩ 0 10 rfl rfl rfl rfl (Nat.le_of_ble_eq_true rfl) E0_b (fun _ _ _ _ _ _ => trivial) rfl dX10_speaks_14 [.int z14, .int z9, .int z4, .ref (a 0)] rfl ?_
  obtain ⟨z17, hz17, hf⟩ := bd_some hf
  refine sm_callV (rest := []) F (ct_X10_refused__ l D cI cZ cO a hz17) (cut_X_id cI cZ cO a u z17.2) rfl rfl rfl qw3_95 qw3_97 qw0_17 qw1_1 qw3_98 hvX10_refused__ ⟨Nat.le_of_ble_eq_true rfl, Nat.le_of_ble_eq_true rfl⟩ ⟨Nat.zero_le _, Nat.zero_le _⟩ 0 10 rfl rfl rfl rfl (Nat.le_of_ble_eq_true rfl) E0_b (fun _ _ _ _ _ _ => trivial) rfl dX10_speaks_17 [.int z17.1] rfl ?_
  refine sm_istore_n F [(0, .ref (a 0)), (1, .int x1), (2, .int x2), (3, .int z17.1)] [1, 2, 3, 0] dX10_speaks_20 rfl (by decide) rfl ?_
  refine sm_iload_n F dX10_speaks_21 rfl 3 rfl ?_
  refine sm_if_eq (tgt := 27) F dX10_speaks_22 (by decide) (fun c22 => ?_) (fun c22 => ?_)
  · replace hf := if_t c22 hf
    refine sm_aload_n F dX10_speaks_27 rfl 0 rfl ?_
    refine sm_get (v := .ref (a 22)) F inX10 0 rfl rfl 0 (by decide) qw1_185 rfl rfl dX10_speaks_28 ?_
    refine sm_iload_n F dX10_speaks_31 rfl 1 rfl ?_
    refine sm_iload_n F dX10_speaks_32 rfl 2 rfl ?_
    obtain ⟨z33, hz33, hf⟩ := bd_some hf
    refine sm_callV (rest := []) F (ct_X8_talk l D cI cZ cO (fun i => a (pm_X_v22 i)) hz33) (cut_X_v22 cI cZ cO a z17.2 z33) rfl rfl rfl qw3_99 qw2_197 qw2_198 qw1_8 qw2_199 hvX8_talk ⟨Nat.le_of_ble_eq_true rfl, Nat.le_of_ble_eq_true rfl⟩ ⟨Nat.zero_le _, Nat.zero_le _⟩ 0 8 rfl rfl rfl rfl (Nat.le_of_ble_eq_true rfl) E0_b (fun _ _ _ _ _ _ => trivial) rfl dX10_speaks_33 [] rfl ?_
    refine sm_aload_n F dX10_speaks_36 rfl 0 rfl ?_
    refine sm_get (v := .ref (a 22)) F inX10 0 rfl rfl 0 (by decide) qw1_185 rfl rfl dX10_speaks_37 ?_
    refine sm_iload_n F dX10_speaks_40 rfl 1 rfl ?_
    refine sm_iload_n F dX10_speaks_41 rfl 2 rfl ?_
    obtain ⟨z42, hz42, hf⟩ := bd_some hf
    refine sm_callV (rest := []) F (ct_X8_memoryOf l D cI cZ cO (fun i => a (pm_X_v22 i)) hz42) (cut_X_v22_ro cI cZ cO a (sX_mind z17.2 (sM_now (gX_mind z17.2) z33))) rfl rfl rfl qw3_78 qw3_79 qw3_80 qw1_8 qw3_81 hvX8_memoryOf ⟨Nat.le_of_ble_eq_true rfl, Nat.le_of_ble_eq_true rfl⟩ ⟨Nat.zero_le _, Nat.zero_le _⟩ 0 8 rfl rfl rfl rfl (Nat.le_of_ble_eq_true rfl) E0_b (fun _ _ _ _ _ _ => trivial) rfl dX10_speaks_42 [.int z42] rfl ?_
    refine sm_aload_n F dX10_speaks_45 rfl 0 rfl ?_
    refine sm_get (v := .ref (a 22)) F inX10 0 rfl rfl 0 (by decide) qw1_185 rfl rfl dX10_speaks_46 ?_
    refine sm_iload_n F dX10_speaks_49 rfl 2 rfl ?_
    refine sm_iload_n F dX10_speaks_50 rfl 1 rfl ?_
    obtain ⟨z51, hz51, hf⟩ := bd_some hf
    refine sm_callV (rest := [.int z42]) F (ct_X8_memoryOf l D cI cZ cO (fun i => a (pm_X_v22 i)) hz51) (cut_X_v22_ro cI cZ cO a (sX_mind z17.2 (sM_now (gX_mind z17.2) z33))) rfl rfl rfl qw3_78 qw3_79 qw3_80 qw1_8 qw3_81 hvX8_memoryOf ⟨Nat.le_of_ble_eq_true rfl, Nat.le_of_ble_eq_true rfl⟩ ⟨Nat.zero_le _, Nat.zero_le _⟩ 0 8 rfl rfl rfl rfl (Nat.le_of_ble_eq_true rfl) E0_b (fun _ _ _ _ _ _ => trivial) rfl dX10_speaks_51 [.int z51, .int z42] rfl ?_
    refine sm_iadd F dX10_speaks_54 ?_
    exact sm_iret F dX10_speaks_55 (Prod.mk.inj (Option.some.inj hf)).1 (congrArg (fun z => (wX cI cZ cO a z)) (Prod.mk.inj (Option.some.inj hf)).2)
  · replace hf := if_f c22 hf
    refine sm_iload_n F dX10_speaks_25 rfl 3 rfl ?_
    exact sm_iret F dX10_speaks_26 (Prod.mk.inj (Option.some.inj hf)).1 (congrArg (fun z => (wX cI cZ cO a z)) (Prod.mk.inj (Option.some.inj hf)).2)
/-! SoManyForgotten.owes(II)I -/
abbrev rmX10_owes : Room := { frames := 2, cells := 0, slots := 0, locals := 43 }
set_option maxRecDepth 100000 in
theorem hvX10_owes : yX10_owes.cls = RX10 ∧ yX10_owes.cls ≠ "java/lang/invoke/MethodHandle" ∧ yX10_owes.cls ≠ "java/lang/invoke/VarHandle" ∧ (parseMethodDescriptor yX10_owes.desc).map (fun d => d.parameters.length) = some 2 := by decide +kernel
set_option maxRecDepth 100000 in
set_option maxHeartbeats 4000000 in
theorem ct_X10_owes (l : Launch) (D : va_G) (cI cZ cO : ClassId) (a : Nat → Nat) {u : XS} {x1 : Int32} {x2 : Int32} {r : Int32} {o : XS} (hf : f_X10_owes u x1 x2 = some (r, o)) : Ct l yX10_owes (uw (Cond.code yX10_owes cX10_owes 5 (some .int))) rmX10_owes D (tyL cI cZ cO) E0 [.ref (a 0), .int x1, .int x2] (wX cI cZ cO a u) (some (.int r)) (wX cI cZ cO a o) := by
  refine sm_start (cc := cX10_owes) (maxL := 5) (ret := (some .int)) (own := RX10) (by decide) rfl rfl (Nat.le_of_ble_eq_true rfl) (lv := [(0, .ref (a 0)), (1, .int x1), (2, .int x2)]) rfl ?_
  intro p e s m below meth c A F hE hA
  unfold f_X10_owes at hf
  refine sm_aload_n F dX10_owes_0 rfl 0 rfl ?_
  refine sm_aload_n F dX10_owes_1 rfl 0 rfl ?_
  refine sm_iload_n F dX10_owes_2 rfl 1 rfl ?_
  obtain ⟨z3, hz3, hf⟩ := bd_some hf
  refine sm_callV (rest := [.ref (a 0)]) F (ct_X10_nobody l D cI cZ cO a hz3) (cut_X_id cI cZ cO a u u) rfl rfl rfl qw3_52 qw3_54 qw0_13 qw1_1 qw3_55 hvX10_nobody ⟨Nat.le_of_ble_eq_true rfl, Nat.le_of_ble_eq_true rfl⟩ ⟨Nat.zero_le _, Nat.zero_le _⟩ 0 10 rfl rfl rfl rfl (Nat.le_of_ble_eq_true rfl) E0_b (fun _ _ _ _ _ _ => trivial) rfl dX10_owes_3 [.int z3, .ref (a 0)] rfl ?_
  refine sm_iload_n F dX10_owes_6 rfl 2 rfl ?_
  refine sm_iconst F dX10_owes_7 kc_i_0 ?_
  refine sm_bipush F dX10_owes_8 kc_b_99 ?_
  obtain ⟨z10, hz10, hf⟩ := bd_some hf
  refine sm_callS (rest := [.int z3, .ref (a 0)]) F (ct_X10_outside l D (tyL cI cZ cO) hz10) (cut_X_none cI cZ cO a u) rfl rfl rfl qw1_214 qw1_215 qw1_1 qw1_216 hsX10_outside ⟨Nat.le_of_ble_eq_true rfl, Nat.le_of_ble_eq_true rfl⟩ ⟨Nat.zero_le _, Nat.zero_le _⟩ rfl (Nat.le_of_ble_eq_true rfl) E0_b (fun _ _ _ _ _ _ => trivial) rfl dX10_owes_10 [.int z10, .int z3, .ref (a 0)] rfl ?_
  obtain ⟨z13, hz13, hf⟩ := bd_some hf
  refine sm_callV (rest := []) F (ct_X10_refused_ l D cI cZ cO a hz13) (cut_X_id cI cZ cO a u z13.2) rfl rfl rfl qw1_221 qw1_223 qw0_0 qw1_1 qw1_224 hvX10_refused_ ⟨Nat.le_of_ble_eq_true rfl, Nat.le_of_ble_eq_true rfl⟩ ⟨Nat.zero_le _, Nat.zero_le _⟩ 0 10 rfl rfl rfl rfl (Nat.le_of_ble_eq_true rfl) E0_b (fun _ _ _ _ _ _ => trivial) rfl dX10_owes_13 [.int z13.1] rfl ?_
  refine sm_istore_n F [(0, .ref (a 0)), (1, .int x1), (2, .int x2), (3, .int z13.1)] [1, 2, 3, 0] dX10_owes_16 rfl (by decide) rfl ?_
  refine sm_iload_n F dX10_owes_17 rfl 3 rfl ?_
  refine sm_if_eq (tgt := 23) F dX10_owes_18 (by decide) (fun c18 => ?_) (fun c18 => ?_)
  · replace hf := if_t c18 hf
    refine sm_aload_n F dX10_owes_23 rfl 0 rfl ?_
    refine sm_get (v := .ref (a 22)) F inX10 0 rfl rfl 0 (by decide) qw1_185 rfl rfl dX10_owes_24 ?_
    refine sm_get (v := .ref (a 25)) F inX8 22 rfl rfl 3 (by decide) qw1_86 rfl rfl dX10_owes_27 ?_
    refine sm_iload_n F dX10_owes_30 rfl 1 rfl ?_
    obtain ⟨h31, hf⟩ := ck_some hf
    refine sm_iald F 25 0 rfl rfl h31 dX10_owes_31 ?_
    refine sm_istore F [(0, .ref (a 0)), (1, .int x1), (2, .int x2), (4, .int ((gV_owed (gM_now (gX_mind z13.2))) (Int32.toNatClampNeg x1)))] [1, 2, 3, 0] dX10_owes_32 (by decide) rfl ?_
    refine sm_aload_n F dX10_owes_34 rfl 0 rfl ?_
    refine sm_get (v := .ref (a 22)) F inX10 0 rfl rfl 0 (by decide) qw1_185 rfl rfl dX10_owes_35 ?_
    refine sm_get (v := .ref (a 25)) F inX8 22 rfl rfl 3 (by decide) qw1_86 rfl rfl dX10_owes_38 ?_
    refine sm_iload_n F dX10_owes_41 rfl 1 rfl ?_
    refine sm_iload_n F dX10_owes_42 rfl 2 rfl ?_
    obtain ⟨h43, hf⟩ := ck_some hf
    refine sm_iast F 25 0 rfl rfl h43 (wX cI cZ cO a (sX_mind z13.2 (sM_now (gX_mind z13.2) (sV_owed (gM_now (gX_mind z13.2)) (upd (gV_owed (gM_now (gX_mind z13.2))) (Int32.toNatClampNeg x1) x2))))) rfl dX10_owes_43 ?_
    obtain ⟨u43, hu43, hf⟩ := bd_some hf
    refine sm_ws (ws' := (wX cI cZ cO a u43)) (congrArg (fun z => (wX cI cZ cO a z)) (Option.some.inj hu43)) ?_
    refine sm_iload F dX10_owes_44 3 rfl ?_
    exact sm_iret F dX10_owes_46 (Prod.mk.inj (Option.some.inj hf)).1 (congrArg (fun z => (wX cI cZ cO a z)) (Prod.mk.inj (Option.some.inj hf)).2)
  · replace hf := if_f c18 hf
    refine sm_iload_n F dX10_owes_21 rfl 3 rfl ?_
    exact sm_iret F dX10_owes_22 (Prod.mk.inj (Option.some.inj hf)).1 (congrArg (fun z => (wX cI cZ cO a z)) (Prod.mk.inj (Option.some.inj hf)).2)
/-! SoManyForgotten.back(I)I -/
abbrev rmX10_back : Room := { frames := 2, cells := 0, slots := 0, locals := 44 }
set_option maxRecDepth 100000 in
theorem hvX10_back : yX10_back.cls = RX10 ∧ yX10_back.cls ≠ "java/lang/invoke/MethodHandle" ∧ yX10_back.cls ≠ "java/lang/invoke/VarHandle" ∧ (parseMethodDescriptor yX10_back.desc).map (fun d => d.parameters.length) = some 1 := by decide +kernel
set_option maxRecDepth 100000 in
set_option maxHeartbeats 4000000 in
theorem s_X10_back_23 {p : Program} {l : Launch} {e : Env} {s : State} {m : MethodId} {args : Array Value} {below : List Frame} {meth : Method} {c : Code} {A : Nat → Prop} {D : va_G} {cI cZ cO : ClassId} {a : Nat → Nat} {r : Int32} {o : XS} (F : smF p s m args meth c cX10_back 3 (some .int) RX10 D (tyL cI cZ cO) A) (x1 : Int32)  (u : XS) (y0 : Int32) (y1 : Int32) (hf : f_X10_back_23 x1   u y0 y1 = some (r, o)) : Sm p l e rmX10_back s m args below meth c D A 3 0 0 (smQ below args s D A (some (.int r)) (wX cI cZ cO a o)) 23 [(0, .ref (a 0)), (1, .int x1)] [.int y0, .int y1, .ref (a 0)] (wX cI cZ cO a u) := by
  unfold f_X10_back_23 at hf
  obtain ⟨z23, hz23, hf⟩ := bd_some hf
  refine sm_callV (rest := []) F (ct_X10_refused_ l D cI cZ cO a hz23) (cut_X_id cI cZ cO a u z23.2) rfl rfl rfl qw1_221 qw1_223 qw0_0 qw1_1 qw1_224 hvX10_refused_ ⟨Nat.le_of_ble_eq_true rfl, Nat.le_of_ble_eq_true rfl⟩ ⟨Nat.zero_le _, Nat.zero_le _⟩ 0 10 rfl rfl rfl rfl (Nat.le_of_ble_eq_true rfl) E0_b (fun _ _ _ _ _ _ => trivial) rfl dX10_back_23 [.int z23.1] rfl ?_
  refine sm_istore_n F [(0, .ref (a 0)), (1, .int x1), (2, .int z23.1)] [1, 2, 0] dX10_back_26 rfl (by decide) rfl ?_
  refine sm_iload_n F dX10_back_27 rfl 2 rfl ?_
  refine sm_if_eq (tgt := 33) F dX10_back_28 (by decide) (fun c28 => ?_) (fun c28 => ?_)
  · replace hf := if_t c28 hf
    refine sm_aload_n F dX10_back_33 rfl 0 rfl ?_
    refine sm_get (v := .ref (a 22)) F inX10 0 rfl rfl 0 (by decide) qw1_185 rfl rfl dX10_back_34 ?_
    refine sm_iload_n F dX10_back_37 rfl 1 rfl ?_
    obtain ⟨z38, hz38, hf⟩ := bd_some hf
    refine sm_callV (rest := []) F (ct_X8_comeBack l D cI cZ cO (fun i => a (pm_X_v22 i)) hz38) (cut_X_v22 cI cZ cO a z23.2 z38) rfl rfl rfl qw3_109 qw2_209 qw2_210 qw1_8 qw2_211 hvX8_comeBack ⟨Nat.le_of_ble_eq_true rfl, Nat.le_of_ble_eq_true rfl⟩ ⟨Nat.zero_le _, Nat.zero_le _⟩ 0 8 rfl rfl rfl rfl (Nat.le_of_ble_eq_true rfl) E0_b (fun _ _ _ _ _ _ => trivial) rfl dX10_back_38 [] rfl ?_
    refine sm_aload_n F dX10_back_41 rfl 0 rfl ?_
    refine sm_get (v := .ref (a 22)) F inX10 0 rfl rfl 0 (by decide) qw1_185 rfl rfl dX10_back_42 ?_
    obtain ⟨z45, hz45, hf⟩ := bd_some hf
    refine sm_callV (rest := []) F (ct_X8_countHere l D cI cZ cO (fun i => a (pm_X_v22 i)) hz45) (cut_X_v22_ro cI cZ cO a (sX_mind z23.2 (sM_now (gX_mind z23.2) z38))) rfl rfl rfl qw3_110 qw3_111 qw3_112 qw1_8 qw3_113 hvX8_countHere ⟨Nat.le_of_ble_eq_true rfl, Nat.le_of_ble_eq_true rfl⟩ ⟨Nat.zero_le _, Nat.zero_le _⟩ 0 8 rfl rfl rfl rfl (Nat.le_of_ble_eq_true rfl) E0_b (fun _ _ _ _ _ _ => trivial) rfl dX10_back_45 [.int z45] rfl ?_
    exact sm_iret F dX10_back_48 (Prod.mk.inj (Option.some.inj hf)).1 (congrArg (fun z => (wX cI cZ cO a z)) (Prod.mk.inj (Option.some.inj hf)).2)
  · replace hf := if_f c28 hf
    refine sm_iload_n F dX10_back_31 rfl 2 rfl ?_
    exact sm_iret F dX10_back_32 (Prod.mk.inj (Option.some.inj hf)).1 (congrArg (fun z => (wX cI cZ cO a z)) (Prod.mk.inj (Option.some.inj hf)).2)
set_option maxRecDepth 100000 in
set_option maxHeartbeats 4000000 in
theorem ct_X10_back (l : Launch) (D : va_G) (cI cZ cO : ClassId) (a : Nat → Nat) {u : XS} {x1 : Int32} {r : Int32} {o : XS} (hf : f_X10_back u x1 = some (r, o)) : Ct l yX10_back (uw (Cond.code yX10_back cX10_back 3 (some .int))) rmX10_back D (tyL cI cZ cO) E0 [.ref (a 0), .int x1] (wX cI cZ cO a u) (some (.int r)) (wX cI cZ cO a o) := by
  refine sm_start (cc := cX10_back) (maxL := 3) (ret := (some .int)) (own := RX10) (by decide) rfl rfl (Nat.le_of_ble_eq_true rfl) (lv := [(0, .ref (a 0)), (1, .int x1)]) rfl ?_
  intro p e s m below meth c A F hE hA
  unfold f_X10_back at hf
  refine sm_aload_n F dX10_back_0 rfl 0 rfl ?_
  refine sm_aload_n F dX10_back_1 rfl 0 rfl ?_
  refine sm_iload_n F dX10_back_2 rfl 1 rfl ?_
  obtain ⟨z3, hz3, hf⟩ := bd_some hf
  refine sm_callV (rest := [.ref (a 0)]) F (ct_X10_nobody l D cI cZ cO a hz3) (cut_X_id cI cZ cO a u u) rfl rfl rfl qw3_52 qw3_54 qw0_13 qw1_1 qw3_55 hvX10_nobody ⟨Nat.le_of_ble_eq_true rfl, Nat.le_of_ble_eq_true rfl⟩ ⟨Nat.zero_le _, Nat.zero_le _⟩ 0 10 rfl rfl rfl rfl (Nat.le_of_ble_eq_true rfl) E0_b (fun _ _ _ _ _ _ => trivial) rfl dX10_back_3 [.int z3, .ref (a 0)] rfl ?_
  refine sm_aload_n F dX10_back_6 rfl 0 rfl ?_
  refine sm_get (v := .ref (a 22)) F inX10 0 rfl rfl 0 (by decide) qw1_185 rfl rfl dX10_back_7 ?_
  refine sm_iload_n F dX10_back_10 rfl 1 rfl ?_
  obtain ⟨z11, hz11, hf⟩ := bd_some hf
  refine sm_callV (rest := [.int z3, .ref (a 0)]) F (ct_X8_isHere l D cI cZ cO (fun i => a (pm_X_v22 i)) hz11) (cut_X_v22_ro cI cZ cO a u) rfl rfl rfl qw3_108 qw2_193 qw2_194 qw1_8 qw2_195 hvX8_isHere ⟨Nat.le_of_ble_eq_true rfl, Nat.le_of_ble_eq_true rfl⟩ ⟨Nat.zero_le _, Nat.zero_le _⟩ 0 8 rfl rfl rfl rfl (Nat.le_of_ble_eq_true rfl) E0_b (fun _ _ _ _ _ _ => trivial) rfl dX10_back_11 [.int z11, .int z3, .ref (a 0)] rfl ?_
  refine sm_if_eq (tgt := 22) F dX10_back_14 (by decide) (fun c14 => ?_) (fun c14 => ?_)
  · replace hf := if_t c14 hf
    refine sm_iconst F dX10_back_22 kc_i_0 ?_
    exact s_X10_back_23 F x1 u (0 : Int32) z3 hf
  · replace hf := if_f c14 hf
    refine sm_bipush F dX10_back_17 kc_b_m3 ?_
    refine sm_goto (tgt := 23) F dX10_back_19 (by decide) ?_
    exact s_X10_back_23 F x1 u ((-3) : Int32) z3 hf
/-! SoManyForgotten.names(I)I -/
abbrev rmX10_names : Room := { frames := 2, cells := 0, slots := 0, locals := 42 }
set_option maxRecDepth 100000 in
theorem hvX10_names : yX10_names.cls = RX10 ∧ yX10_names.cls ≠ "java/lang/invoke/MethodHandle" ∧ yX10_names.cls ≠ "java/lang/invoke/VarHandle" ∧ (parseMethodDescriptor yX10_names.desc).map (fun d => d.parameters.length) = some 1 := by decide +kernel
set_option maxRecDepth 100000 in
set_option maxHeartbeats 4000000 in
theorem ct_X10_names (l : Launch) (D : va_G) (cI cZ cO : ClassId) (a : Nat → Nat) {u : XS} {x1 : Int32} {r : Int32} {o : XS} (hf : f_X10_names u x1 = some (r, o)) : Ct l yX10_names (uw (Cond.code yX10_names cX10_names 4 (some .int))) rmX10_names D (tyL cI cZ cO) E0 [.ref (a 0), .int x1] (wX cI cZ cO a u) (some (.int r)) (wX cI cZ cO a o) := by
  refine sm_start (cc := cX10_names) (maxL := 4) (ret := (some .int)) (own := RX10) (by decide) rfl rfl (Nat.le_of_ble_eq_true rfl) (lv := [(0, .ref (a 0)), (1, .int x1)]) rfl ?_
  intro p e s m below meth c A F hE hA
  unfold f_X10_names at hf
  refine sm_aload_n F dX10_names_0 rfl 0 rfl ?_
  refine sm_iload_n F dX10_names_1 rfl 1 rfl ?_
  refine sm_iconst F dX10_names_2 kc_i_0 ?_
  refine sm_iconst F dX10_names_3 kc_i_3 ?_
  obtain ⟨z4, hz4, hf⟩ := bd_some hf
  refine sm_callS (rest := [.ref (a 0)]) F (ct_X10_outside l D (tyL cI cZ cO) hz4) (cut_X_none cI cZ cO a u) rfl rfl rfl qw1_214 qw1_215 qw1_1 qw1_216 hsX10_outside ⟨Nat.le_of_ble_eq_true rfl, Nat.le_of_ble_eq_true rfl⟩ ⟨Nat.zero_le _, Nat.zero_le _⟩ rfl (Nat.le_of_ble_eq_true rfl) E0_b (fun _ _ _ _ _ _ => trivial) rfl dX10_names_4 [.int z4, .ref (a 0)] rfl ?_
  obtain ⟨z7, hz7, hf⟩ := bd_some hf
  refine sm_callV (rest := []) F (ct_X10_refused l D cI cZ cO a hz7) (cut_X_id cI cZ cO a u z7.2) rfl rfl rfl qw3_74 qw3_76 qw0_15 qw1_1 qw3_77 hvX10_refused ⟨Nat.le_of_ble_eq_true rfl, Nat.le_of_ble_eq_true rfl⟩ ⟨Nat.zero_le _, Nat.zero_le _⟩ 0 10 rfl rfl rfl rfl (Nat.le_of_ble_eq_true rfl) E0_b (fun _ _ _ _ _ _ => trivial) rfl dX10_names_7 [.int z7.1] rfl ?_
  refine sm_istore_n F [(0, .ref (a 0)), (1, .int x1), (2, .int z7.1)] [1, 2, 0] dX10_names_10 rfl (by decide) rfl ?_
  refine sm_iload_n F dX10_names_11 rfl 2 rfl ?_
  refine sm_if_eq (tgt := 17) F dX10_names_12 (by decide) (fun c12 => ?_) (fun c12 => ?_)
  · replace hf := if_t c12 hf
    refine sm_aload_n F dX10_names_17 rfl 0 rfl ?_
    refine sm_get (v := .ref (a 22)) F inX10 0 rfl rfl 0 (by decide) qw1_185 rfl rfl dX10_names_18 ?_
    refine sm_get (v := .int (gV_names (gM_now (gX_mind z7.2)))) F inX8 22 rfl rfl 7 (by decide) qw1_99 rfl rfl dX10_names_21 ?_
    refine sm_istore_n F [(0, .ref (a 0)), (1, .int x1), (3, .int (gV_names (gM_now (gX_mind z7.2))))] [1, 2, 0] dX10_names_24 rfl (by decide) rfl ?_
    refine sm_aload_n F dX10_names_25 rfl 0 rfl ?_
    refine sm_get (v := .ref (a 22)) F inX10 0 rfl rfl 0 (by decide) qw1_185 rfl rfl dX10_names_26 ?_
    refine sm_iload_n F dX10_names_29 rfl 1 rfl ?_
    refine sm_put F inX8 tyX8 tyX8_ok nmX8 22 rfl rfl 7 (by decide) qw1_99 rfl rfl rfl rfl (Nat.le_of_ble_eq_true rfl) (wX cI cZ cO a (sX_mind z7.2 (sM_now (gX_mind z7.2) (sV_names (gM_now (gX_mind z7.2)) x1)))) rfl dX10_names_30 ?_
    refine sm_iload_n F dX10_names_33 rfl 2 rfl ?_
    exact sm_iret F dX10_names_34 (Prod.mk.inj (Option.some.inj hf)).1 (congrArg (fun z => (wX cI cZ cO a z)) (Prod.mk.inj (Option.some.inj hf)).2)
  · replace hf := if_f c12 hf
    refine sm_iload_n F dX10_names_15 rfl 2 rfl ?_
    exact sm_iret F dX10_names_16 (Prod.mk.inj (Option.some.inj hf)).1 (congrArg (fun z => (wX cI cZ cO a z)) (Prod.mk.inj (Option.some.inj hf)).2)
/-! SoManyForgotten.turn(III)I -/
abbrev rmX10_turn : Room := { frames := 2, cells := 0, slots := 0, locals := 44 }
set_option maxRecDepth 100000 in
theorem hvX10_turn : yX10_turn.cls = RX10 ∧ yX10_turn.cls ≠ "java/lang/invoke/MethodHandle" ∧ yX10_turn.cls ≠ "java/lang/invoke/VarHandle" ∧ (parseMethodDescriptor yX10_turn.desc).map (fun d => d.parameters.length) = some 3 := by decide +kernel
set_option maxRecDepth 100000 in
set_option maxHeartbeats 4000000 in
theorem ct_X10_turn (l : Launch) (D : va_G) (cI cZ cO : ClassId) (a : Nat → Nat) {u : XS} {x1 : Int32} {x2 : Int32} {x3 : Int32} {r : Int32} {o : XS} (hf : f_X10_turn u x1 x2 x3 = some (r, o)) : Ct l yX10_turn (uw (Cond.code yX10_turn cX10_turn 6 (some .int))) rmX10_turn D (tyL cI cZ cO) E0 [.ref (a 0), .int x1, .int x2, .int x3] (wX cI cZ cO a u) (some (.int r)) (wX cI cZ cO a o) := by
  refine sm_start (cc := cX10_turn) (maxL := 6) (ret := (some .int)) (own := RX10) (by decide) rfl rfl (Nat.le_of_ble_eq_true rfl) (lv := [(0, .ref (a 0)), (1, .int x1), (2, .int x2), (3, .int x3)]) rfl ?_
  intro p e s m below meth c A F hE hA
  unfold f_X10_turn at hf
  refine sm_aload_n F dX10_turn_0 rfl 0 rfl ?_
  refine sm_aload_n F dX10_turn_1 rfl 0 rfl ?_
  refine sm_iload_n F dX10_turn_2 rfl 1 rfl ?_
  obtain ⟨z3, hz3, hf⟩ := bd_some hf
  refine sm_callV (rest := [.ref (a 0)]) F (ct_X10_nobody l D cI cZ cO a hz3) (cut_X_id cI cZ cO a u u) rfl rfl rfl qw3_52 qw3_54 qw0_13 qw1_1 qw3_55 hvX10_nobody ⟨Nat.le_of_ble_eq_true rfl, Nat.le_of_ble_eq_true rfl⟩ ⟨Nat.zero_le _, Nat.zero_le _⟩ 0 10 rfl rfl rfl rfl (Nat.le_of_ble_eq_true rfl) E0_b (fun _ _ _ _ _ _ => trivial) rfl dX10_turn_3 [.int z3, .ref (a 0)] rfl ?_
  refine sm_iload_n F dX10_turn_6 rfl 2 rfl ?_
  refine sm_iconst F dX10_turn_7 kc_i_5 ?_
  obtain ⟨z8, hz8, hf⟩ := bd_some hf
  refine sm_callS (rest := [.int z3, .ref (a 0)]) F (ct_X10_wrongWhat l D (tyL cI cZ cO) hz8) (cut_X_none cI cZ cO a u) rfl rfl rfl qw3_57 qw3_58 qw1_1 qw3_59 hsX10_wrongWhat ⟨Nat.le_of_ble_eq_true rfl, Nat.le_of_ble_eq_true rfl⟩ ⟨Nat.zero_le _, Nat.zero_le _⟩ rfl (Nat.le_of_ble_eq_true rfl) E0_b (fun _ _ _ _ _ _ => trivial) rfl dX10_turn_8 [.int z8, .int z3, .ref (a 0)] rfl ?_
  refine sm_iload_n F dX10_turn_11 rfl 3 rfl ?_
  refine sm_iconst F dX10_turn_12 kc_i_0 ?_
  refine sm_bipush F dX10_turn_13 kc_b_9 ?_
  obtain ⟨z15, hz15, hf⟩ := bd_some hf
  refine sm_callS (rest := [.int z8, .int z3, .ref (a 0)]) F (ct_X10_outside l D (tyL cI cZ cO) hz15) (cut_X_none cI cZ cO a u) rfl rfl rfl qw1_214 qw1_215 qw1_1 qw1_216 hsX10_outside ⟨Nat.le_of_ble_eq_true rfl, Nat.le_of_ble_eq_true rfl⟩ ⟨Nat.zero_le _, Nat.zero_le _⟩ rfl (Nat.le_of_ble_eq_true rfl) E0_b (fun _ _ _ _ _ _ => trivial) rfl dX10_turn_15 [.int z15, .int z8, .int z3, .ref (a 0)] rfl ?_
  obtain ⟨z18, hz18, hf⟩ := bd_some hf
  refine sm_callV (rest := []) F (ct_X10_refused__ l D cI cZ cO a hz18) (cut_X_id cI cZ cO a u z18.2) rfl rfl rfl qw3_95 qw3_97 qw0_17 qw1_1 qw3_98 hvX10_refused__ ⟨Nat.le_of_ble_eq_true rfl, Nat.le_of_ble_eq_true rfl⟩ ⟨Nat.zero_le _, Nat.zero_le _⟩ 0 10 rfl rfl rfl rfl (Nat.le_of_ble_eq_true rfl) E0_b (fun _ _ _ _ _ _ => trivial) rfl dX10_turn_18 [.int z18.1] rfl ?_
  refine sm_istore F [(0, .ref (a 0)), (1, .int x1), (2, .int x2), (3, .int x3), (4, .int z18.1)] [1, 2, 3, 4, 0] dX10_turn_21 (by decide) rfl ?_
  refine sm_iload F dX10_turn_23 4 rfl ?_
  refine sm_if_eq (tgt := 31) F dX10_turn_25 (by decide) (fun c25 => ?_) (fun c25 => ?_)
  · replace hf := if_t c25 hf
    refine sm_bipush F dX10_turn_31 kc_b_10 ?_
    refine sm_aload_n F dX10_turn_33 rfl 0 rfl ?_
    refine sm_get (v := .ref (a 22)) F inX10 0 rfl rfl 0 (by decide) qw1_185 rfl rfl dX10_turn_34 ?_
    refine sm_get (v := .ref (a 23)) F inX8 22 rfl rfl 1 (by decide) qw1_80 rfl rfl dX10_turn_37 ?_
    refine sm_iload_n F dX10_turn_40 rfl 1 rfl ?_
    obtain ⟨h41, hf⟩ := ck_some hf
    refine sm_iald F 23 0 rfl rfl h41 dX10_turn_41 ?_
    refine sm_imul F dX10_turn_42 ?_
    refine sm_aload_n F dX10_turn_43 rfl 0 rfl ?_
    refine sm_get (v := .ref (a 22)) F inX10 0 rfl rfl 0 (by decide) qw1_185 rfl rfl dX10_turn_44 ?_
    refine sm_get (v := .ref (a 24)) F inX8 22 rfl rfl 2 (by decide) qw1_83 rfl rfl dX10_turn_47 ?_
    refine sm_iload_n F dX10_turn_50 rfl 1 rfl ?_
    obtain ⟨h51, hf⟩ := ck_some hf
    refine sm_iald F 24 0 rfl rfl h51 dX10_turn_51 ?_
    refine sm_iadd F dX10_turn_52 ?_
    obtain ⟨v53, hv53, hf⟩ := bd_some hf
    refine sm_topi (Option.some.inj hv53) ?_
    refine sm_istore F [(0, .ref (a 0)), (1, .int x1), (2, .int x2), (3, .int x3), (5, .int v53)] [1, 2, 3, 4, 0] dX10_turn_53 (by decide) rfl ?_
    refine sm_aload_n F dX10_turn_55 rfl 0 rfl ?_
    refine sm_get (v := .ref (a 22)) F inX10 0 rfl rfl 0 (by decide) qw1_185 rfl rfl dX10_turn_56 ?_
    refine sm_get (v := .ref (a 23)) F inX8 22 rfl rfl 1 (by decide) qw1_80 rfl rfl dX10_turn_59 ?_
    refine sm_iload_n F dX10_turn_62 rfl 1 rfl ?_
    refine sm_iload_n F dX10_turn_63 rfl 2 rfl ?_
    obtain ⟨h64, hf⟩ := ck_some hf
    refine sm_iast F 23 0 rfl rfl h64 (wX cI cZ cO a (sX_mind z18.2 (sM_now (gX_mind z18.2) (sV_kind (gM_now (gX_mind z18.2)) (upd (gV_kind (gM_now (gX_mind z18.2))) (Int32.toNatClampNeg x1) x2))))) rfl dX10_turn_64 ?_
    obtain ⟨u64, hu64, hf⟩ := bd_some hf
    refine sm_ws (ws' := (wX cI cZ cO a u64)) (congrArg (fun z => (wX cI cZ cO a z)) (Option.some.inj hu64)) ?_
    refine sm_aload_n F dX10_turn_65 rfl 0 rfl ?_
    refine sm_get (v := .ref (a 22)) F inX10 0 rfl rfl 0 (by decide) qw1_185 rfl rfl dX10_turn_66 ?_
    refine sm_get (v := .ref (a 24)) F inX8 22 rfl rfl 2 (by decide) qw1_83 rfl rfl dX10_turn_69 ?_
    refine sm_iload_n F dX10_turn_72 rfl 1 rfl ?_
    refine sm_iload_n F dX10_turn_73 rfl 3 rfl ?_
    obtain ⟨h74, hf⟩ := ck_some hf
    refine sm_iast F 24 0 rfl rfl h74 (wX cI cZ cO a (sX_mind u64 (sM_now (gX_mind u64) (sV_fig (gM_now (gX_mind u64)) (upd (gV_fig (gM_now (gX_mind u64))) (Int32.toNatClampNeg x1) x3))))) rfl dX10_turn_74 ?_
    obtain ⟨u74, hu74, hf⟩ := bd_some hf
    refine sm_ws (ws' := (wX cI cZ cO a u74)) (congrArg (fun z => (wX cI cZ cO a z)) (Option.some.inj hu74)) ?_
    refine sm_iload F dX10_turn_75 4 rfl ?_
    exact sm_iret F dX10_turn_77 (Prod.mk.inj (Option.some.inj hf)).1 (congrArg (fun z => (wX cI cZ cO a z)) (Prod.mk.inj (Option.some.inj hf)).2)
  · replace hf := if_f c25 hf
    refine sm_iload F dX10_turn_28 4 rfl ?_
    exact sm_iret F dX10_turn_30 (Prod.mk.inj (Option.some.inj hf)).1 (congrArg (fun z => (wX cI cZ cO a z)) (Prod.mk.inj (Option.some.inj hf)).2)
/-! SoManyForgotten.weeks(I)I -/
abbrev rmX10_weeks : Room := { frames := 5, cells := 0, slots := 0, locals := 116 }
set_option maxRecDepth 100000 in
theorem hvX10_weeks : yX10_weeks.cls = RX10 ∧ yX10_weeks.cls ≠ "java/lang/invoke/MethodHandle" ∧ yX10_weeks.cls ≠ "java/lang/invoke/VarHandle" ∧ (parseMethodDescriptor yX10_weeks.desc).map (fun d => d.parameters.length) = some 1 := by decide +kernel
set_option maxRecDepth 100000 in
set_option maxHeartbeats 4000000 in
theorem ct_X10_weeks (l : Launch) (D : va_G) (cI cZ cO : ClassId) (a : Nat → Nat) {u : XS} {x1 : Int32} {r : Int32} {o : XS} (hf : f_X10_weeks u x1 = some (r, o)) : Ct l yX10_weeks (uw (Cond.code yX10_weeks cX10_weeks 3 (some .int))) rmX10_weeks D (tyL cI cZ cO) E0 [.ref (a 0), .int x1] (wX cI cZ cO a u) (some (.int r)) (wX cI cZ cO a o) := by
  refine sm_start (cc := cX10_weeks) (maxL := 3) (ret := (some .int)) (own := RX10) (by decide) rfl rfl (Nat.le_of_ble_eq_true rfl) (lv := [(0, .ref (a 0)), (1, .int x1)]) rfl ?_
  intro p e s m below meth c A F hE hA
  unfold f_X10_weeks at hf
  refine sm_aload_n F dX10_weeks_0 rfl 0 rfl ?_
  refine sm_iload_n F dX10_weeks_1 rfl 1 rfl ?_
  refine sm_iconst F dX10_weeks_2 kc_i_1 ?_
  refine sm_bipush F dX10_weeks_3 kc_b_60 ?_
  refine sm_sipush F dX10_weeks_5 kc_s_999 ?_
  refine sm_aload_n F dX10_weeks_8 rfl 0 rfl ?_
  refine sm_get (v := .ref (a 22)) F inX10 0 rfl rfl 0 (by decide) qw1_185 rfl rfl dX10_weeks_9 ?_
  refine sm_get (v := .int (gV_week (gM_now (gX_mind u)))) F inX8 22 rfl rfl 8 (by decide) qw1_102 rfl rfl dX10_weeks_12 ?_
  refine sm_isub F dX10_weeks_15 ?_
  refine sm_mmin F qw3_136 qw2_101 qw1_18 qw2_102 (Nat.le_of_ble_eq_true rfl) (Nat.le_of_ble_eq_true rfl) (Nat.zero_le _) (Nat.zero_le _) dX10_weeks_16 ?_
  obtain ⟨z19, hz19, hf⟩ := bd_some hf
  refine sm_callS (rest := [.ref (a 0)]) F (ct_X10_outside l D (tyL cI cZ cO) hz19) (cut_X_none cI cZ cO a u) rfl rfl rfl qw1_214 qw1_215 qw1_1 qw1_216 hsX10_outside ⟨Nat.le_of_ble_eq_true rfl, Nat.le_of_ble_eq_true rfl⟩ ⟨Nat.zero_le _, Nat.zero_le _⟩ rfl (Nat.le_of_ble_eq_true rfl) E0_b (fun _ _ _ _ _ _ => trivial) rfl dX10_weeks_19 [.int z19, .ref (a 0)] rfl ?_
  obtain ⟨z22, hz22, hf⟩ := bd_some hf
  refine sm_callV (rest := []) F (ct_X10_refused l D cI cZ cO a hz22) (cut_X_id cI cZ cO a u z22.2) rfl rfl rfl qw3_74 qw3_76 qw0_15 qw1_1 qw3_77 hvX10_refused ⟨Nat.le_of_ble_eq_true rfl, Nat.le_of_ble_eq_true rfl⟩ ⟨Nat.zero_le _, Nat.zero_le _⟩ 0 10 rfl rfl rfl rfl (Nat.le_of_ble_eq_true rfl) E0_b (fun _ _ _ _ _ _ => trivial) rfl dX10_weeks_22 [.int z22.1] rfl ?_
  refine sm_istore_n F [(0, .ref (a 0)), (1, .int x1), (2, .int z22.1)] [1, 2, 0] dX10_weeks_25 rfl (by decide) rfl ?_
  refine sm_iload_n F dX10_weeks_26 rfl 2 rfl ?_
  refine sm_if_eq (tgt := 32) F dX10_weeks_27 (by decide) (fun c27 => ?_) (fun c27 => ?_)
  · replace hf := if_t c27 hf
    refine sm_aload_n F dX10_weeks_32 rfl 0 rfl ?_
    refine sm_get (v := .ref (a 22)) F inX10 0 rfl rfl 0 (by decide) qw1_185 rfl rfl dX10_weeks_33 ?_
    refine sm_iload_n F dX10_weeks_36 rfl 1 rfl ?_
    obtain ⟨z37, hz37, hf⟩ := bd_some hf
    refine sm_callV (rest := []) F (ct_X8_passWeeks l D cI cZ cO (fun i => a (pm_X_v22 i)) hz37) (cut_X_v22 cI cZ cO a z22.2 z37) rfl rfl rfl qw3_137 qw3_138 qw3_139 qw1_8 qw3_140 hvX8_passWeeks ⟨Nat.le_of_ble_eq_true rfl, Nat.le_of_ble_eq_true rfl⟩ ⟨Nat.zero_le _, Nat.zero_le _⟩ 0 8 rfl rfl rfl rfl (Nat.le_of_ble_eq_true rfl) E0_b (fun _ _ _ _ _ _ => trivial) rfl dX10_weeks_37 [] rfl ?_
    refine sm_aload_n F dX10_weeks_40 rfl 0 rfl ?_
    refine sm_get (v := .ref (a 22)) F inX10 0 rfl rfl 0 (by decide) qw1_185 rfl rfl dX10_weeks_41 ?_
    obtain ⟨z44, hz44, hf⟩ := bd_some hf
    refine sm_callV (rest := []) F (ct_X8_countHere l D cI cZ cO (fun i => a (pm_X_v22 i)) hz44) (cut_X_v22_ro cI cZ cO a (sX_mind z22.2 (sM_now (gX_mind z22.2) z37))) rfl rfl rfl qw3_110 qw3_111 qw3_112 qw1_8 qw3_113 hvX8_countHere ⟨Nat.le_of_ble_eq_true rfl, Nat.le_of_ble_eq_true rfl⟩ ⟨Nat.zero_le _, Nat.zero_le _⟩ 0 8 rfl rfl rfl rfl (Nat.le_of_ble_eq_true rfl) E0_b (fun _ _ _ _ _ _ => trivial) rfl dX10_weeks_44 [.int z44] rfl ?_
    exact sm_iret F dX10_weeks_47 (Prod.mk.inj (Option.some.inj hf)).1 (congrArg (fun z => (wX cI cZ cO a z)) (Prod.mk.inj (Option.some.inj hf)).2)
  · replace hf := if_f c27 hf
    refine sm_iload_n F dX10_weeks_30 rfl 2 rfl ?_
    exact sm_iret F dX10_weeks_31 (Prod.mk.inj (Option.some.inj hf)).1 (congrArg (fun z => (wX cI cZ cO a z)) (Prod.mk.inj (Option.some.inj hf)).2)
/-! SoManyForgotten.memoryThen(III)I -/
abbrev rmX10_memoryThen : Room := { frames := 6, cells := 0, slots := 0, locals := 137 }
set_option maxRecDepth 100000 in
theorem hvX10_memoryThen : yX10_memoryThen.cls = RX10 ∧ yX10_memoryThen.cls ≠ "java/lang/invoke/MethodHandle" ∧ yX10_memoryThen.cls ≠ "java/lang/invoke/VarHandle" ∧ (parseMethodDescriptor yX10_memoryThen.desc).map (fun d => d.parameters.length) = some 3 := by decide +kernel
set_option maxRecDepth 100000 in
set_option maxHeartbeats 4000000 in
theorem ct_X10_memoryThen (l : Launch) (D : va_G) (cI cZ cO : ClassId) (a : Nat → Nat) {u : XS} {x1 : Int32} {x2 : Int32} {x3 : Int32} {r : Int32} {o : XS} (hf : f_X10_memoryThen u x1 x2 x3 = some (r, o)) : Ct l yX10_memoryThen (uw (Cond.code yX10_memoryThen cX10_memoryThen 5 (some .int))) rmX10_memoryThen D (tyL cI cZ cO) E0 [.ref (a 0), .int x1, .int x2, .int x3] (wX cI cZ cO a u) (some (.int r)) (wX cI cZ cO a o) := by
  refine sm_start (cc := cX10_memoryThen) (maxL := 5) (ret := (some .int)) (own := RX10) (by decide) rfl rfl (Nat.le_of_ble_eq_true rfl) (lv := [(0, .ref (a 0)), (1, .int x1), (2, .int x2), (3, .int x3)]) rfl ?_
  intro p e s m below meth c A F hE hA
  unfold f_X10_memoryThen at hf
  refine sm_aload_n F dX10_memoryThen_0 rfl 0 rfl ?_
  refine sm_aload_n F dX10_memoryThen_1 rfl 0 rfl ?_
  refine sm_iload_n F dX10_memoryThen_2 rfl 1 rfl ?_
  refine sm_iload_n F dX10_memoryThen_3 rfl 2 rfl ?_
  obtain ⟨z4, hz4, hf⟩ := bd_some hf
  refine sm_callV (rest := [.ref (a 0)]) F (ct_X10_notTwo l D cI cZ cO a hz4) (cut_X_id cI cZ cO a u u) rfl rfl rfl qw3_69 qw3_71 qw0_14 qw1_1 qw3_72 hvX10_notTwo ⟨Nat.le_of_ble_eq_true rfl, Nat.le_of_ble_eq_true rfl⟩ ⟨Nat.zero_le _, Nat.zero_le _⟩ 0 10 rfl rfl rfl rfl (Nat.le_of_ble_eq_true rfl) E0_b (fun _ _ _ _ _ _ => trivial) rfl dX10_memoryThen_4 [.int z4, .ref (a 0)] rfl ?_
  refine sm_iload_n F dX10_memoryThen_7 rfl 3 rfl ?_
  refine sm_iconst F dX10_memoryThen_8 kc_i_0 ?_
  refine sm_bipush F dX10_memoryThen_9 kc_b_99 ?_
  obtain ⟨z11, hz11, hf⟩ := bd_some hf
  refine sm_callS (rest := [.int z4, .ref (a 0)]) F (ct_X10_outside l D (tyL cI cZ cO) hz11) (cut_X_none cI cZ cO a u) rfl rfl rfl qw1_214 qw1_215 qw1_1 qw1_216 hsX10_outside ⟨Nat.le_of_ble_eq_true rfl, Nat.le_of_ble_eq_true rfl⟩ ⟨Nat.zero_le _, Nat.zero_le _⟩ rfl (Nat.le_of_ble_eq_true rfl) E0_b (fun _ _ _ _ _ _ => trivial) rfl dX10_memoryThen_11 [.int z11, .int z4, .ref (a 0)] rfl ?_
  obtain ⟨z14, hz14, hf⟩ := bd_some hf
  refine sm_callV (rest := []) F (ct_X10_refused_ l D cI cZ cO a hz14) (cut_X_id cI cZ cO a u z14.2) rfl rfl rfl qw1_221 qw1_223 qw0_0 qw1_1 qw1_224 hvX10_refused_ ⟨Nat.le_of_ble_eq_true rfl, Nat.le_of_ble_eq_true rfl⟩ ⟨Nat.zero_le _, Nat.zero_le _⟩ 0 10 rfl rfl rfl rfl (Nat.le_of_ble_eq_true rfl) E0_b (fun _ _ _ _ _ _ => trivial) rfl dX10_memoryThen_14 [.int z14.1] rfl ?_
  refine sm_istore F [(0, .ref (a 0)), (1, .int x1), (2, .int x2), (3, .int x3), (4, .int z14.1)] [1, 2, 3, 4, 0] dX10_memoryThen_17 (by decide) rfl ?_
  refine sm_iload F dX10_memoryThen_19 4 rfl ?_
  refine sm_if_eq (tgt := 29) F dX10_memoryThen_21 (by decide) (fun c21 => ?_) (fun c21 => ?_)
  · replace hf := if_t c21 hf
    refine sm_aload_n F dX10_memoryThen_29 rfl 0 rfl ?_
    refine sm_get (v := .ref (a 16)) F inX10 0 rfl rfl 3 (by decide) qw1_188 rfl rfl dX10_memoryThen_30 ?_
    refine sm_iload_n F dX10_memoryThen_33 rfl 3 rfl ?_
    obtain ⟨z34, hz34, hf⟩ := bd_some hf
    refine sm_callV (rest := []) F (ct_X3_after l D cI cZ cO (fun i => a (pm_X_m i)) hz34) (cut_X_m cI cZ cO a z14.2 z34) rfl rfl rfl qw3_146 qw3_147 qw3_148 qw1_9 qw3_149 hvX3_after ⟨Nat.le_of_ble_eq_true rfl, Nat.le_of_ble_eq_true rfl⟩ ⟨Nat.zero_le _, Nat.zero_le _⟩ 0 3 rfl rfl rfl rfl (Nat.le_of_ble_eq_true rfl) E0_b (fun _ _ _ _ _ _ => trivial) rfl dX10_memoryThen_34 [.ref (a 28)] rfl ?_
    refine sm_iload_n F dX10_memoryThen_37 rfl 1 rfl ?_
    refine sm_iload_n F dX10_memoryThen_38 rfl 2 rfl ?_
    obtain ⟨z39, hz39, hf⟩ := bd_some hf
    refine sm_callV (rest := []) F (ct_X8_memoryOf l D cI cZ cO (fun i => a (pm_X_v28 i)) hz39) (cut_X_v28_ro cI cZ cO a (sX_mind z14.2 z34)) rfl rfl rfl qw3_78 qw3_79 qw3_80 qw1_8 qw3_81 hvX8_memoryOf ⟨Nat.le_of_ble_eq_true rfl, Nat.le_of_ble_eq_true rfl⟩ ⟨Nat.zero_le _, Nat.zero_le _⟩ 0 8 rfl rfl rfl rfl (Nat.le_of_ble_eq_true rfl) E0_b (fun _ _ _ _ _ _ => trivial) rfl dX10_memoryThen_39 [.int z39] rfl ?_
    exact sm_iret F dX10_memoryThen_42 (Prod.mk.inj (Option.some.inj hf)).1 (congrArg (fun z => (wX cI cZ cO a z)) (Prod.mk.inj (Option.some.inj hf)).2)
  · replace hf := if_f c21 hf
    refine sm_iload F dX10_memoryThen_24 4 rfl ?_
    refine sm_goto (tgt := 42) F dX10_memoryThen_26 (by decide) ?_
    exact sm_iret F dX10_memoryThen_42 (Prod.mk.inj (Option.some.inj hf)).1 (congrArg (fun z => (wX cI cZ cO a z)) (Prod.mk.inj (Option.some.inj hf)).2)
/-! SoManyForgotten.knownThen(II)I -/
abbrev rmX10_knownThen : Room := { frames := 6, cells := 0, slots := 0, locals := 137 }
set_option maxRecDepth 100000 in
theorem hvX10_knownThen : yX10_knownThen.cls = RX10 ∧ yX10_knownThen.cls ≠ "java/lang/invoke/MethodHandle" ∧ yX10_knownThen.cls ≠ "java/lang/invoke/VarHandle" ∧ (parseMethodDescriptor yX10_knownThen.desc).map (fun d => d.parameters.length) = some 2 := by decide +kernel
set_option maxRecDepth 100000 in
set_option maxHeartbeats 4000000 in
theorem ct_X10_knownThen (l : Launch) (D : va_G) (cI cZ cO : ClassId) (a : Nat → Nat) {u : XS} {x1 : Int32} {x2 : Int32} {r : Int32} {o : XS} (hf : f_X10_knownThen u x1 x2 = some (r, o)) : Ct l yX10_knownThen (uw (Cond.code yX10_knownThen cX10_knownThen 4 (some .int))) rmX10_knownThen D (tyL cI cZ cO) E0 [.ref (a 0), .int x1, .int x2] (wX cI cZ cO a u) (some (.int r)) (wX cI cZ cO a o) := by
  refine sm_start (cc := cX10_knownThen) (maxL := 4) (ret := (some .int)) (own := RX10) (by decide) rfl rfl (Nat.le_of_ble_eq_true rfl) (lv := [(0, .ref (a 0)), (1, .int x1), (2, .int x2)]) rfl ?_
  intro p e s m below meth c A F hE hA
  unfold f_X10_knownThen at hf
  refine sm_aload_n F dX10_knownThen_0 rfl 0 rfl ?_
  refine sm_aload_n F dX10_knownThen_1 rfl 0 rfl ?_
  refine sm_iload_n F dX10_knownThen_2 rfl 1 rfl ?_
  obtain ⟨z3, hz3, hf⟩ := bd_some hf
  refine sm_callV (rest := [.ref (a 0)]) F (ct_X10_nobody l D cI cZ cO a hz3) (cut_X_id cI cZ cO a u u) rfl rfl rfl qw3_52 qw3_54 qw0_13 qw1_1 qw3_55 hvX10_nobody ⟨Nat.le_of_ble_eq_true rfl, Nat.le_of_ble_eq_true rfl⟩ ⟨Nat.zero_le _, Nat.zero_le _⟩ 0 10 rfl rfl rfl rfl (Nat.le_of_ble_eq_true rfl) E0_b (fun _ _ _ _ _ _ => trivial) rfl dX10_knownThen_3 [.int z3, .ref (a 0)] rfl ?_
  refine sm_iload_n F dX10_knownThen_6 rfl 2 rfl ?_
  refine sm_iconst F dX10_knownThen_7 kc_i_0 ?_
  refine sm_bipush F dX10_knownThen_8 kc_b_99 ?_
  obtain ⟨z10, hz10, hf⟩ := bd_some hf
  refine sm_callS (rest := [.int z3, .ref (a 0)]) F (ct_X10_outside l D (tyL cI cZ cO) hz10) (cut_X_none cI cZ cO a u) rfl rfl rfl qw1_214 qw1_215 qw1_1 qw1_216 hsX10_outside ⟨Nat.le_of_ble_eq_true rfl, Nat.le_of_ble_eq_true rfl⟩ ⟨Nat.zero_le _, Nat.zero_le _⟩ rfl (Nat.le_of_ble_eq_true rfl) E0_b (fun _ _ _ _ _ _ => trivial) rfl dX10_knownThen_10 [.int z10, .int z3, .ref (a 0)] rfl ?_
  obtain ⟨z13, hz13, hf⟩ := bd_some hf
  refine sm_callV (rest := []) F (ct_X10_refused_ l D cI cZ cO a hz13) (cut_X_id cI cZ cO a u z13.2) rfl rfl rfl qw1_221 qw1_223 qw0_0 qw1_1 qw1_224 hvX10_refused_ ⟨Nat.le_of_ble_eq_true rfl, Nat.le_of_ble_eq_true rfl⟩ ⟨Nat.zero_le _, Nat.zero_le _⟩ 0 10 rfl rfl rfl rfl (Nat.le_of_ble_eq_true rfl) E0_b (fun _ _ _ _ _ _ => trivial) rfl dX10_knownThen_13 [.int z13.1] rfl ?_
  refine sm_istore_n F [(0, .ref (a 0)), (1, .int x1), (2, .int x2), (3, .int z13.1)] [1, 2, 3, 0] dX10_knownThen_16 rfl (by decide) rfl ?_
  refine sm_iload_n F dX10_knownThen_17 rfl 3 rfl ?_
  refine sm_if_eq (tgt := 25) F dX10_knownThen_18 (by decide) (fun c18 => ?_) (fun c18 => ?_)
  · replace hf := if_t c18 hf
    refine sm_aload_n F dX10_knownThen_25 rfl 0 rfl ?_
    refine sm_get (v := .ref (a 16)) F inX10 0 rfl rfl 3 (by decide) qw1_188 rfl rfl dX10_knownThen_26 ?_
    refine sm_iload_n F dX10_knownThen_29 rfl 2 rfl ?_
    obtain ⟨z30, hz30, hf⟩ := bd_some hf
    refine sm_callV (rest := []) F (ct_X3_after l D cI cZ cO (fun i => a (pm_X_m i)) hz30) (cut_X_m cI cZ cO a z13.2 z30) rfl rfl rfl qw3_146 qw3_147 qw3_148 qw1_9 qw3_149 hvX3_after ⟨Nat.le_of_ble_eq_true rfl, Nat.le_of_ble_eq_true rfl⟩ ⟨Nat.zero_le _, Nat.zero_le _⟩ 0 3 rfl rfl rfl rfl (Nat.le_of_ble_eq_true rfl) E0_b (fun _ _ _ _ _ _ => trivial) rfl dX10_knownThen_30 [.ref (a 28)] rfl ?_
    refine sm_iload_n F dX10_knownThen_33 rfl 1 rfl ?_
    obtain ⟨z34, hz34, hf⟩ := bd_some hf
    refine sm_callV (rest := []) F (ct_X8_knownOf l D cI cZ cO (fun i => a (pm_X_v28 i)) hz34) (cut_X_v28_ro cI cZ cO a (sX_mind z13.2 z30)) rfl rfl rfl qw3_60 qw3_36 qw3_37 qw1_8 qw3_38 hvX8_knownOf ⟨Nat.le_of_ble_eq_true rfl, Nat.le_of_ble_eq_true rfl⟩ ⟨Nat.zero_le _, Nat.zero_le _⟩ 0 8 rfl rfl rfl rfl (Nat.le_of_ble_eq_true rfl) E0_b (fun _ _ _ _ _ _ => trivial) rfl dX10_knownThen_34 [.int z34] rfl ?_
    exact sm_iret F dX10_knownThen_37 (Prod.mk.inj (Option.some.inj hf)).1 (congrArg (fun z => (wX cI cZ cO a z)) (Prod.mk.inj (Option.some.inj hf)).2)
  · replace hf := if_f c18 hf
    refine sm_iload_n F dX10_knownThen_21 rfl 3 rfl ?_
    refine sm_goto (tgt := 37) F dX10_knownThen_22 (by decide) ?_
    exact sm_iret F dX10_knownThen_37 (Prod.mk.inj (Option.some.inj hf)).1 (congrArg (fun z => (wX cI cZ cO a z)) (Prod.mk.inj (Option.some.inj hf)).2)
/-! SoManyForgotten.gone(I)I -/
abbrev rmX10_gone : Room := { frames := 6, cells := 0, slots := 0, locals := 137 }
set_option maxRecDepth 100000 in
theorem hvX10_gone : yX10_gone.cls = RX10 ∧ yX10_gone.cls ≠ "java/lang/invoke/MethodHandle" ∧ yX10_gone.cls ≠ "java/lang/invoke/VarHandle" ∧ (parseMethodDescriptor yX10_gone.desc).map (fun d => d.parameters.length) = some 1 := by decide +kernel
set_option maxRecDepth 100000 in
set_option maxHeartbeats 4000000 in
theorem ct_X10_gone (l : Launch) (D : va_G) (cI cZ cO : ClassId) (a : Nat → Nat) {u : XS} {x1 : Int32} {r : Int32} {o : XS} (hf : f_X10_gone u x1 = some (r, o)) : Ct l yX10_gone (uw (Cond.code yX10_gone cX10_gone 3 (some .int))) rmX10_gone D (tyL cI cZ cO) E0 [.ref (a 0), .int x1] (wX cI cZ cO a u) (some (.int r)) (wX cI cZ cO a o) := by
  refine sm_start (cc := cX10_gone) (maxL := 3) (ret := (some .int)) (own := RX10) (by decide) rfl rfl (Nat.le_of_ble_eq_true rfl) (lv := [(0, .ref (a 0)), (1, .int x1)]) rfl ?_
  intro p e s m below meth c A F hE hA
  unfold f_X10_gone at hf
  refine sm_aload_n F dX10_gone_0 rfl 0 rfl ?_
  refine sm_iload_n F dX10_gone_1 rfl 1 rfl ?_
  refine sm_iconst F dX10_gone_2 kc_i_0 ?_
  refine sm_bipush F dX10_gone_3 kc_b_99 ?_
  obtain ⟨z5, hz5, hf⟩ := bd_some hf
  refine sm_callS (rest := [.ref (a 0)]) F (ct_X10_outside l D (tyL cI cZ cO) hz5) (cut_X_none cI cZ cO a u) rfl rfl rfl qw1_214 qw1_215 qw1_1 qw1_216 hsX10_outside ⟨Nat.le_of_ble_eq_true rfl, Nat.le_of_ble_eq_true rfl⟩ ⟨Nat.zero_le _, Nat.zero_le _⟩ rfl (Nat.le_of_ble_eq_true rfl) E0_b (fun _ _ _ _ _ _ => trivial) rfl dX10_gone_5 [.int z5, .ref (a 0)] rfl ?_
  obtain ⟨z8, hz8, hf⟩ := bd_some hf
  refine sm_callV (rest := []) F (ct_X10_refused l D cI cZ cO a hz8) (cut_X_id cI cZ cO a u z8.2) rfl rfl rfl qw3_74 qw3_76 qw0_15 qw1_1 qw3_77 hvX10_refused ⟨Nat.le_of_ble_eq_true rfl, Nat.le_of_ble_eq_true rfl⟩ ⟨Nat.zero_le _, Nat.zero_le _⟩ 0 10 rfl rfl rfl rfl (Nat.le_of_ble_eq_true rfl) E0_b (fun _ _ _ _ _ _ => trivial) rfl dX10_gone_8 [.int z8.1] rfl ?_
  refine sm_istore_n F [(0, .ref (a 0)), (1, .int x1), (2, .int z8.1)] [1, 2, 0] dX10_gone_11 rfl (by decide) rfl ?_
  refine sm_iload_n F dX10_gone_12 rfl 2 rfl ?_
  refine sm_if_eq (tgt := 20) F dX10_gone_13 (by decide) (fun c13 => ?_) (fun c13 => ?_)
  · replace hf := if_t c13 hf
    refine sm_aload_n F dX10_gone_20 rfl 0 rfl ?_
    refine sm_get (v := .ref (a 16)) F inX10 0 rfl rfl 3 (by decide) qw1_188 rfl rfl dX10_gone_21 ?_
    refine sm_iload_n F dX10_gone_24 rfl 1 rfl ?_
    obtain ⟨z25, hz25, hf⟩ := bd_some hf
    refine sm_callV (rest := []) F (ct_X3_after l D cI cZ cO (fun i => a (pm_X_m i)) hz25) (cut_X_m cI cZ cO a z8.2 z25) rfl rfl rfl qw3_146 qw3_147 qw3_148 qw1_9 qw3_149 hvX3_after ⟨Nat.le_of_ble_eq_true rfl, Nat.le_of_ble_eq_true rfl⟩ ⟨Nat.zero_le _, Nat.zero_le _⟩ 0 3 rfl rfl rfl rfl (Nat.le_of_ble_eq_true rfl) E0_b (fun _ _ _ _ _ _ => trivial) rfl dX10_gone_25 [.ref (a 28)] rfl ?_
    obtain ⟨z28, hz28, hf⟩ := bd_some hf
    refine sm_callV (rest := []) F (ct_X8_forgottenBits l D cI cZ cO (fun i => a (pm_X_v28 i)) hz28) (cut_X_v28_ro cI cZ cO a (sX_mind z8.2 z25)) rfl rfl rfl qw3_164 qw3_165 qw3_166 qw1_8 qw3_167 hvX8_forgottenBits ⟨Nat.le_of_ble_eq_true rfl, Nat.le_of_ble_eq_true rfl⟩ ⟨Nat.zero_le _, Nat.zero_le _⟩ 0 8 rfl rfl rfl rfl (Nat.le_of_ble_eq_true rfl) E0_b (fun _ _ _ _ _ _ => trivial) rfl dX10_gone_28 [.int z28] rfl ?_
    exact sm_iret F dX10_gone_31 (Prod.mk.inj (Option.some.inj hf)).1 (congrArg (fun z => (wX cI cZ cO a z)) (Prod.mk.inj (Option.some.inj hf)).2)
  · replace hf := if_f c13 hf
    refine sm_iload_n F dX10_gone_16 rfl 2 rfl ?_
    refine sm_goto (tgt := 31) F dX10_gone_17 (by decide) ?_
    exact sm_iret F dX10_gone_31 (Prod.mk.inj (Option.some.inj hf)).1 (congrArg (fun z => (wX cI cZ cO a z)) (Prod.mk.inj (Option.some.inj hf)).2)
/-! SoManyForgotten.goes(I)I -/
abbrev rmX10_goes : Room := { frames := 6, cells := 0, slots := 0, locals := 137 }
set_option maxRecDepth 100000 in
theorem hvX10_goes : yX10_goes.cls = RX10 ∧ yX10_goes.cls ≠ "java/lang/invoke/MethodHandle" ∧ yX10_goes.cls ≠ "java/lang/invoke/VarHandle" ∧ (parseMethodDescriptor yX10_goes.desc).map (fun d => d.parameters.length) = some 1 := by decide +kernel
set_option maxRecDepth 100000 in
set_option maxHeartbeats 4000000 in
theorem ct_X10_goes (l : Launch) (D : va_G) (cI cZ cO : ClassId) (a : Nat → Nat) {u : XS} {x1 : Int32} {r : Int32} {o : XS} (hf : f_X10_goes u x1 = some (r, o)) : Ct l yX10_goes (uw (Cond.code yX10_goes cX10_goes 3 (some .int))) rmX10_goes D (tyL cI cZ cO) E0 [.ref (a 0), .int x1] (wX cI cZ cO a u) (some (.int r)) (wX cI cZ cO a o) := by
  refine sm_start (cc := cX10_goes) (maxL := 3) (ret := (some .int)) (own := RX10) (by decide) rfl rfl (Nat.le_of_ble_eq_true rfl) (lv := [(0, .ref (a 0)), (1, .int x1)]) rfl ?_
  intro p e s m below meth c A F hE hA
  unfold f_X10_goes at hf
  refine sm_aload_n F dX10_goes_0 rfl 0 rfl ?_
  refine sm_aload_n F dX10_goes_1 rfl 0 rfl ?_
  refine sm_iload_n F dX10_goes_2 rfl 1 rfl ?_
  obtain ⟨z3, hz3, hf⟩ := bd_some hf
  refine sm_callV (rest := [.ref (a 0)]) F (ct_X10_nobody l D cI cZ cO a hz3) (cut_X_id cI cZ cO a u u) rfl rfl rfl qw3_52 qw3_54 qw0_13 qw1_1 qw3_55 hvX10_nobody ⟨Nat.le_of_ble_eq_true rfl, Nat.le_of_ble_eq_true rfl⟩ ⟨Nat.zero_le _, Nat.zero_le _⟩ 0 10 rfl rfl rfl rfl (Nat.le_of_ble_eq_true rfl) E0_b (fun _ _ _ _ _ _ => trivial) rfl dX10_goes_3 [.int z3, .ref (a 0)] rfl ?_
  obtain ⟨z6, hz6, hf⟩ := bd_some hf
  refine sm_callV (rest := []) F (ct_X10_refused l D cI cZ cO a hz6) (cut_X_id cI cZ cO a u z6.2) rfl rfl rfl qw3_74 qw3_76 qw0_15 qw1_1 qw3_77 hvX10_refused ⟨Nat.le_of_ble_eq_true rfl, Nat.le_of_ble_eq_true rfl⟩ ⟨Nat.zero_le _, Nat.zero_le _⟩ 0 10 rfl rfl rfl rfl (Nat.le_of_ble_eq_true rfl) E0_b (fun _ _ _ _ _ _ => trivial) rfl dX10_goes_6 [.int z6.1] rfl ?_
  refine sm_istore_n F [(0, .ref (a 0)), (1, .int x1), (2, .int z6.1)] [1, 2, 0] dX10_goes_9 rfl (by decide) rfl ?_
  refine sm_iload_n F dX10_goes_10 rfl 2 rfl ?_
  refine sm_if_eq (tgt := 18) F dX10_goes_11 (by decide) (fun c11 => ?_) (fun c11 => ?_)
  · replace hf := if_t c11 hf
    refine sm_aload_n F dX10_goes_18 rfl 0 rfl ?_
    refine sm_get (v := .ref (a 16)) F inX10 0 rfl rfl 3 (by decide) qw1_188 rfl rfl dX10_goes_19 ?_
    refine sm_iload_n F dX10_goes_22 rfl 1 rfl ?_
    obtain ⟨z23, hz23, hf⟩ := bd_some hf
    refine sm_callV (rest := []) F (ct_X3_untilForgotten l D cI cZ cO (fun i => a (pm_X_m i)) hz23) (cut_X_m cI cZ cO a z6.2 z23.2) rfl rfl rfl qw3_172 qw3_173 qw3_174 qw1_9 qw3_175 hvX3_untilForgotten ⟨Nat.le_of_ble_eq_true rfl, Nat.le_of_ble_eq_true rfl⟩ ⟨Nat.zero_le _, Nat.zero_le _⟩ 0 3 rfl rfl rfl rfl (Nat.le_of_ble_eq_true rfl) E0_b (fun _ _ _ _ _ _ => trivial) rfl dX10_goes_23 [.int z23.1] rfl ?_
    obtain ⟨z26, hz26, hf⟩ := bd_some hf
    refine sm_callS (rest := []) F (ct_X10_noneIfNever l D (tyL cI cZ cO) hz26) (cut_X_none cI cZ cO a (sX_mind z6.2 z23.2)) rfl rfl rfl qw3_180 qw3_181 qw1_1 qw3_182 hsX10_noneIfNever ⟨Nat.le_of_ble_eq_true rfl, Nat.le_of_ble_eq_true rfl⟩ ⟨Nat.zero_le _, Nat.zero_le _⟩ rfl (Nat.le_of_ble_eq_true rfl) E0_b (fun _ _ _ _ _ _ => trivial) rfl dX10_goes_26 [.int z26] rfl ?_
    exact sm_iret F dX10_goes_29 (Prod.mk.inj (Option.some.inj hf)).1 (congrArg (fun z => (wX cI cZ cO a z)) (Prod.mk.inj (Option.some.inj hf)).2)
  · replace hf := if_f c11 hf
    refine sm_iload_n F dX10_goes_14 rfl 2 rfl ?_
    refine sm_goto (tgt := 29) F dX10_goes_15 (by decide) ?_
    exact sm_iret F dX10_goes_29 (Prod.mk.inj (Option.some.inj hf)).1 (congrArg (fun z => (wX cI cZ cO a z)) (Prod.mk.inj (Option.some.inj hf)).2)
/-! SoManyForgotten.next(I)I -/
abbrev rmX10_next : Room := { frames := 6, cells := 0, slots := 0, locals := 137 }
set_option maxRecDepth 100000 in
theorem hvX10_next : yX10_next.cls = RX10 ∧ yX10_next.cls ≠ "java/lang/invoke/MethodHandle" ∧ yX10_next.cls ≠ "java/lang/invoke/VarHandle" ∧ (parseMethodDescriptor yX10_next.desc).map (fun d => d.parameters.length) = some 1 := by decide +kernel
set_option maxRecDepth 100000 in
set_option maxHeartbeats 4000000 in
theorem ct_X10_next (l : Launch) (D : va_G) (cI cZ cO : ClassId) (a : Nat → Nat) {u : XS} {x1 : Int32} {r : Int32} {o : XS} (hf : f_X10_next u x1 = some (r, o)) : Ct l yX10_next (uw (Cond.code yX10_next cX10_next 3 (some .int))) rmX10_next D (tyL cI cZ cO) E0 [.ref (a 0), .int x1] (wX cI cZ cO a u) (some (.int r)) (wX cI cZ cO a o) := by
  refine sm_start (cc := cX10_next) (maxL := 3) (ret := (some .int)) (own := RX10) (by decide) rfl rfl (Nat.le_of_ble_eq_true rfl) (lv := [(0, .ref (a 0)), (1, .int x1)]) rfl ?_
  intro p e s m below meth c A F hE hA
  unfold f_X10_next at hf
  refine sm_aload_n F dX10_next_0 rfl 0 rfl ?_
  refine sm_iload_n F dX10_next_1 rfl 1 rfl ?_
  refine sm_iconst F dX10_next_2 kc_i_3 ?_
  obtain ⟨z3, hz3, hf⟩ := bd_some hf
  refine sm_callS (rest := [.ref (a 0)]) F (ct_X10_wrongWhat l D (tyL cI cZ cO) hz3) (cut_X_none cI cZ cO a u) rfl rfl rfl qw3_57 qw3_58 qw1_1 qw3_59 hsX10_wrongWhat ⟨Nat.le_of_ble_eq_true rfl, Nat.le_of_ble_eq_true rfl⟩ ⟨Nat.zero_le _, Nat.zero_le _⟩ rfl (Nat.le_of_ble_eq_true rfl) E0_b (fun _ _ _ _ _ _ => trivial) rfl dX10_next_3 [.int z3, .ref (a 0)] rfl ?_
  obtain ⟨z6, hz6, hf⟩ := bd_some hf
  refine sm_callV (rest := []) F (ct_X10_refused l D cI cZ cO a hz6) (cut_X_id cI cZ cO a u z6.2) rfl rfl rfl qw3_74 qw3_76 qw0_15 qw1_1 qw3_77 hvX10_refused ⟨Nat.le_of_ble_eq_true rfl, Nat.le_of_ble_eq_true rfl⟩ ⟨Nat.zero_le _, Nat.zero_le _⟩ 0 10 rfl rfl rfl rfl (Nat.le_of_ble_eq_true rfl) E0_b (fun _ _ _ _ _ _ => trivial) rfl dX10_next_6 [.int z6.1] rfl ?_
  refine sm_istore_n F [(0, .ref (a 0)), (1, .int x1), (2, .int z6.1)] [1, 2, 0] dX10_next_9 rfl (by decide) rfl ?_
  refine sm_iload_n F dX10_next_10 rfl 2 rfl ?_
  refine sm_if_eq (tgt := 16) F dX10_next_11 (by decide) (fun c11 => ?_) (fun c11 => ?_)
  · replace hf := if_t c11 hf
    refine sm_iload_n F dX10_next_16 rfl 1 rfl ?_
    by_cases w17_0 : x1 = 0
    · replace hf := if_t w17_0 hf
      refine sm_tableIn (off := 27) (tgt := 44) F dX10_next_17 (by rw [w17_0]; decide) (by rw [w17_0]; decide) (by rw [w17_0]; rfl) (by decide) ?_
      refine sm_aload_n F dX10_next_44 rfl 0 rfl ?_
      refine sm_get (v := .ref (a 16)) F inX10 0 rfl rfl 3 (by decide) qw1_188 rfl rfl dX10_next_45 ?_
      obtain ⟨z48, hz48, hf⟩ := bd_some hf
      refine sm_callV (rest := []) F (ct_X3_firstForgotten l D cI cZ cO (fun i => a (pm_X_m i)) hz48) (cut_X_m cI cZ cO a z6.2 z48.2) rfl rfl rfl qw3_187 qw3_188 qw3_189 qw1_9 qw3_190 hvX3_firstForgotten ⟨Nat.le_of_ble_eq_true rfl, Nat.le_of_ble_eq_true rfl⟩ ⟨Nat.zero_le _, Nat.zero_le _⟩ 0 3 rfl rfl rfl rfl (Nat.le_of_ble_eq_true rfl) E0_b (fun _ _ _ _ _ _ => trivial) rfl dX10_next_48 [.int z48.1] rfl ?_
      exact sm_iret F dX10_next_51 (Prod.mk.inj (Option.some.inj hf)).1 (congrArg (fun z => (wX cI cZ cO a z)) (Prod.mk.inj (Option.some.inj hf)).2)
    replace hf := if_f w17_0 hf
    by_cases w17_1 : x1 = 1
    · replace hf := if_t w17_1 hf
      refine sm_tableIn (off := 35) (tgt := 52) F dX10_next_17 (by rw [w17_1]; decide) (by rw [w17_1]; decide) (by rw [w17_1]; rfl) (by decide) ?_
      refine sm_aload_n F dX10_next_52 rfl 0 rfl ?_
      refine sm_get (v := .ref (a 16)) F inX10 0 rfl rfl 3 (by decide) qw1_188 rfl rfl dX10_next_53 ?_
      obtain ⟨z56, hz56, hf⟩ := bd_some hf
      refine sm_callV (rest := []) F (ct_X3_untilFirstForgotten l D cI cZ cO (fun i => a (pm_X_m i)) hz56) (cut_X_m cI cZ cO a z6.2 z56.2) rfl rfl rfl qw3_197 qw3_192 qw3_193 qw1_9 qw3_194 hvX3_untilFirstForgotten ⟨Nat.le_of_ble_eq_true rfl, Nat.le_of_ble_eq_true rfl⟩ ⟨Nat.zero_le _, Nat.zero_le _⟩ 0 3 rfl rfl rfl rfl (Nat.le_of_ble_eq_true rfl) E0_b (fun _ _ _ _ _ _ => trivial) rfl dX10_next_56 [.int z56.1] rfl ?_
      obtain ⟨z59, hz59, hf⟩ := bd_some hf
      refine sm_callS (rest := []) F (ct_X10_noneIfNever l D (tyL cI cZ cO) hz59) (cut_X_none cI cZ cO a (sX_mind z6.2 z56.2)) rfl rfl rfl qw3_180 qw3_181 qw1_1 qw3_182 hsX10_noneIfNever ⟨Nat.le_of_ble_eq_true rfl, Nat.le_of_ble_eq_true rfl⟩ ⟨Nat.zero_le _, Nat.zero_le _⟩ rfl (Nat.le_of_ble_eq_true rfl) E0_b (fun _ _ _ _ _ _ => trivial) rfl dX10_next_59 [.int z59] rfl ?_
      exact sm_iret F dX10_next_62 (Prod.mk.inj (Option.some.inj hf)).1 (congrArg (fun z => (wX cI cZ cO a z)) (Prod.mk.inj (Option.some.inj hf)).2)
    replace hf := if_f w17_1 hf
    by_cases w17_2 : x1 = 2
    · replace hf := if_t w17_2 hf
      refine sm_tableIn (off := 46) (tgt := 63) F dX10_next_17 (by rw [w17_2]; decide) (by rw [w17_2]; decide) (by rw [w17_2]; rfl) (by decide) ?_
      refine sm_aload_n F dX10_next_63 rfl 0 rfl ?_
      refine sm_get (v := .ref (a 16)) F inX10 0 rfl rfl 3 (by decide) qw1_188 rfl rfl dX10_next_64 ?_
      obtain ⟨z67, hz67, hf⟩ := bd_some hf
      refine sm_callV (rest := []) F (ct_X3_untilEmpty l D cI cZ cO (fun i => a (pm_X_m i)) hz67) (cut_X_m cI cZ cO a z6.2 z67.2) rfl rfl rfl qw3_198 qw3_199 qw3_200 qw1_9 qw3_201 hvX3_untilEmpty ⟨Nat.le_of_ble_eq_true rfl, Nat.le_of_ble_eq_true rfl⟩ ⟨Nat.zero_le _, Nat.zero_le _⟩ 0 3 rfl rfl rfl rfl (Nat.le_of_ble_eq_true rfl) E0_b (fun _ _ _ _ _ _ => trivial) rfl dX10_next_67 [.int z67.1] rfl ?_
      obtain ⟨z70, hz70, hf⟩ := bd_some hf
      refine sm_callS (rest := []) F (ct_X10_noneIfNever l D (tyL cI cZ cO) hz70) (cut_X_none cI cZ cO a (sX_mind z6.2 z67.2)) rfl rfl rfl qw3_180 qw3_181 qw1_1 qw3_182 hsX10_noneIfNever ⟨Nat.le_of_ble_eq_true rfl, Nat.le_of_ble_eq_true rfl⟩ ⟨Nat.zero_le _, Nat.zero_le _⟩ rfl (Nat.le_of_ble_eq_true rfl) E0_b (fun _ _ _ _ _ _ => trivial) rfl dX10_next_70 [.int z70] rfl ?_
      exact sm_iret F dX10_next_73 (Prod.mk.inj (Option.some.inj hf)).1 (congrArg (fun z => (wX cI cZ cO a z)) (Prod.mk.inj (Option.some.inj hf)).2)
    replace hf := if_f w17_2 hf
    have e17_0 := lv_neT w17_0 (a := 0) rfl
    have e17_1 := lv_neT w17_1 (a := 1) rfl
    have e17_2 := lv_neT w17_2 (a := 2) rfl
    have T17 : ∀ i : Nat, i < 3 → (#[27, 35, 46] : Array Int)[i]? = some 57 ∨ i ∈ ([0, 1, 2] : List Nat) := by decide
    refine sm_tableX (tgt := 74) F dX10_next_17 (by decide) (fun i hi hx => (T17 i hi).elim id (fun q => by simp only [List.mem_cons, List.not_mem_nil, or_false] at q; exfalso; omega)) (by decide) ?_
    refine sm_bipush F dX10_next_74 kc_b_10 ?_
    refine sm_aload_n F dX10_next_76 rfl 0 rfl ?_
    refine sm_get (v := .ref (a 22)) F inX10 0 rfl rfl 0 (by decide) qw1_185 rfl rfl dX10_next_77 ?_
    refine sm_get (v := .int (gV_week (gM_now (gX_mind z6.2)))) F inX8 22 rfl rfl 8 (by decide) qw1_102 rfl rfl dX10_next_80 ?_
    refine sm_bipush F dX10_next_83 kc_b_10 ?_
    refine sm_irem F dX10_next_85 (by decide) ?_
    refine sm_isub F dX10_next_86 ?_
    exact sm_iret F dX10_next_87 (Prod.mk.inj (Option.some.inj hf)).1 (congrArg (fun z => (wX cI cZ cO a z)) (Prod.mk.inj (Option.some.inj hf)).2)
  · replace hf := if_f c11 hf
    refine sm_iload_n F dX10_next_14 rfl 2 rfl ?_
    exact sm_iret F dX10_next_15 (Prod.mk.inj (Option.some.inj hf)).1 (congrArg (fun z => (wX cI cZ cO a z)) (Prod.mk.inj (Option.some.inj hf)).2)
/-! SoManyForgotten.least(I)I -/
abbrev rmX10_least : Room := { frames := 2, cells := 0, slots := 0, locals := 47 }
set_option maxRecDepth 100000 in
theorem hvX10_least : yX10_least.cls = RX10 ∧ yX10_least.cls ≠ "java/lang/invoke/MethodHandle" ∧ yX10_least.cls ≠ "java/lang/invoke/VarHandle" ∧ (parseMethodDescriptor yX10_least.desc).map (fun d => d.parameters.length) = some 1 := by decide +kernel
set_option maxRecDepth 100000 in
set_option maxHeartbeats 4000000 in
theorem ct_X10_least (l : Launch) (D : va_G) (cI cZ cO : ClassId) (a : Nat → Nat) {u : XS} {x1 : Int32} {r : Int32} {o : XS} (hf : f_X10_least u x1 = some (r, o)) : Ct l yX10_least (uw (Cond.code yX10_least cX10_least 3 (some .int))) rmX10_least D (tyL cI cZ cO) E0 [.ref (a 0), .int x1] (wX cI cZ cO a u) (some (.int r)) (wX cI cZ cO a o) := by
  refine sm_start (cc := cX10_least) (maxL := 3) (ret := (some .int)) (own := RX10) (by decide) rfl rfl (Nat.le_of_ble_eq_true rfl) (lv := [(0, .ref (a 0)), (1, .int x1)]) rfl ?_
  intro p e s m below meth c A F hE hA
  unfold f_X10_least at hf
  refine sm_aload_n F dX10_least_0 rfl 0 rfl ?_
  refine sm_iload_n F dX10_least_1 rfl 1 rfl ?_
  refine sm_iconst F dX10_least_2 kc_i_1 ?_
  obtain ⟨z3, hz3, hf⟩ := bd_some hf
  refine sm_callS (rest := [.ref (a 0)]) F (ct_X10_wrongWhat l D (tyL cI cZ cO) hz3) (cut_X_none cI cZ cO a u) rfl rfl rfl qw3_57 qw3_58 qw1_1 qw3_59 hsX10_wrongWhat ⟨Nat.le_of_ble_eq_true rfl, Nat.le_of_ble_eq_true rfl⟩ ⟨Nat.zero_le _, Nat.zero_le _⟩ rfl (Nat.le_of_ble_eq_true rfl) E0_b (fun _ _ _ _ _ _ => trivial) rfl dX10_least_3 [.int z3, .ref (a 0)] rfl ?_
  obtain ⟨z6, hz6, hf⟩ := bd_some hf
  refine sm_callV (rest := []) F (ct_X10_refused l D cI cZ cO a hz6) (cut_X_id cI cZ cO a u z6.2) rfl rfl rfl qw3_74 qw3_76 qw0_15 qw1_1 qw3_77 hvX10_refused ⟨Nat.le_of_ble_eq_true rfl, Nat.le_of_ble_eq_true rfl⟩ ⟨Nat.zero_le _, Nat.zero_le _⟩ 0 10 rfl rfl rfl rfl (Nat.le_of_ble_eq_true rfl) E0_b (fun _ _ _ _ _ _ => trivial) rfl dX10_least_6 [.int z6.1] rfl ?_
  refine sm_istore_n F [(0, .ref (a 0)), (1, .int x1), (2, .int z6.1)] [1, 2, 0] dX10_least_9 rfl (by decide) rfl ?_
  refine sm_iload_n F dX10_least_10 rfl 2 rfl ?_
  refine sm_if_eq (tgt := 16) F dX10_least_11 (by decide) (fun c11 => ?_) (fun c11 => ?_)
  · replace hf := if_t c11 hf
    refine sm_iload_n F dX10_least_16 rfl 1 rfl ?_
    refine sm_if_ne (tgt := 30) F dX10_least_17 (by decide) (fun c17 => ?_) (fun c17 => ?_)
    · replace hf := if_f c17 hf
      refine sm_aload_n F dX10_least_30 rfl 0 rfl ?_
      refine sm_get (v := .ref (a 22)) F inX10 0 rfl rfl 0 (by decide) qw1_185 rfl rfl dX10_least_31 ?_
      obtain ⟨z34, hz34, hf⟩ := bd_some hf
      refine sm_callV (rest := []) F (ct_X8_bestKnown l D cI cZ cO (fun i => a (pm_X_v22 i)) hz34) (cut_X_v22_ro cI cZ cO a z6.2) rfl rfl rfl qw3_207 qw3_208 qw3_209 qw1_8 qw3_210 hvX8_bestKnown ⟨Nat.le_of_ble_eq_true rfl, Nat.le_of_ble_eq_true rfl⟩ ⟨Nat.zero_le _, Nat.zero_le _⟩ 0 8 rfl rfl rfl rfl (Nat.le_of_ble_eq_true rfl) E0_b (fun _ _ _ _ _ _ => trivial) rfl dX10_least_34 [.int z34] rfl ?_
      exact sm_iret F dX10_least_37 (Prod.mk.inj (Option.some.inj hf)).1 (congrArg (fun z => (wX cI cZ cO a z)) (Prod.mk.inj (Option.some.inj hf)).2)
    · replace hf := if_t c17 hf
      refine sm_aload_n F dX10_least_20 rfl 0 rfl ?_
      refine sm_get (v := .ref (a 22)) F inX10 0 rfl rfl 0 (by decide) qw1_185 rfl rfl dX10_least_21 ?_
      obtain ⟨z24, hz24, hf⟩ := bd_some hf
      refine sm_callV (rest := []) F (ct_X8_leastKnown l D cI cZ cO (fun i => a (pm_X_v22 i)) hz24) (cut_X_v22_ro cI cZ cO a z6.2) rfl rfl rfl qw3_206 qw3_18 qw3_19 qw1_8 qw3_20 hvX8_leastKnown ⟨Nat.le_of_ble_eq_true rfl, Nat.le_of_ble_eq_true rfl⟩ ⟨Nat.zero_le _, Nat.zero_le _⟩ 0 8 rfl rfl rfl rfl (Nat.le_of_ble_eq_true rfl) E0_b (fun _ _ _ _ _ _ => trivial) rfl dX10_least_24 [.int z24] rfl ?_
      refine sm_goto (tgt := 37) F dX10_least_27 (by decide) ?_
      exact sm_iret F dX10_least_37 (Prod.mk.inj (Option.some.inj hf)).1 (congrArg (fun z => (wX cI cZ cO a z)) (Prod.mk.inj (Option.some.inj hf)).2)
  · replace hf := if_f c11 hf
    refine sm_iload_n F dX10_least_14 rfl 2 rfl ?_
    exact sm_iret F dX10_least_15 (Prod.mk.inj (Option.some.inj hf)).1 (congrArg (fun z => (wX cI cZ cO a z)) (Prod.mk.inj (Option.some.inj hf)).2)
/-! SoManyForgotten.speak(I)I -/
abbrev rmX10_speak : Room := { frames := 7, cells := 0, slots := 0, locals := 162 }
set_option maxRecDepth 100000 in
theorem hvX10_speak : yX10_speak.cls = RX10 ∧ yX10_speak.cls ≠ "java/lang/invoke/MethodHandle" ∧ yX10_speak.cls ≠ "java/lang/invoke/VarHandle" ∧ (parseMethodDescriptor yX10_speak.desc).map (fun d => d.parameters.length) = some 1 := by decide +kernel
set_option maxRecDepth 100000 in
set_option maxHeartbeats 4000000 in
theorem ct_X10_speak (l : Launch) (D : va_G) (cI cZ cO : ClassId) (a : Nat → Nat) {u : XS} {x1 : Int32} {r : Int32} {o : XS} (hf : f_X10_speak u x1 = some (r, o)) : Ct l yX10_speak (uw (Cond.code yX10_speak cX10_speak 3 (some .int))) rmX10_speak D (tyL cI cZ cO) E0 [.ref (a 0), .int x1] (wX cI cZ cO a u) (some (.int r)) (wX cI cZ cO a o) := by
  refine sm_start (cc := cX10_speak) (maxL := 3) (ret := (some .int)) (own := RX10) (by decide) rfl rfl (Nat.le_of_ble_eq_true rfl) (lv := [(0, .ref (a 0)), (1, .int x1)]) rfl ?_
  intro p e s m below meth c A F hE hA
  unfold f_X10_speak at hf
  refine sm_aload_n F dX10_speak_0 rfl 0 rfl ?_
  refine sm_aload_n F dX10_speak_1 rfl 0 rfl ?_
  refine sm_iload_n F dX10_speak_2 rfl 1 rfl ?_
  obtain ⟨z3, hz3, hf⟩ := bd_some hf
  refine sm_callV (rest := [.ref (a 0)]) F (ct_X10_nobody l D cI cZ cO a hz3) (cut_X_id cI cZ cO a u u) rfl rfl rfl qw3_52 qw3_54 qw0_13 qw1_1 qw3_55 hvX10_nobody ⟨Nat.le_of_ble_eq_true rfl, Nat.le_of_ble_eq_true rfl⟩ ⟨Nat.zero_le _, Nat.zero_le _⟩ 0 10 rfl rfl rfl rfl (Nat.le_of_ble_eq_true rfl) E0_b (fun _ _ _ _ _ _ => trivial) rfl dX10_speak_3 [.int z3, .ref (a 0)] rfl ?_
  refine sm_aload_n F dX10_speak_6 rfl 0 rfl ?_
  refine sm_iload_n F dX10_speak_7 rfl 1 rfl ?_
  obtain ⟨z8, hz8, hf⟩ := bd_some hf
  refine sm_callV (rest := [.int z3, .ref (a 0)]) F (ct_X10_forgotten l D cI cZ cO a hz8) (cut_X_id cI cZ cO a u u) rfl rfl rfl qw3_91 qw3_93 qw0_16 qw1_1 qw3_94 hvX10_forgotten ⟨Nat.le_of_ble_eq_true rfl, Nat.le_of_ble_eq_true rfl⟩ ⟨Nat.zero_le _, Nat.zero_le _⟩ 0 10 rfl rfl rfl rfl (Nat.le_of_ble_eq_true rfl) E0_b (fun _ _ _ _ _ _ => trivial) rfl dX10_speak_8 [.int z8, .int z3, .ref (a 0)] rfl ?_
  obtain ⟨z11, hz11, hf⟩ := bd_some hf
  refine sm_callV (rest := []) F (ct_X10_refused_ l D cI cZ cO a hz11) (cut_X_id cI cZ cO a u z11.2) rfl rfl rfl qw1_221 qw1_223 qw0_0 qw1_1 qw1_224 hvX10_refused_ ⟨Nat.le_of_ble_eq_true rfl, Nat.le_of_ble_eq_true rfl⟩ ⟨Nat.zero_le _, Nat.zero_le _⟩ 0 10 rfl rfl rfl rfl (Nat.le_of_ble_eq_true rfl) E0_b (fun _ _ _ _ _ _ => trivial) rfl dX10_speak_11 [.int z11.1] rfl ?_
  refine sm_istore_n F [(0, .ref (a 0)), (1, .int x1), (2, .int z11.1)] [1, 2, 0] dX10_speak_14 rfl (by decide) rfl ?_
  refine sm_iload_n F dX10_speak_15 rfl 2 rfl ?_
  refine sm_if_eq (tgt := 23) F dX10_speak_16 (by decide) (fun c16 => ?_) (fun c16 => ?_)
  · replace hf := if_t c16 hf
    refine sm_aload_n F dX10_speak_23 rfl 0 rfl ?_
    refine sm_get (v := .ref (a 16)) F inX10 0 rfl rfl 3 (by decide) qw1_188 rfl rfl dX10_speak_24 ?_
    refine sm_iload_n F dX10_speak_27 rfl 1 rfl ?_
    obtain ⟨z28, hz28, hf⟩ := bd_some hf
    refine sm_callV (rest := []) F (ct_X3_bestToSpeakTo l D cI cZ cO (fun i => a (pm_X_m i)) hz28) (cut_X_m cI cZ cO a z11.2 z28.2) rfl rfl rfl qw3_215 qw3_216 qw3_217 qw1_9 qw3_218 hvX3_bestToSpeakTo ⟨Nat.le_of_ble_eq_true rfl, Nat.le_of_ble_eq_true rfl⟩ ⟨Nat.zero_le _, Nat.zero_le _⟩ 0 3 rfl rfl rfl rfl (Nat.le_of_ble_eq_true rfl) E0_b (fun _ _ _ _ _ _ => trivial) rfl dX10_speak_28 [.int z28.1] rfl ?_
    exact sm_iret F dX10_speak_31 (Prod.mk.inj (Option.some.inj hf)).1 (congrArg (fun z => (wX cI cZ cO a z)) (Prod.mk.inj (Option.some.inj hf)).2)
  · replace hf := if_f c16 hf
    refine sm_iload_n F dX10_speak_19 rfl 2 rfl ?_
    refine sm_goto (tgt := 31) F dX10_speak_20 (by decide) ?_
    exact sm_iret F dX10_speak_31 (Prod.mk.inj (Option.some.inj hf)).1 (congrArg (fun z => (wX cI cZ cO a z)) (Prod.mk.inj (Option.some.inj hf)).2)
/-! SoManyForgotten.fewest(II)I -/
abbrev rmX10_fewest : Room := { frames := 7, cells := 0, slots := 0, locals := 166 }
set_option maxRecDepth 100000 in
theorem hvX10_fewest : yX10_fewest.cls = RX10 ∧ yX10_fewest.cls ≠ "java/lang/invoke/MethodHandle" ∧ yX10_fewest.cls ≠ "java/lang/invoke/VarHandle" ∧ (parseMethodDescriptor yX10_fewest.desc).map (fun d => d.parameters.length) = some 2 := by decide +kernel
set_option maxRecDepth 100000 in
set_option maxHeartbeats 4000000 in
theorem ct_X10_fewest (l : Launch) (D : va_G) (cI cZ cO : ClassId) (a : Nat → Nat) {u : XS} {x1 : Int32} {x2 : Int32} {r : Int32} {o : XS} (hf : f_X10_fewest u x1 x2 = some (r, o)) : Ct l yX10_fewest (uw (Cond.code yX10_fewest cX10_fewest 4 (some .int))) rmX10_fewest D (tyL cI cZ cO) E0 [.ref (a 0), .int x1, .int x2] (wX cI cZ cO a u) (some (.int r)) (wX cI cZ cO a o) := by
  refine sm_start (cc := cX10_fewest) (maxL := 4) (ret := (some .int)) (own := RX10) (by decide) rfl rfl (Nat.le_of_ble_eq_true rfl) (lv := [(0, .ref (a 0)), (1, .int x1), (2, .int x2)]) rfl ?_
  intro p e s m below meth c A F hE hA
  unfold f_X10_fewest at hf
  refine sm_aload_n F dX10_fewest_0 rfl 0 rfl ?_
  refine sm_aload_n F dX10_fewest_1 rfl 0 rfl ?_
  refine sm_iload_n F dX10_fewest_2 rfl 1 rfl ?_
  obtain ⟨z3, hz3, hf⟩ := bd_some hf
  refine sm_callV (rest := [.ref (a 0)]) F (ct_X10_nobody l D cI cZ cO a hz3) (cut_X_id cI cZ cO a u u) rfl rfl rfl qw3_52 qw3_54 qw0_13 qw1_1 qw3_55 hvX10_nobody ⟨Nat.le_of_ble_eq_true rfl, Nat.le_of_ble_eq_true rfl⟩ ⟨Nat.zero_le _, Nat.zero_le _⟩ 0 10 rfl rfl rfl rfl (Nat.le_of_ble_eq_true rfl) E0_b (fun _ _ _ _ _ _ => trivial) rfl dX10_fewest_3 [.int z3, .ref (a 0)] rfl ?_
  refine sm_iload_n F dX10_fewest_6 rfl 2 rfl ?_
  refine sm_iconst F dX10_fewest_7 kc_i_0 ?_
  refine sm_bipush F dX10_fewest_8 kc_b_60 ?_
  obtain ⟨z10, hz10, hf⟩ := bd_some hf
  refine sm_callS (rest := [.int z3, .ref (a 0)]) F (ct_X10_outside l D (tyL cI cZ cO) hz10) (cut_X_none cI cZ cO a u) rfl rfl rfl qw1_214 qw1_215 qw1_1 qw1_216 hsX10_outside ⟨Nat.le_of_ble_eq_true rfl, Nat.le_of_ble_eq_true rfl⟩ ⟨Nat.zero_le _, Nat.zero_le _⟩ rfl (Nat.le_of_ble_eq_true rfl) E0_b (fun _ _ _ _ _ _ => trivial) rfl dX10_fewest_10 [.int z10, .int z3, .ref (a 0)] rfl ?_
  refine sm_aload_n F dX10_fewest_13 rfl 0 rfl ?_
  refine sm_iload_n F dX10_fewest_14 rfl 1 rfl ?_
  obtain ⟨z15, hz15, hf⟩ := bd_some hf
  refine sm_callV (rest := [.int z10, .int z3, .ref (a 0)]) F (ct_X10_forgotten l D cI cZ cO a hz15) (cut_X_id cI cZ cO a u u) rfl rfl rfl qw3_91 qw3_93 qw0_16 qw1_1 qw3_94 hvX10_forgotten ⟨Nat.le_of_ble_eq_true rfl, Nat.le_of_ble_eq_true rfl⟩ ⟨Nat.zero_le _, Nat.zero_le _⟩ 0 10 rfl rfl rfl rfl (Nat.le_of_ble_eq_true rfl) E0_b (fun _ _ _ _ _ _ => trivial) rfl dX10_fewest_15 [.int z15, .int z10, .int z3, .ref (a 0)] rfl ?_
  obtain ⟨z18, hz18, hf⟩ := bd_some hf
  refine sm_callV (rest := []) F (ct_X10_refused__ l D cI cZ cO a hz18) (cut_X_id cI cZ cO a u z18.2) rfl rfl rfl qw3_95 qw3_97 qw0_17 qw1_1 qw3_98 hvX10_refused__ ⟨Nat.le_of_ble_eq_true rfl, Nat.le_of_ble_eq_true rfl⟩ ⟨Nat.zero_le _, Nat.zero_le _⟩ 0 10 rfl rfl rfl rfl (Nat.le_of_ble_eq_true rfl) E0_b (fun _ _ _ _ _ _ => trivial) rfl dX10_fewest_18 [.int z18.1] rfl ?_
  refine sm_istore_n F [(0, .ref (a 0)), (1, .int x1), (2, .int x2), (3, .int z18.1)] [1, 2, 3, 0] dX10_fewest_21 rfl (by decide) rfl ?_
  refine sm_iload_n F dX10_fewest_22 rfl 3 rfl ?_
  refine sm_if_eq (tgt := 30) F dX10_fewest_23 (by decide) (fun c23 => ?_) (fun c23 => ?_)
  · replace hf := if_t c23 hf
    refine sm_aload_n F dX10_fewest_30 rfl 0 rfl ?_
    refine sm_get (v := .ref (a 16)) F inX10 0 rfl rfl 3 (by decide) qw1_188 rfl rfl dX10_fewest_31 ?_
    refine sm_iload_n F dX10_fewest_34 rfl 1 rfl ?_
    refine sm_iload_n F dX10_fewest_35 rfl 2 rfl ?_
    obtain ⟨z36, hz36, hf⟩ := bd_some hf
    refine sm_callV (rest := []) F (ct_X3_fewestTimes l D cI cZ cO (fun i => a (pm_X_m i)) hz36) (cut_X_m cI cZ cO a z18.2 z36.2) rfl rfl rfl qw3_226 qw3_227 qw3_228 qw1_9 qw3_229 hvX3_fewestTimes ⟨Nat.le_of_ble_eq_true rfl, Nat.le_of_ble_eq_true rfl⟩ ⟨Nat.zero_le _, Nat.zero_le _⟩ 0 3 rfl rfl rfl rfl (Nat.le_of_ble_eq_true rfl) E0_b (fun _ _ _ _ _ _ => trivial) rfl dX10_fewest_36 [.int z36.1] rfl ?_
    exact sm_iret F dX10_fewest_39 (Prod.mk.inj (Option.some.inj hf)).1 (congrArg (fun z => (wX cI cZ cO a z)) (Prod.mk.inj (Option.some.inj hf)).2)
  · replace hf := if_f c23 hf
    refine sm_iload_n F dX10_fewest_26 rfl 3 rfl ?_
    refine sm_goto (tgt := 39) F dX10_fewest_27 (by decide) ?_
    exact sm_iret F dX10_fewest_39 (Prod.mk.inj (Option.some.inj hf)).1 (congrArg (fun z => (wX cI cZ cO a z)) (Prod.mk.inj (Option.some.inj hf)).2)
/-! SoManyForgotten.save(I)I -/
abbrev rmX10_save : Room := { frames := 7, cells := 0, slots := 0, locals := 161 }
set_option maxRecDepth 100000 in
theorem hvX10_save : yX10_save.cls = RX10 ∧ yX10_save.cls ≠ "java/lang/invoke/MethodHandle" ∧ yX10_save.cls ≠ "java/lang/invoke/VarHandle" ∧ (parseMethodDescriptor yX10_save.desc).map (fun d => d.parameters.length) = some 1 := by decide +kernel
set_option maxRecDepth 100000 in
set_option maxHeartbeats 4000000 in
theorem ct_X10_save (l : Launch) (D : va_G) (cI cZ cO : ClassId) (a : Nat → Nat) {u : XS} {x1 : Int32} {r : Int32} {o : XS} (hf : f_X10_save u x1 = some (r, o)) : Ct l yX10_save (uw (Cond.code yX10_save cX10_save 3 (some .int))) rmX10_save D (tyL cI cZ cO) E0 [.ref (a 0), .int x1] (wX cI cZ cO a u) (some (.int r)) (wX cI cZ cO a o) := by
  refine sm_start (cc := cX10_save) (maxL := 3) (ret := (some .int)) (own := RX10) (by decide) rfl rfl (Nat.le_of_ble_eq_true rfl) (lv := [(0, .ref (a 0)), (1, .int x1)]) rfl ?_
  intro p e s m below meth c A F hE hA
  unfold f_X10_save at hf
  refine sm_aload_n F dX10_save_0 rfl 0 rfl ?_
  refine sm_iload_n F dX10_save_1 rfl 1 rfl ?_
  refine sm_iconst F dX10_save_2 kc_i_0 ?_
  refine sm_bipush F dX10_save_3 kc_b_60 ?_
  obtain ⟨z5, hz5, hf⟩ := bd_some hf
  refine sm_callS (rest := [.ref (a 0)]) F (ct_X10_outside l D (tyL cI cZ cO) hz5) (cut_X_none cI cZ cO a u) rfl rfl rfl qw1_214 qw1_215 qw1_1 qw1_216 hsX10_outside ⟨Nat.le_of_ble_eq_true rfl, Nat.le_of_ble_eq_true rfl⟩ ⟨Nat.zero_le _, Nat.zero_le _⟩ rfl (Nat.le_of_ble_eq_true rfl) E0_b (fun _ _ _ _ _ _ => trivial) rfl dX10_save_5 [.int z5, .ref (a 0)] rfl ?_
  obtain ⟨z8, hz8, hf⟩ := bd_some hf
  refine sm_callV (rest := []) F (ct_X10_refused l D cI cZ cO a hz8) (cut_X_id cI cZ cO a u z8.2) rfl rfl rfl qw3_74 qw3_76 qw0_15 qw1_1 qw3_77 hvX10_refused ⟨Nat.le_of_ble_eq_true rfl, Nat.le_of_ble_eq_true rfl⟩ ⟨Nat.zero_le _, Nat.zero_le _⟩ 0 10 rfl rfl rfl rfl (Nat.le_of_ble_eq_true rfl) E0_b (fun _ _ _ _ _ _ => trivial) rfl dX10_save_8 [.int z8.1] rfl ?_
  refine sm_istore_n F [(0, .ref (a 0)), (1, .int x1), (2, .int z8.1)] [1, 2, 0] dX10_save_11 rfl (by decide) rfl ?_
  refine sm_iload_n F dX10_save_12 rfl 2 rfl ?_
  refine sm_if_eq (tgt := 20) F dX10_save_13 (by decide) (fun c13 => ?_) (fun c13 => ?_)
  · replace hf := if_t c13 hf
    refine sm_aload_n F dX10_save_20 rfl 0 rfl ?_
    refine sm_get (v := .ref (a 16)) F inX10 0 rfl rfl 3 (by decide) qw1_188 rfl rfl dX10_save_21 ?_
    refine sm_iload_n F dX10_save_24 rfl 1 rfl ?_
    obtain ⟨z25, hz25, hf⟩ := bd_some hf
    refine sm_callV (rest := []) F (ct_X3_bestAsDog l D cI cZ cO (fun i => a (pm_X_m i)) hz25) (cut_X_m cI cZ cO a z8.2 z25.2) rfl rfl rfl qw4_9 qw4_10 qw4_11 qw1_9 qw4_12 hvX3_bestAsDog ⟨Nat.le_of_ble_eq_true rfl, Nat.le_of_ble_eq_true rfl⟩ ⟨Nat.zero_le _, Nat.zero_le _⟩ 0 3 rfl rfl rfl rfl (Nat.le_of_ble_eq_true rfl) E0_b (fun _ _ _ _ _ _ => trivial) rfl dX10_save_25 [.int z25.1] rfl ?_
    exact sm_iret F dX10_save_28 (Prod.mk.inj (Option.some.inj hf)).1 (congrArg (fun z => (wX cI cZ cO a z)) (Prod.mk.inj (Option.some.inj hf)).2)
  · replace hf := if_f c13 hf
    refine sm_iload_n F dX10_save_16 rfl 2 rfl ?_
    refine sm_goto (tgt := 28) F dX10_save_17 (by decide) ?_
    exact sm_iret F dX10_save_28 (Prod.mk.inj (Option.some.inj hf)).1 (congrArg (fun z => (wX cI cZ cO a z)) (Prod.mk.inj (Option.some.inj hf)).2)
/-! SoManyForgotten.bring(I)I -/
abbrev rmX10_bring : Room := { frames := 7, cells := 0, slots := 0, locals := 161 }
set_option maxRecDepth 100000 in
theorem hvX10_bring : yX10_bring.cls = RX10 ∧ yX10_bring.cls ≠ "java/lang/invoke/MethodHandle" ∧ yX10_bring.cls ≠ "java/lang/invoke/VarHandle" ∧ (parseMethodDescriptor yX10_bring.desc).map (fun d => d.parameters.length) = some 1 := by decide +kernel
set_option maxRecDepth 100000 in
set_option maxHeartbeats 4000000 in
theorem ct_X10_bring (l : Launch) (D : va_G) (cI cZ cO : ClassId) (a : Nat → Nat) {u : XS} {x1 : Int32} {r : Int32} {o : XS} (hf : f_X10_bring u x1 = some (r, o)) : Ct l yX10_bring (uw (Cond.code yX10_bring cX10_bring 4 (some .int))) rmX10_bring D (tyL cI cZ cO) E0 [.ref (a 0), .int x1] (wX cI cZ cO a u) (some (.int r)) (wX cI cZ cO a o) := by
  refine sm_start (cc := cX10_bring) (maxL := 4) (ret := (some .int)) (own := RX10) (by decide) rfl rfl (Nat.le_of_ble_eq_true rfl) (lv := [(0, .ref (a 0)), (1, .int x1)]) rfl ?_
  intro p e s m below meth c A F hE hA
  unfold f_X10_bring at hf
  refine sm_aload_n F dX10_bring_0 rfl 0 rfl ?_
  refine sm_iload_n F dX10_bring_1 rfl 1 rfl ?_
  refine sm_iconst F dX10_bring_2 kc_i_1 ?_
  obtain ⟨z3, hz3, hf⟩ := bd_some hf
  refine sm_callS (rest := [.ref (a 0)]) F (ct_X10_wrongWhat l D (tyL cI cZ cO) hz3) (cut_X_none cI cZ cO a u) rfl rfl rfl qw3_57 qw3_58 qw1_1 qw3_59 hsX10_wrongWhat ⟨Nat.le_of_ble_eq_true rfl, Nat.le_of_ble_eq_true rfl⟩ ⟨Nat.zero_le _, Nat.zero_le _⟩ rfl (Nat.le_of_ble_eq_true rfl) E0_b (fun _ _ _ _ _ _ => trivial) rfl dX10_bring_3 [.int z3, .ref (a 0)] rfl ?_
  obtain ⟨z6, hz6, hf⟩ := bd_some hf
  refine sm_callV (rest := []) F (ct_X10_refused l D cI cZ cO a hz6) (cut_X_id cI cZ cO a u z6.2) rfl rfl rfl qw3_74 qw3_76 qw0_15 qw1_1 qw3_77 hvX10_refused ⟨Nat.le_of_ble_eq_true rfl, Nat.le_of_ble_eq_true rfl⟩ ⟨Nat.zero_le _, Nat.zero_le _⟩ 0 10 rfl rfl rfl rfl (Nat.le_of_ble_eq_true rfl) E0_b (fun _ _ _ _ _ _ => trivial) rfl dX10_bring_6 [.int z6.1] rfl ?_
  refine sm_istore_n F [(0, .ref (a 0)), (1, .int x1), (2, .int z6.1)] [1, 2, 0] dX10_bring_9 rfl (by decide) rfl ?_
  refine sm_iload_n F dX10_bring_10 rfl 2 rfl ?_
  refine sm_if_eq (tgt := 16) F dX10_bring_11 (by decide) (fun c11 => ?_) (fun c11 => ?_)
  · replace hf := if_t c11 hf
    refine sm_aload_n F dX10_bring_16 rfl 0 rfl ?_
    refine sm_get (v := .ref (a 16)) F inX10 0 rfl rfl 3 (by decide) qw1_188 rfl rfl dX10_bring_17 ?_
    obtain ⟨z20, hz20, hf⟩ := bd_some hf
    refine sm_callV (rest := []) F (ct_X3_bestToBring l D cI cZ cO (fun i => a (pm_X_m i)) hz20) (cut_X_m cI cZ cO a z6.2 z20.2) rfl rfl rfl qw4_19 qw4_20 qw4_21 qw1_9 qw4_22 hvX3_bestToBring ⟨Nat.le_of_ble_eq_true rfl, Nat.le_of_ble_eq_true rfl⟩ ⟨Nat.zero_le _, Nat.zero_le _⟩ 0 3 rfl rfl rfl rfl (Nat.le_of_ble_eq_true rfl) E0_b (fun _ _ _ _ _ _ => trivial) rfl dX10_bring_20 [.int z20.1] rfl ?_
    refine sm_istore_n F [(0, .ref (a 0)), (1, .int x1), (3, .int z20.1)] [1, 2, 0] dX10_bring_23 rfl (by decide) rfl ?_
    refine sm_iload_n F dX10_bring_24 rfl 1 rfl ?_
    refine sm_if_eq (tgt := 34) F dX10_bring_25 (by decide) (fun c25 => ?_) (fun c25 => ?_)
    · replace hf := if_t c25 hf
      refine sm_iload_n F dX10_bring_34 rfl 2 rfl ?_
      refine sm_goto (tgt := 46) F dX10_bring_35 (by decide) ?_
      exact sm_iret F dX10_bring_46 (Prod.mk.inj (Option.some.inj hf)).1 (congrArg (fun z => (wX cI cZ cO a z)) (Prod.mk.inj (Option.some.inj hf)).2)
    · replace hf := if_f c25 hf
      refine sm_iload_n F dX10_bring_28 rfl 2 rfl ?_
      refine sm_bipush F dX10_bring_29 kc_b_m9 ?_
      refine sm_icmp_ne (tgt := 38) F dX10_bring_31 (by decide) (fun c31 => ?_) (fun c31 => ?_)
      · replace hf := if_f c31 hf
        refine sm_aload_n F dX10_bring_38 rfl 0 rfl ?_
        refine sm_get (v := .ref (a 16)) F inX10 0 rfl rfl 3 (by decide) qw1_188 rfl rfl dX10_bring_39 ?_
        refine sm_iload_n F dX10_bring_42 rfl 2 rfl ?_
        obtain ⟨z43, hz43, hf⟩ := bd_some hf
        refine sm_callV (rest := []) F (ct_X3_weeksIfBack l D cI cZ cO (fun i => a (pm_X_m i)) hz43) (cut_X_m cI cZ cO a (sX_mind z6.2 z20.2) z43.2) rfl rfl rfl qw4_29 qw4_24 qw4_25 qw1_9 qw4_26 hvX3_weeksIfBack ⟨Nat.le_of_ble_eq_true rfl, Nat.le_of_ble_eq_true rfl⟩ ⟨Nat.zero_le _, Nat.zero_le _⟩ 0 3 rfl rfl rfl rfl (Nat.le_of_ble_eq_true rfl) E0_b (fun _ _ _ _ _ _ => trivial) rfl dX10_bring_43 [.int z43.1] rfl ?_
        exact sm_iret F dX10_bring_46 (Prod.mk.inj (Option.some.inj hf)).1 (congrArg (fun z => (wX cI cZ cO a z)) (Prod.mk.inj (Option.some.inj hf)).2)
      · replace hf := if_t c31 hf
        refine sm_iload_n F dX10_bring_34 rfl 2 rfl ?_
        refine sm_goto (tgt := 46) F dX10_bring_35 (by decide) ?_
        exact sm_iret F dX10_bring_46 (Prod.mk.inj (Option.some.inj hf)).1 (congrArg (fun z => (wX cI cZ cO a z)) (Prod.mk.inj (Option.some.inj hf)).2)
  · replace hf := if_f c11 hf
    refine sm_iload_n F dX10_bring_14 rfl 2 rfl ?_
    exact sm_iret F dX10_bring_15 (Prod.mk.inj (Option.some.inj hf)).1 (congrArg (fun z => (wX cI cZ cO a z)) (Prod.mk.inj (Option.some.inj hf)).2)
/-! SoManyForgotten.league(I)I -/
abbrev rmX10_league : Room := { frames := 4, cells := 0, slots := 0, locals := 87 }
set_option maxRecDepth 100000 in
theorem hvX10_league : yX10_league.cls = RX10 ∧ yX10_league.cls ≠ "java/lang/invoke/MethodHandle" ∧ yX10_league.cls ≠ "java/lang/invoke/VarHandle" ∧ (parseMethodDescriptor yX10_league.desc).map (fun d => d.parameters.length) = some 1 := by decide +kernel
set_option maxRecDepth 100000 in
set_option maxHeartbeats 4000000 in
theorem ct_X10_league (l : Launch) (D : va_G) (cI cZ cO : ClassId) (a : Nat → Nat) {u : XS} {x1 : Int32} {r : Int32} {o : XS} (hf : f_X10_league u x1 = some (r, o)) : Ct l yX10_league (uw (Cond.code yX10_league cX10_league 3 (some .int))) rmX10_league D (tyL cI cZ cO) E0 [.ref (a 0), .int x1] (wX cI cZ cO a u) (some (.int r)) (wX cI cZ cO a o) := by
  refine sm_start (cc := cX10_league) (maxL := 3) (ret := (some .int)) (own := RX10) (by decide) rfl rfl (Nat.le_of_ble_eq_true rfl) (lv := [(0, .ref (a 0)), (1, .int x1)]) rfl ?_
  intro p e s m below meth c A F hE hA
  unfold f_X10_league at hf
  refine sm_aload_n F dX10_league_0 rfl 0 rfl ?_
  refine sm_aload_n F dX10_league_1 rfl 0 rfl ?_
  refine sm_iload_n F dX10_league_2 rfl 1 rfl ?_
  obtain ⟨z3, hz3, hf⟩ := bd_some hf
  refine sm_callV (rest := [.ref (a 0)]) F (ct_X10_nobody l D cI cZ cO a hz3) (cut_X_id cI cZ cO a u u) rfl rfl rfl qw3_52 qw3_54 qw0_13 qw1_1 qw3_55 hvX10_nobody ⟨Nat.le_of_ble_eq_true rfl, Nat.le_of_ble_eq_true rfl⟩ ⟨Nat.zero_le _, Nat.zero_le _⟩ 0 10 rfl rfl rfl rfl (Nat.le_of_ble_eq_true rfl) E0_b (fun _ _ _ _ _ _ => trivial) rfl dX10_league_3 [.int z3, .ref (a 0)] rfl ?_
  refine sm_aload_n F dX10_league_6 rfl 0 rfl ?_
  refine sm_iload_n F dX10_league_7 rfl 1 rfl ?_
  obtain ⟨z8, hz8, hf⟩ := bd_some hf
  refine sm_callV (rest := [.int z3, .ref (a 0)]) F (ct_X10_forgotten l D cI cZ cO a hz8) (cut_X_id cI cZ cO a u u) rfl rfl rfl qw3_91 qw3_93 qw0_16 qw1_1 qw3_94 hvX10_forgotten ⟨Nat.le_of_ble_eq_true rfl, Nat.le_of_ble_eq_true rfl⟩ ⟨Nat.zero_le _, Nat.zero_le _⟩ 0 10 rfl rfl rfl rfl (Nat.le_of_ble_eq_true rfl) E0_b (fun _ _ _ _ _ _ => trivial) rfl dX10_league_8 [.int z8, .int z3, .ref (a 0)] rfl ?_
  obtain ⟨z11, hz11, hf⟩ := bd_some hf
  refine sm_callV (rest := []) F (ct_X10_refused_ l D cI cZ cO a hz11) (cut_X_id cI cZ cO a u z11.2) rfl rfl rfl qw1_221 qw1_223 qw0_0 qw1_1 qw1_224 hvX10_refused_ ⟨Nat.le_of_ble_eq_true rfl, Nat.le_of_ble_eq_true rfl⟩ ⟨Nat.zero_le _, Nat.zero_le _⟩ 0 10 rfl rfl rfl rfl (Nat.le_of_ble_eq_true rfl) E0_b (fun _ _ _ _ _ _ => trivial) rfl dX10_league_11 [.int z11.1] rfl ?_
  refine sm_istore_n F [(0, .ref (a 0)), (1, .int x1), (2, .int z11.1)] [1, 2, 0] dX10_league_14 rfl (by decide) rfl ?_
  refine sm_iload_n F dX10_league_15 rfl 2 rfl ?_
  refine sm_if_eq (tgt := 23) F dX10_league_16 (by decide) (fun c16 => ?_) (fun c16 => ?_)
  · replace hf := if_t c16 hf
    refine sm_aload_n F dX10_league_23 rfl 0 rfl ?_
    refine sm_get (v := .ref (a 22)) F inX10 0 rfl rfl 0 (by decide) qw1_185 rfl rfl dX10_league_24 ?_
    refine sm_iload_n F dX10_league_27 rfl 1 rfl ?_
    obtain ⟨z28, hz28, hf⟩ := bd_some hf
    refine sm_callV (rest := []) F (ct_X8_leagueOf l D cI cZ cO (fun i => a (pm_X_v22 i)) hz28) (cut_X_v22_ro cI cZ cO a z11.2) rfl rfl rfl qw4_34 qw4_35 qw4_36 qw1_8 qw4_37 hvX8_leagueOf ⟨Nat.le_of_ble_eq_true rfl, Nat.le_of_ble_eq_true rfl⟩ ⟨Nat.zero_le _, Nat.zero_le _⟩ 0 8 rfl rfl rfl rfl (Nat.le_of_ble_eq_true rfl) E0_b (fun _ _ _ _ _ _ => trivial) rfl dX10_league_28 [.int z28] rfl ?_
    exact sm_iret F dX10_league_31 (Prod.mk.inj (Option.some.inj hf)).1 (congrArg (fun z => (wX cI cZ cO a z)) (Prod.mk.inj (Option.some.inj hf)).2)
  · replace hf := if_f c16 hf
    refine sm_iload_n F dX10_league_19 rfl 2 rfl ?_
    refine sm_goto (tgt := 31) F dX10_league_20 (by decide) ?_
    exact sm_iret F dX10_league_31 (Prod.mk.inj (Option.some.inj hf)).1 (congrArg (fun z => (wX cI cZ cO a z)) (Prod.mk.inj (Option.some.inj hf)).2)
/-! SoManyForgotten.largest(I)I -/
abbrev rmX10_largest : Room := { frames := 5, cells := 0, slots := 0, locals := 109 }
set_option maxRecDepth 100000 in
theorem hvX10_largest : yX10_largest.cls = RX10 ∧ yX10_largest.cls ≠ "java/lang/invoke/MethodHandle" ∧ yX10_largest.cls ≠ "java/lang/invoke/VarHandle" ∧ (parseMethodDescriptor yX10_largest.desc).map (fun d => d.parameters.length) = some 1 := by decide +kernel
set_option maxRecDepth 100000 in
set_option maxHeartbeats 4000000 in
theorem ct_X10_largest (l : Launch) (D : va_G) (cI cZ cO : ClassId) (a : Nat → Nat) {u : XS} {x1 : Int32} {r : Int32} {o : XS} (hf : f_X10_largest u x1 = some (r, o)) : Ct l yX10_largest (uw (Cond.code yX10_largest cX10_largest 4 (some .int))) rmX10_largest D (tyL cI cZ cO) E0 [.ref (a 0), .int x1] (wX cI cZ cO a u) (some (.int r)) (wX cI cZ cO a o) := by
  refine sm_start (cc := cX10_largest) (maxL := 4) (ret := (some .int)) (own := RX10) (by decide) rfl rfl (Nat.le_of_ble_eq_true rfl) (lv := [(0, .ref (a 0)), (1, .int x1)]) rfl ?_
  intro p e s m below meth c A F hE hA
  unfold f_X10_largest at hf
  refine sm_aload_n F dX10_largest_0 rfl 0 rfl ?_
  refine sm_iload_n F dX10_largest_1 rfl 1 rfl ?_
  refine sm_iconst F dX10_largest_2 kc_i_1 ?_
  obtain ⟨z3, hz3, hf⟩ := bd_some hf
  refine sm_callS (rest := [.ref (a 0)]) F (ct_X10_wrongWhat l D (tyL cI cZ cO) hz3) (cut_X_none cI cZ cO a u) rfl rfl rfl qw3_57 qw3_58 qw1_1 qw3_59 hsX10_wrongWhat ⟨Nat.le_of_ble_eq_true rfl, Nat.le_of_ble_eq_true rfl⟩ ⟨Nat.zero_le _, Nat.zero_le _⟩ rfl (Nat.le_of_ble_eq_true rfl) E0_b (fun _ _ _ _ _ _ => trivial) rfl dX10_largest_3 [.int z3, .ref (a 0)] rfl ?_
  obtain ⟨z6, hz6, hf⟩ := bd_some hf
  refine sm_callV (rest := []) F (ct_X10_refused l D cI cZ cO a hz6) (cut_X_id cI cZ cO a u z6.2) rfl rfl rfl qw3_74 qw3_76 qw0_15 qw1_1 qw3_77 hvX10_refused ⟨Nat.le_of_ble_eq_true rfl, Nat.le_of_ble_eq_true rfl⟩ ⟨Nat.zero_le _, Nat.zero_le _⟩ 0 10 rfl rfl rfl rfl (Nat.le_of_ble_eq_true rfl) E0_b (fun _ _ _ _ _ _ => trivial) rfl dX10_largest_6 [.int z6.1] rfl ?_
  refine sm_istore_n F [(0, .ref (a 0)), (1, .int x1), (2, .int z6.1)] [1, 2, 0] dX10_largest_9 rfl (by decide) rfl ?_
  refine sm_iload_n F dX10_largest_10 rfl 2 rfl ?_
  refine sm_if_eq (tgt := 16) F dX10_largest_11 (by decide) (fun c11 => ?_) (fun c11 => ?_)
  · replace hf := if_t c11 hf
    refine sm_aload_n F dX10_largest_16 rfl 0 rfl ?_
    refine sm_get (v := .ref (a 16)) F inX10 0 rfl rfl 3 (by decide) qw1_188 rfl rfl dX10_largest_17 ?_
    obtain ⟨z20, hz20, hf⟩ := bd_some hf
    refine sm_callV (rest := []) F (ct_X3_largestLeague l D cI cZ cO (fun i => a (pm_X_m i)) hz20) (cut_X_m cI cZ cO a z6.2 z20.2) rfl rfl rfl qw4_44 qw4_45 qw4_46 qw1_9 qw4_47 hvX3_largestLeague ⟨Nat.le_of_ble_eq_true rfl, Nat.le_of_ble_eq_true rfl⟩ ⟨Nat.zero_le _, Nat.zero_le _⟩ 0 3 rfl rfl rfl rfl (Nat.le_of_ble_eq_true rfl) E0_b (fun _ _ _ _ _ _ => trivial) rfl dX10_largest_20 [.int z20.1] rfl ?_
    refine sm_istore_n F [(0, .ref (a 0)), (1, .int x1), (3, .int z20.1)] [1, 2, 0] dX10_largest_23 rfl (by decide) rfl ?_
    refine sm_iload_n F dX10_largest_24 rfl 1 rfl ?_
    refine sm_if_ne (tgt := 32) F dX10_largest_25 (by decide) (fun c25 => ?_) (fun c25 => ?_)
    · replace hf := if_f c25 hf
      refine sm_iload_n F dX10_largest_32 rfl 2 rfl ?_
      obtain ⟨z33, hz33, hf⟩ := bd_some hf
      refine sm_callS (rest := []) F (ct_J6_bitCount_0f7a4 l D (tyL cI cZ cO) hz33) (cut_X_none cI cZ cO a (sX_mind z6.2 z20.2)) rfl rfl rfl qw4_54 qw3_119 qw1_20 qw3_120 hsJ6_bitCount_0f7a4 ⟨Nat.le_of_ble_eq_true rfl, Nat.le_of_ble_eq_true rfl⟩ ⟨Nat.zero_le _, Nat.zero_le _⟩ rfl (Nat.le_of_ble_eq_true rfl) E0_b (fun _ _ _ _ _ _ => trivial) rfl dX10_largest_33 [.int z33] rfl ?_
      exact sm_iret F dX10_largest_36 (Prod.mk.inj (Option.some.inj hf)).1 (congrArg (fun z => (wX cI cZ cO a z)) (Prod.mk.inj (Option.some.inj hf)).2)
    · replace hf := if_t c25 hf
      refine sm_iload_n F dX10_largest_28 rfl 2 rfl ?_
      refine sm_goto (tgt := 36) F dX10_largest_29 (by decide) ?_
      exact sm_iret F dX10_largest_36 (Prod.mk.inj (Option.some.inj hf)).1 (congrArg (fun z => (wX cI cZ cO a z)) (Prod.mk.inj (Option.some.inj hf)).2)
  · replace hf := if_f c11 hf
    refine sm_iload_n F dX10_largest_14 rfl 2 rfl ?_
    exact sm_iret F dX10_largest_15 (Prod.mk.inj (Option.some.inj hf)).1 (congrArg (fun z => (wX cI cZ cO a z)) (Prod.mk.inj (Option.some.inj hf)).2)
/-! SoManyForgotten.cold(I)I -/
abbrev rmX10_cold : Room := { frames := 5, cells := 0, slots := 0, locals := 109 }
set_option maxRecDepth 100000 in
theorem hvX10_cold : yX10_cold.cls = RX10 ∧ yX10_cold.cls ≠ "java/lang/invoke/MethodHandle" ∧ yX10_cold.cls ≠ "java/lang/invoke/VarHandle" ∧ (parseMethodDescriptor yX10_cold.desc).map (fun d => d.parameters.length) = some 1 := by decide +kernel
set_option maxRecDepth 100000 in
set_option maxHeartbeats 4000000 in
theorem ct_X10_cold (l : Launch) (D : va_G) (cI cZ cO : ClassId) (a : Nat → Nat) {u : XS} {x1 : Int32} {r : Int32} {o : XS} (hf : f_X10_cold u x1 = some (r, o)) : Ct l yX10_cold (uw (Cond.code yX10_cold cX10_cold 3 (some .int))) rmX10_cold D (tyL cI cZ cO) E0 [.ref (a 0), .int x1] (wX cI cZ cO a u) (some (.int r)) (wX cI cZ cO a o) := by
  refine sm_start (cc := cX10_cold) (maxL := 3) (ret := (some .int)) (own := RX10) (by decide) rfl rfl (Nat.le_of_ble_eq_true rfl) (lv := [(0, .ref (a 0)), (1, .int x1)]) rfl ?_
  intro p e s m below meth c A F hE hA
  unfold f_X10_cold at hf
  refine sm_aload_n F dX10_cold_0 rfl 0 rfl ?_
  refine sm_iload_n F dX10_cold_1 rfl 1 rfl ?_
  refine sm_iconst F dX10_cold_2 kc_i_1 ?_
  obtain ⟨z3, hz3, hf⟩ := bd_some hf
  refine sm_callS (rest := [.ref (a 0)]) F (ct_X10_wrongWhat l D (tyL cI cZ cO) hz3) (cut_X_none cI cZ cO a u) rfl rfl rfl qw3_57 qw3_58 qw1_1 qw3_59 hsX10_wrongWhat ⟨Nat.le_of_ble_eq_true rfl, Nat.le_of_ble_eq_true rfl⟩ ⟨Nat.zero_le _, Nat.zero_le _⟩ rfl (Nat.le_of_ble_eq_true rfl) E0_b (fun _ _ _ _ _ _ => trivial) rfl dX10_cold_3 [.int z3, .ref (a 0)] rfl ?_
  obtain ⟨z6, hz6, hf⟩ := bd_some hf
  refine sm_callV (rest := []) F (ct_X10_refused l D cI cZ cO a hz6) (cut_X_id cI cZ cO a u z6.2) rfl rfl rfl qw3_74 qw3_76 qw0_15 qw1_1 qw3_77 hvX10_refused ⟨Nat.le_of_ble_eq_true rfl, Nat.le_of_ble_eq_true rfl⟩ ⟨Nat.zero_le _, Nat.zero_le _⟩ 0 10 rfl rfl rfl rfl (Nat.le_of_ble_eq_true rfl) E0_b (fun _ _ _ _ _ _ => trivial) rfl dX10_cold_6 [.int z6.1] rfl ?_
  refine sm_istore_n F [(0, .ref (a 0)), (1, .int x1), (2, .int z6.1)] [1, 2, 0] dX10_cold_9 rfl (by decide) rfl ?_
  refine sm_iload_n F dX10_cold_10 rfl 2 rfl ?_
  refine sm_if_eq (tgt := 16) F dX10_cold_11 (by decide) (fun c11 => ?_) (fun c11 => ?_)
  · replace hf := if_t c11 hf
    refine sm_iload_n F dX10_cold_16 rfl 1 rfl ?_
    refine sm_if_ne (tgt := 30) F dX10_cold_17 (by decide) (fun c17 => ?_) (fun c17 => ?_)
    · replace hf := if_f c17 hf
      refine sm_aload_n F dX10_cold_30 rfl 0 rfl ?_
      refine sm_get (v := .ref (a 22)) F inX10 0 rfl rfl 0 (by decide) qw1_185 rfl rfl dX10_cold_31 ?_
      obtain ⟨z34, hz34, hf⟩ := bd_some hf
      refine sm_callV (rest := []) F (ct_X8_firstCold l D cI cZ cO (fun i => a (pm_X_v22 i)) hz34) (cut_X_v22_ro cI cZ cO a z6.2) rfl rfl rfl qw4_67 qw4_68 qw4_69 qw1_8 qw4_70 hvX8_firstCold ⟨Nat.le_of_ble_eq_true rfl, Nat.le_of_ble_eq_true rfl⟩ ⟨Nat.zero_le _, Nat.zero_le _⟩ 0 8 rfl rfl rfl rfl (Nat.le_of_ble_eq_true rfl) E0_b (fun _ _ _ _ _ _ => trivial) rfl dX10_cold_34 [.int z34] rfl ?_
      exact sm_iret F dX10_cold_37 (Prod.mk.inj (Option.some.inj hf)).1 (congrArg (fun z => (wX cI cZ cO a z)) (Prod.mk.inj (Option.some.inj hf)).2)
    · replace hf := if_t c17 hf
      refine sm_aload_n F dX10_cold_20 rfl 0 rfl ?_
      refine sm_get (v := .ref (a 22)) F inX10 0 rfl rfl 0 (by decide) qw1_185 rfl rfl dX10_cold_21 ?_
      obtain ⟨z24, hz24, hf⟩ := bd_some hf
      refine sm_callV (rest := []) F (ct_X8_countCold l D cI cZ cO (fun i => a (pm_X_v22 i)) hz24) (cut_X_v22_ro cI cZ cO a z6.2) rfl rfl rfl qw4_59 qw4_60 qw4_61 qw1_8 qw4_62 hvX8_countCold ⟨Nat.le_of_ble_eq_true rfl, Nat.le_of_ble_eq_true rfl⟩ ⟨Nat.zero_le _, Nat.zero_le _⟩ 0 8 rfl rfl rfl rfl (Nat.le_of_ble_eq_true rfl) E0_b (fun _ _ _ _ _ _ => trivial) rfl dX10_cold_24 [.int z24] rfl ?_
      refine sm_goto (tgt := 37) F dX10_cold_27 (by decide) ?_
      exact sm_iret F dX10_cold_37 (Prod.mk.inj (Option.some.inj hf)).1 (congrArg (fun z => (wX cI cZ cO a z)) (Prod.mk.inj (Option.some.inj hf)).2)
  · replace hf := if_f c11 hf
    refine sm_iload_n F dX10_cold_14 rfl 2 rfl ?_
    exact sm_iret F dX10_cold_15 (Prod.mk.inj (Option.some.inj hf)).1 (congrArg (fun z => (wX cI cZ cO a z)) (Prod.mk.inj (Option.some.inj hf)).2)
/-! SoManyForgotten.envy(I)I -/
abbrev rmX10_envy : Room := { frames := 4, cells := 0, slots := 0, locals := 87 }
set_option maxRecDepth 100000 in
theorem hvX10_envy : yX10_envy.cls = RX10 ∧ yX10_envy.cls ≠ "java/lang/invoke/MethodHandle" ∧ yX10_envy.cls ≠ "java/lang/invoke/VarHandle" ∧ (parseMethodDescriptor yX10_envy.desc).map (fun d => d.parameters.length) = some 1 := by decide +kernel
set_option maxRecDepth 100000 in
set_option maxHeartbeats 4000000 in
theorem ct_X10_envy (l : Launch) (D : va_G) (cI cZ cO : ClassId) (a : Nat → Nat) {u : XS} {x1 : Int32} {r : Int32} {o : XS} (hf : f_X10_envy u x1 = some (r, o)) : Ct l yX10_envy (uw (Cond.code yX10_envy cX10_envy 3 (some .int))) rmX10_envy D (tyL cI cZ cO) E0 [.ref (a 0), .int x1] (wX cI cZ cO a u) (some (.int r)) (wX cI cZ cO a o) := by
  refine sm_start (cc := cX10_envy) (maxL := 3) (ret := (some .int)) (own := RX10) (by decide) rfl rfl (Nat.le_of_ble_eq_true rfl) (lv := [(0, .ref (a 0)), (1, .int x1)]) rfl ?_
  intro p e s m below meth c A F hE hA
  unfold f_X10_envy at hf
  refine sm_aload_n F dX10_envy_0 rfl 0 rfl ?_
  refine sm_aload_n F dX10_envy_1 rfl 0 rfl ?_
  refine sm_iload_n F dX10_envy_2 rfl 1 rfl ?_
  obtain ⟨z3, hz3, hf⟩ := bd_some hf
  refine sm_callV (rest := [.ref (a 0)]) F (ct_X10_nobody l D cI cZ cO a hz3) (cut_X_id cI cZ cO a u u) rfl rfl rfl qw3_52 qw3_54 qw0_13 qw1_1 qw3_55 hvX10_nobody ⟨Nat.le_of_ble_eq_true rfl, Nat.le_of_ble_eq_true rfl⟩ ⟨Nat.zero_le _, Nat.zero_le _⟩ 0 10 rfl rfl rfl rfl (Nat.le_of_ble_eq_true rfl) E0_b (fun _ _ _ _ _ _ => trivial) rfl dX10_envy_3 [.int z3, .ref (a 0)] rfl ?_
  refine sm_aload_n F dX10_envy_6 rfl 0 rfl ?_
  refine sm_iload_n F dX10_envy_7 rfl 1 rfl ?_
  obtain ⟨z8, hz8, hf⟩ := bd_some hf
  refine sm_callV (rest := [.int z3, .ref (a 0)]) F (ct_X10_forgotten l D cI cZ cO a hz8) (cut_X_id cI cZ cO a u u) rfl rfl rfl qw3_91 qw3_93 qw0_16 qw1_1 qw3_94 hvX10_forgotten ⟨Nat.le_of_ble_eq_true rfl, Nat.le_of_ble_eq_true rfl⟩ ⟨Nat.zero_le _, Nat.zero_le _⟩ 0 10 rfl rfl rfl rfl (Nat.le_of_ble_eq_true rfl) E0_b (fun _ _ _ _ _ _ => trivial) rfl dX10_envy_8 [.int z8, .int z3, .ref (a 0)] rfl ?_
  obtain ⟨z11, hz11, hf⟩ := bd_some hf
  refine sm_callV (rest := []) F (ct_X10_refused_ l D cI cZ cO a hz11) (cut_X_id cI cZ cO a u z11.2) rfl rfl rfl qw1_221 qw1_223 qw0_0 qw1_1 qw1_224 hvX10_refused_ ⟨Nat.le_of_ble_eq_true rfl, Nat.le_of_ble_eq_true rfl⟩ ⟨Nat.zero_le _, Nat.zero_le _⟩ 0 10 rfl rfl rfl rfl (Nat.le_of_ble_eq_true rfl) E0_b (fun _ _ _ _ _ _ => trivial) rfl dX10_envy_11 [.int z11.1] rfl ?_
  refine sm_istore_n F [(0, .ref (a 0)), (1, .int x1), (2, .int z11.1)] [1, 2, 0] dX10_envy_14 rfl (by decide) rfl ?_
  refine sm_iload_n F dX10_envy_15 rfl 2 rfl ?_
  refine sm_if_eq (tgt := 23) F dX10_envy_16 (by decide) (fun c16 => ?_) (fun c16 => ?_)
  · replace hf := if_t c16 hf
    refine sm_aload_n F dX10_envy_23 rfl 0 rfl ?_
    refine sm_get (v := .ref (a 22)) F inX10 0 rfl rfl 0 (by decide) qw1_185 rfl rfl dX10_envy_24 ?_
    refine sm_iload_n F dX10_envy_27 rfl 1 rfl ?_
    obtain ⟨z28, hz28, hf⟩ := bd_some hf
    refine sm_callV (rest := []) F (ct_X8_leastRemembered l D cI cZ cO (fun i => a (pm_X_v22 i)) hz28) (cut_X_v22_ro cI cZ cO a z11.2) rfl rfl rfl qw4_75 qw4_76 qw4_77 qw1_8 qw4_78 hvX8_leastRemembered ⟨Nat.le_of_ble_eq_true rfl, Nat.le_of_ble_eq_true rfl⟩ ⟨Nat.zero_le _, Nat.zero_le _⟩ 0 8 rfl rfl rfl rfl (Nat.le_of_ble_eq_true rfl) E0_b (fun _ _ _ _ _ _ => trivial) rfl dX10_envy_28 [.int z28] rfl ?_
    exact sm_iret F dX10_envy_31 (Prod.mk.inj (Option.some.inj hf)).1 (congrArg (fun z => (wX cI cZ cO a z)) (Prod.mk.inj (Option.some.inj hf)).2)
  · replace hf := if_f c16 hf
    refine sm_iload_n F dX10_envy_19 rfl 2 rfl ?_
    refine sm_goto (tgt := 31) F dX10_envy_20 (by decide) ?_
    exact sm_iret F dX10_envy_31 (Prod.mk.inj (Option.some.inj hf)).1 (congrArg (fun z => (wX cI cZ cO a z)) (Prod.mk.inj (Option.some.inj hf)).2)
/-! SoManyForgotten.power(II)I -/
abbrev rmX10_power : Room := { frames := 5, cells := 0, slots := 0, locals := 118 }
set_option maxRecDepth 100000 in
theorem hvX10_power : yX10_power.cls = RX10 ∧ yX10_power.cls ≠ "java/lang/invoke/MethodHandle" ∧ yX10_power.cls ≠ "java/lang/invoke/VarHandle" ∧ (parseMethodDescriptor yX10_power.desc).map (fun d => d.parameters.length) = some 2 := by decide +kernel
set_option maxRecDepth 100000 in
set_option maxHeartbeats 4000000 in
theorem ct_X10_power (l : Launch) (D : va_G) (cI cZ cO : ClassId) (a : Nat → Nat) {u : XS} {x1 : Int32} {x2 : Int32} {r : Int32} {o : XS} (hf : f_X10_power u x1 x2 = some (r, o)) : Ct l yX10_power (uw (Cond.code yX10_power cX10_power 4 (some .int))) rmX10_power D (tyL cI cZ cO) E0 [.ref (a 0), .int x1, .int x2] (wX cI cZ cO a u) (some (.int r)) (wX cI cZ cO a o) := by
  refine sm_start (cc := cX10_power) (maxL := 4) (ret := (some .int)) (own := RX10) (by decide) rfl rfl (Nat.le_of_ble_eq_true rfl) (lv := [(0, .ref (a 0)), (1, .int x1), (2, .int x2)]) rfl ?_
  intro p e s m below meth c A F hE hA
  unfold f_X10_power at hf
  refine sm_aload_n F dX10_power_0 rfl 0 rfl ?_
  refine sm_aload_n F dX10_power_1 rfl 0 rfl ?_
  refine sm_iload_n F dX10_power_2 rfl 1 rfl ?_
  obtain ⟨z3, hz3, hf⟩ := bd_some hf
  refine sm_callV (rest := [.ref (a 0)]) F (ct_X10_nobody l D cI cZ cO a hz3) (cut_X_id cI cZ cO a u u) rfl rfl rfl qw3_52 qw3_54 qw0_13 qw1_1 qw3_55 hvX10_nobody ⟨Nat.le_of_ble_eq_true rfl, Nat.le_of_ble_eq_true rfl⟩ ⟨Nat.zero_le _, Nat.zero_le _⟩ 0 10 rfl rfl rfl rfl (Nat.le_of_ble_eq_true rfl) E0_b (fun _ _ _ _ _ _ => trivial) rfl dX10_power_3 [.int z3, .ref (a 0)] rfl ?_
  refine sm_iload_n F dX10_power_6 rfl 2 rfl ?_
  refine sm_iconst F dX10_power_7 kc_i_1 ?_
  refine sm_bipush F dX10_power_8 kc_b_60 ?_
  obtain ⟨z10, hz10, hf⟩ := bd_some hf
  refine sm_callS (rest := [.int z3, .ref (a 0)]) F (ct_X10_outside l D (tyL cI cZ cO) hz10) (cut_X_none cI cZ cO a u) rfl rfl rfl qw1_214 qw1_215 qw1_1 qw1_216 hsX10_outside ⟨Nat.le_of_ble_eq_true rfl, Nat.le_of_ble_eq_true rfl⟩ ⟨Nat.zero_le _, Nat.zero_le _⟩ rfl (Nat.le_of_ble_eq_true rfl) E0_b (fun _ _ _ _ _ _ => trivial) rfl dX10_power_10 [.int z10, .int z3, .ref (a 0)] rfl ?_
  refine sm_aload_n F dX10_power_13 rfl 0 rfl ?_
  refine sm_iload_n F dX10_power_14 rfl 1 rfl ?_
  obtain ⟨z15, hz15, hf⟩ := bd_some hf
  refine sm_callV (rest := [.int z10, .int z3, .ref (a 0)]) F (ct_X10_forgotten l D cI cZ cO a hz15) (cut_X_id cI cZ cO a u u) rfl rfl rfl qw3_91 qw3_93 qw0_16 qw1_1 qw3_94 hvX10_forgotten ⟨Nat.le_of_ble_eq_true rfl, Nat.le_of_ble_eq_true rfl⟩ ⟨Nat.zero_le _, Nat.zero_le _⟩ 0 10 rfl rfl rfl rfl (Nat.le_of_ble_eq_true rfl) E0_b (fun _ _ _ _ _ _ => trivial) rfl dX10_power_15 [.int z15, .int z10, .int z3, .ref (a 0)] rfl ?_
  obtain ⟨z18, hz18, hf⟩ := bd_some hf
  refine sm_callV (rest := []) F (ct_X10_refused__ l D cI cZ cO a hz18) (cut_X_id cI cZ cO a u z18.2) rfl rfl rfl qw3_95 qw3_97 qw0_17 qw1_1 qw3_98 hvX10_refused__ ⟨Nat.le_of_ble_eq_true rfl, Nat.le_of_ble_eq_true rfl⟩ ⟨Nat.zero_le _, Nat.zero_le _⟩ 0 10 rfl rfl rfl rfl (Nat.le_of_ble_eq_true rfl) E0_b (fun _ _ _ _ _ _ => trivial) rfl dX10_power_18 [.int z18.1] rfl ?_
  refine sm_istore_n F [(0, .ref (a 0)), (1, .int x1), (2, .int x2), (3, .int z18.1)] [1, 2, 3, 0] dX10_power_21 rfl (by decide) rfl ?_
  refine sm_iload_n F dX10_power_22 rfl 3 rfl ?_
  refine sm_if_eq (tgt := 30) F dX10_power_23 (by decide) (fun c23 => ?_) (fun c23 => ?_)
  · replace hf := if_t c23 hf
    refine sm_aload_n F dX10_power_30 rfl 0 rfl ?_
    refine sm_get (v := .ref (a 16)) F inX10 0 rfl rfl 3 (by decide) qw1_188 rfl rfl dX10_power_31 ?_
    refine sm_iload_n F dX10_power_34 rfl 1 rfl ?_
    refine sm_iload_n F dX10_power_35 rfl 2 rfl ?_
    obtain ⟨z36, hz36, hf⟩ := bd_some hf
    refine sm_callV (rest := []) F (ct_X3_powerOf l D cI cZ cO (fun i => a (pm_X_m i)) hz36) (cut_X_m cI cZ cO a z18.2 z36.2) rfl rfl rfl qw4_83 qw4_84 qw4_85 qw1_9 qw4_86 hvX3_powerOf ⟨Nat.le_of_ble_eq_true rfl, Nat.le_of_ble_eq_true rfl⟩ ⟨Nat.zero_le _, Nat.zero_le _⟩ 0 3 rfl rfl rfl rfl (Nat.le_of_ble_eq_true rfl) E0_b (fun _ _ _ _ _ _ => trivial) rfl dX10_power_36 [.int z36.1] rfl ?_
    exact sm_iret F dX10_power_39 (Prod.mk.inj (Option.some.inj hf)).1 (congrArg (fun z => (wX cI cZ cO a z)) (Prod.mk.inj (Option.some.inj hf)).2)
  · replace hf := if_f c23 hf
    refine sm_iload_n F dX10_power_26 rfl 3 rfl ?_
    refine sm_goto (tgt := 39) F dX10_power_27 (by decide) ?_
    exact sm_iret F dX10_power_39 (Prod.mk.inj (Option.some.inj hf)).1 (congrArg (fun z => (wX cI cZ cO a z)) (Prod.mk.inj (Option.some.inj hf)).2)
/-! SoManyForgotten.voids(I)I -/
abbrev rmX10_voids : Room := { frames := 7, cells := 0, slots := 0, locals := 161 }
set_option maxRecDepth 100000 in
theorem hvX10_voids : yX10_voids.cls = RX10 ∧ yX10_voids.cls ≠ "java/lang/invoke/MethodHandle" ∧ yX10_voids.cls ≠ "java/lang/invoke/VarHandle" ∧ (parseMethodDescriptor yX10_voids.desc).map (fun d => d.parameters.length) = some 1 := by decide +kernel
set_option maxRecDepth 100000 in
set_option maxHeartbeats 4000000 in
theorem ct_X10_voids (l : Launch) (D : va_G) (cI cZ cO : ClassId) (a : Nat → Nat) {u : XS} {x1 : Int32} {r : Int32} {o : XS} (hf : f_X10_voids u x1 = some (r, o)) : Ct l yX10_voids (uw (Cond.code yX10_voids cX10_voids 3 (some .int))) rmX10_voids D (tyL cI cZ cO) E0 [.ref (a 0), .int x1] (wX cI cZ cO a u) (some (.int r)) (wX cI cZ cO a o) := by
  refine sm_start (cc := cX10_voids) (maxL := 3) (ret := (some .int)) (own := RX10) (by decide) rfl rfl (Nat.le_of_ble_eq_true rfl) (lv := [(0, .ref (a 0)), (1, .int x1)]) rfl ?_
  intro p e s m below meth c A F hE hA
  unfold f_X10_voids at hf
  refine sm_aload_n F dX10_voids_0 rfl 0 rfl ?_
  refine sm_iload_n F dX10_voids_1 rfl 1 rfl ?_
  refine sm_iconst F dX10_voids_2 kc_i_1 ?_
  refine sm_bipush F dX10_voids_3 kc_b_99 ?_
  obtain ⟨z5, hz5, hf⟩ := bd_some hf
  refine sm_callS (rest := [.ref (a 0)]) F (ct_X10_outside l D (tyL cI cZ cO) hz5) (cut_X_none cI cZ cO a u) rfl rfl rfl qw1_214 qw1_215 qw1_1 qw1_216 hsX10_outside ⟨Nat.le_of_ble_eq_true rfl, Nat.le_of_ble_eq_true rfl⟩ ⟨Nat.zero_le _, Nat.zero_le _⟩ rfl (Nat.le_of_ble_eq_true rfl) E0_b (fun _ _ _ _ _ _ => trivial) rfl dX10_voids_5 [.int z5, .ref (a 0)] rfl ?_
  obtain ⟨z8, hz8, hf⟩ := bd_some hf
  refine sm_callV (rest := []) F (ct_X10_refused l D cI cZ cO a hz8) (cut_X_id cI cZ cO a u z8.2) rfl rfl rfl qw3_74 qw3_76 qw0_15 qw1_1 qw3_77 hvX10_refused ⟨Nat.le_of_ble_eq_true rfl, Nat.le_of_ble_eq_true rfl⟩ ⟨Nat.zero_le _, Nat.zero_le _⟩ 0 10 rfl rfl rfl rfl (Nat.le_of_ble_eq_true rfl) E0_b (fun _ _ _ _ _ _ => trivial) rfl dX10_voids_8 [.int z8.1] rfl ?_
  refine sm_istore_n F [(0, .ref (a 0)), (1, .int x1), (2, .int z8.1)] [1, 2, 0] dX10_voids_11 rfl (by decide) rfl ?_
  refine sm_iload_n F dX10_voids_12 rfl 2 rfl ?_
  refine sm_if_eq (tgt := 20) F dX10_voids_13 (by decide) (fun c13 => ?_) (fun c13 => ?_)
  · replace hf := if_t c13 hf
    refine sm_aload_n F dX10_voids_20 rfl 0 rfl ?_
    refine sm_get (v := .ref (a 16)) F inX10 0 rfl rfl 3 (by decide) qw1_188 rfl rfl dX10_voids_21 ?_
    refine sm_iload_n F dX10_voids_24 rfl 1 rfl ?_
    obtain ⟨z25, hz25, hf⟩ := bd_some hf
    refine sm_callV (rest := []) F (ct_X3_debtsVoid l D cI cZ cO (fun i => a (pm_X_m i)) hz25) (cut_X_m cI cZ cO a z8.2 z25.2) rfl rfl rfl qw4_96 qw4_97 qw4_98 qw1_9 qw4_99 hvX3_debtsVoid ⟨Nat.le_of_ble_eq_true rfl, Nat.le_of_ble_eq_true rfl⟩ ⟨Nat.zero_le _, Nat.zero_le _⟩ 0 3 rfl rfl rfl rfl (Nat.le_of_ble_eq_true rfl) E0_b (fun _ _ _ _ _ _ => trivial) rfl dX10_voids_25 [.int z25.1] rfl ?_
    exact sm_iret F dX10_voids_28 (Prod.mk.inj (Option.some.inj hf)).1 (congrArg (fun z => (wX cI cZ cO a z)) (Prod.mk.inj (Option.some.inj hf)).2)
  · replace hf := if_f c13 hf
    refine sm_iload_n F dX10_voids_16 rfl 2 rfl ?_
    refine sm_goto (tgt := 28) F dX10_voids_17 (by decide) ?_
    exact sm_iret F dX10_voids_28 (Prod.mk.inj (Option.some.inj hf)).1 (congrArg (fun z => (wX cI cZ cO a z)) (Prod.mk.inj (Option.some.inj hf)).2)
/-! SoManyForgotten.hill()I -/
abbrev rmX10_hill : Room := { frames := 2, cells := 0, slots := 0, locals := 45 }
set_option maxRecDepth 100000 in
theorem hvX10_hill : yX10_hill.cls = RX10 ∧ yX10_hill.cls ≠ "java/lang/invoke/MethodHandle" ∧ yX10_hill.cls ≠ "java/lang/invoke/VarHandle" ∧ (parseMethodDescriptor yX10_hill.desc).map (fun d => d.parameters.length) = some 0 := by decide +kernel
set_option maxRecDepth 100000 in
set_option maxHeartbeats 4000000 in
theorem ct_X10_hill (l : Launch) (D : va_G) (cI cZ cO : ClassId) (a : Nat → Nat) {u : XS} {r : Int32} (hf : f_X10_hill u = some r) : Ct l yX10_hill (uw (Cond.code yX10_hill cX10_hill 1 (some .int))) rmX10_hill D (tyL cI cZ cO) E0 [.ref (a 0)] (wX cI cZ cO a u) (some (.int r)) (wX cI cZ cO a u) := by
  refine sm_start (cc := cX10_hill) (maxL := 1) (ret := (some .int)) (own := RX10) (by decide) rfl rfl (Nat.le_of_ble_eq_true rfl) (lv := [(0, .ref (a 0))]) rfl ?_
  intro p e s m below meth c A F hE hA
  unfold f_X10_hill at hf
  refine sm_aload_n F dX10_hill_0 rfl 0 rfl ?_
  refine sm_get (v := .ref (a 22)) F inX10 0 rfl rfl 0 (by decide) qw1_185 rfl rfl dX10_hill_1 ?_
  obtain ⟨z4, hz4, hf⟩ := bd_some hf
  refine sm_callV (rest := []) F (ct_X8_memoryOverTheHill l D cI cZ cO (fun i => a (pm_X_v22 i)) hz4) (cut_X_v22_ro cI cZ cO a u) rfl rfl rfl qw4_104 qw4_105 qw4_106 qw1_8 qw4_107 hvX8_memoryOverTheHill ⟨Nat.le_of_ble_eq_true rfl, Nat.le_of_ble_eq_true rfl⟩ ⟨Nat.zero_le _, Nat.zero_le _⟩ 0 8 rfl rfl rfl rfl (Nat.le_of_ble_eq_true rfl) E0_b (fun _ _ _ _ _ _ => trivial) rfl dX10_hill_4 [.int z4] rfl ?_
  exact sm_iret F dX10_hill_7 (Option.some.inj hf) rfl
/-! SoManyForgotten.refused(IIII)I -/
abbrev rmX10_refused___ : Room := { frames := 1, cells := 0, slots := 0, locals := 21 }
set_option maxRecDepth 100000 in
theorem hvX10_refused___ : yX10_refused___.cls = RX10 ∧ yX10_refused___.cls ≠ "java/lang/invoke/MethodHandle" ∧ yX10_refused___.cls ≠ "java/lang/invoke/VarHandle" ∧ (parseMethodDescriptor yX10_refused___.desc).map (fun d => d.parameters.length) = some 4 := by decide +kernel
set_option maxRecDepth 100000 in
set_option maxHeartbeats 4000000 in
theorem ct_X10_refused___ (l : Launch) (D : va_G) (cI cZ cO : ClassId) (a : Nat → Nat) {u : XS} {x1 : Int32} {x2 : Int32} {x3 : Int32} {x4 : Int32} {r : Int32} {o : XS} (hf : f_X10_refused___ u x1 x2 x3 x4 = some (r, o)) : Ct l yX10_refused___ (uw (Cond.code yX10_refused___ cX10_refused___ 5 (some .int))) rmX10_refused___ D (tyL cI cZ cO) E0 [.ref (a 0), .int x1, .int x2, .int x3, .int x4] (wX cI cZ cO a u) (some (.int r)) (wX cI cZ cO a o) := by
  refine sm_start (cc := cX10_refused___) (maxL := 5) (ret := (some .int)) (own := RX10) (by decide) rfl rfl (Nat.le_of_ble_eq_true rfl) (lv := [(0, .ref (a 0)), (1, .int x1), (2, .int x2), (3, .int x3), (4, .int x4)]) rfl ?_
  intro p e s m below meth c A F hE hA
  unfold f_X10_refused___ at hf
  refine sm_aload_n F dX10_refused____0 rfl 0 rfl ?_
  refine sm_iload_n F dX10_refused____1 rfl 1 rfl ?_
  refine sm_iload_n F dX10_refused____2 rfl 2 rfl ?_
  obtain ⟨z3, hz3, hf⟩ := bd_some hf
  refine sm_callS (rest := [.ref (a 0)]) F (ct_X10_firstThatFits l D (tyL cI cZ cO) hz3) (cut_X_none cI cZ cO a u) rfl rfl rfl qw1_225 qw1_226 qw1_1 qw1_227 hsX10_firstThatFits ⟨Nat.le_of_ble_eq_true rfl, Nat.le_of_ble_eq_true rfl⟩ ⟨Nat.zero_le _, Nat.zero_le _⟩ rfl (Nat.le_of_ble_eq_true rfl) E0_b (fun _ _ _ _ _ _ => trivial) rfl dX10_refused____3 [.int z3, .ref (a 0)] rfl ?_
  refine sm_iload_n F dX10_refused____6 rfl 3 rfl ?_
  refine sm_iload F dX10_refused____7 4 rfl ?_
  obtain ⟨z9, hz9, hf⟩ := bd_some hf
  refine sm_callS (rest := [.int z3, .ref (a 0)]) F (ct_X10_firstThatFits l D (tyL cI cZ cO) hz9) (cut_X_none cI cZ cO a u) rfl rfl rfl qw1_225 qw1_226 qw1_1 qw1_227 hsX10_firstThatFits ⟨Nat.le_of_ble_eq_true rfl, Nat.le_of_ble_eq_true rfl⟩ ⟨Nat.zero_le _, Nat.zero_le _⟩ rfl (Nat.le_of_ble_eq_true rfl) E0_b (fun _ _ _ _ _ _ => trivial) rfl dX10_refused____9 [.int z9, .int z3, .ref (a 0)] rfl ?_
  obtain ⟨z12, hz12, hf⟩ := bd_some hf
  refine sm_callS (rest := [.ref (a 0)]) F (ct_X10_firstThatFits l D (tyL cI cZ cO) hz12) (cut_X_none cI cZ cO a u) rfl rfl rfl qw1_225 qw1_226 qw1_1 qw1_227 hsX10_firstThatFits ⟨Nat.le_of_ble_eq_true rfl, Nat.le_of_ble_eq_true rfl⟩ ⟨Nat.zero_le _, Nat.zero_le _⟩ rfl (Nat.le_of_ble_eq_true rfl) E0_b (fun _ _ _ _ _ _ => trivial) rfl dX10_refused____12 [.int z12, .ref (a 0)] rfl ?_
  obtain ⟨z15, hz15, hf⟩ := bd_some hf
  refine sm_callV (rest := []) F (ct_X10_counted l D cI cZ cO a hz15) (cut_X_id cI cZ cO a u z15.2) rfl rfl rfl qw1_228 qw1_230 qw0_1 qw1_1 qw1_231 hvX10_counted ⟨Nat.le_of_ble_eq_true rfl, Nat.le_of_ble_eq_true rfl⟩ ⟨Nat.zero_le _, Nat.zero_le _⟩ 0 10 rfl rfl rfl rfl (Nat.le_of_ble_eq_true rfl) E0_b (fun _ _ _ _ _ _ => trivial) rfl dX10_refused____15 [.int z15.1] rfl ?_
  exact sm_iret F dX10_refused____18 (Prod.mk.inj (Option.some.inj hf)).1 (congrArg (fun z => (wX cI cZ cO a z)) (Prod.mk.inj (Option.some.inj hf)).2)
/-! SoManyForgotten.two(III)I -/
abbrev rmX10_two : Room := { frames := 7, cells := 0, slots := 0, locals := 166 }
set_option maxRecDepth 100000 in
theorem hvX10_two : yX10_two.cls = RX10 ∧ yX10_two.cls ≠ "java/lang/invoke/MethodHandle" ∧ yX10_two.cls ≠ "java/lang/invoke/VarHandle" ∧ (parseMethodDescriptor yX10_two.desc).map (fun d => d.parameters.length) = some 3 := by decide +kernel
set_option maxRecDepth 100000 in
set_option maxHeartbeats 4000000 in
theorem ct_X10_two (l : Launch) (D : va_G) (cI cZ cO : ClassId) (a : Nat → Nat) {u : XS} {x1 : Int32} {x2 : Int32} {x3 : Int32} {r : Int32} {o : XS} (hf : f_X10_two u x1 x2 x3 = some (r, o)) : Ct l yX10_two (uw (Cond.code yX10_two cX10_two 5 (some .int))) rmX10_two D (tyL cI cZ cO) E0 [.ref (a 0), .int x1, .int x2, .int x3] (wX cI cZ cO a u) (some (.int r)) (wX cI cZ cO a o) := by
  refine sm_start (cc := cX10_two) (maxL := 5) (ret := (some .int)) (own := RX10) (by decide) rfl rfl (Nat.le_of_ble_eq_true rfl) (lv := [(0, .ref (a 0)), (1, .int x1), (2, .int x2), (3, .int x3)]) rfl ?_
  intro p e s m below meth c A F hE hA
  unfold f_X10_two at hf
  refine sm_aload_n F dX10_two_0 rfl 0 rfl ?_
  refine sm_aload_n F dX10_two_1 rfl 0 rfl ?_
  refine sm_iload_n F dX10_two_2 rfl 1 rfl ?_
  refine sm_iload_n F dX10_two_3 rfl 2 rfl ?_
  obtain ⟨z4, hz4, hf⟩ := bd_some hf
  refine sm_callV (rest := [.ref (a 0)]) F (ct_X10_notTwo l D cI cZ cO a hz4) (cut_X_id cI cZ cO a u u) rfl rfl rfl qw3_69 qw3_71 qw0_14 qw1_1 qw3_72 hvX10_notTwo ⟨Nat.le_of_ble_eq_true rfl, Nat.le_of_ble_eq_true rfl⟩ ⟨Nat.zero_le _, Nat.zero_le _⟩ 0 10 rfl rfl rfl rfl (Nat.le_of_ble_eq_true rfl) E0_b (fun _ _ _ _ _ _ => trivial) rfl dX10_two_4 [.int z4, .ref (a 0)] rfl ?_
  refine sm_iload_n F dX10_two_7 rfl 3 rfl ?_
  refine sm_iconst F dX10_two_8 kc_i_0 ?_
  refine sm_bipush F dX10_two_9 kc_b_30 ?_
  obtain ⟨z11, hz11, hf⟩ := bd_some hf
  refine sm_callS (rest := [.int z4, .ref (a 0)]) F (ct_X10_outside l D (tyL cI cZ cO) hz11) (cut_X_none cI cZ cO a u) rfl rfl rfl qw1_214 qw1_215 qw1_1 qw1_216 hsX10_outside ⟨Nat.le_of_ble_eq_true rfl, Nat.le_of_ble_eq_true rfl⟩ ⟨Nat.zero_le _, Nat.zero_le _⟩ rfl (Nat.le_of_ble_eq_true rfl) E0_b (fun _ _ _ _ _ _ => trivial) rfl dX10_two_11 [.int z11, .int z4, .ref (a 0)] rfl ?_
  refine sm_aload_n F dX10_two_14 rfl 0 rfl ?_
  refine sm_iload_n F dX10_two_15 rfl 1 rfl ?_
  obtain ⟨z16, hz16, hf⟩ := bd_some hf
  refine sm_callV (rest := [.int z11, .int z4, .ref (a 0)]) F (ct_X10_forgotten l D cI cZ cO a hz16) (cut_X_id cI cZ cO a u u) rfl rfl rfl qw3_91 qw3_93 qw0_16 qw1_1 qw3_94 hvX10_forgotten ⟨Nat.le_of_ble_eq_true rfl, Nat.le_of_ble_eq_true rfl⟩ ⟨Nat.zero_le _, Nat.zero_le _⟩ 0 10 rfl rfl rfl rfl (Nat.le_of_ble_eq_true rfl) E0_b (fun _ _ _ _ _ _ => trivial) rfl dX10_two_16 [.int z16, .int z11, .int z4, .ref (a 0)] rfl ?_
  refine sm_aload_n F dX10_two_19 rfl 0 rfl ?_
  refine sm_iload_n F dX10_two_20 rfl 2 rfl ?_
  obtain ⟨z21, hz21, hf⟩ := bd_some hf
  refine sm_callV (rest := [.int z16, .int z11, .int z4, .ref (a 0)]) F (ct_X10_forgotten l D cI cZ cO a hz21) (cut_X_id cI cZ cO a u u) rfl rfl rfl qw3_91 qw3_93 qw0_16 qw1_1 qw3_94 hvX10_forgotten ⟨Nat.le_of_ble_eq_true rfl, Nat.le_of_ble_eq_true rfl⟩ ⟨Nat.zero_le _, Nat.zero_le _⟩ 0 10 rfl rfl rfl rfl (Nat.le_of_ble_eq_true rfl) E0_b (fun _ _ _ _ _ _ => trivial) rfl dX10_two_21 [.int z21, .int z16, .int z11, .int z4, .ref (a 0)] rfl ?_
  obtain ⟨z24, hz24, hf⟩ := bd_some hf
  refine sm_callV (rest := []) F (ct_X10_refused___ l D cI cZ cO a hz24) (cut_X_id cI cZ cO a u z24.2) rfl rfl rfl qw4_112 qw4_114 qw0_23 qw1_1 qw4_115 hvX10_refused___ ⟨Nat.le_of_ble_eq_true rfl, Nat.le_of_ble_eq_true rfl⟩ ⟨Nat.zero_le _, Nat.zero_le _⟩ 0 10 rfl rfl rfl rfl (Nat.le_of_ble_eq_true rfl) E0_b (fun _ _ _ _ _ _ => trivial) rfl dX10_two_24 [.int z24.1] rfl ?_
  refine sm_istore F [(0, .ref (a 0)), (1, .int x1), (2, .int x2), (3, .int x3), (4, .int z24.1)] [1, 2, 3, 4, 0] dX10_two_27 (by decide) rfl ?_
  refine sm_iload F dX10_two_29 4 rfl ?_
  refine sm_if_eq (tgt := 39) F dX10_two_31 (by decide) (fun c31 => ?_) (fun c31 => ?_)
  · replace hf := if_t c31 hf
    refine sm_aload_n F dX10_two_39 rfl 0 rfl ?_
    refine sm_get (v := .ref (a 16)) F inX10 0 rfl rfl 3 (by decide) qw1_188 rfl rfl dX10_two_40 ?_
    refine sm_iload_n F dX10_two_43 rfl 1 rfl ?_
    refine sm_iload_n F dX10_two_44 rfl 2 rfl ?_
    refine sm_iload_n F dX10_two_45 rfl 3 rfl ?_
    obtain ⟨z46, hz46, hf⟩ := bd_some hf
    refine sm_callV (rest := []) F (ct_X3_settled l D cI cZ cO (fun i => a (pm_X_m i)) hz46) (cut_X_m cI cZ cO a z24.2 z46.2) rfl rfl rfl qw4_116 qw4_117 qw4_118 qw1_9 qw4_119 hvX3_settled ⟨Nat.le_of_ble_eq_true rfl, Nat.le_of_ble_eq_true rfl⟩ ⟨Nat.zero_le _, Nat.zero_le _⟩ 0 3 rfl rfl rfl rfl (Nat.le_of_ble_eq_true rfl) E0_b (fun _ _ _ _ _ _ => trivial) rfl dX10_two_46 [.int z46.1] rfl ?_
    exact sm_iret F dX10_two_49 (Prod.mk.inj (Option.some.inj hf)).1 (congrArg (fun z => (wX cI cZ cO a z)) (Prod.mk.inj (Option.some.inj hf)).2)
  · replace hf := if_f c31 hf
    refine sm_iload F dX10_two_34 4 rfl ?_
    refine sm_goto (tgt := 49) F dX10_two_36 (by decide) ?_
    exact sm_iret F dX10_two_49 (Prod.mk.inj (Option.some.inj hf)).1 (congrArg (fun z => (wX cI cZ cO a z)) (Prod.mk.inj (Option.some.inj hf)).2)
/-! SoManyForgotten.mean(I)J -/
abbrev rmX10_mean : Room := { frames := 2, cells := 0, slots := 0, locals := 56 }
set_option maxRecDepth 100000 in
theorem hvX10_mean : yX10_mean.cls = RX10 ∧ yX10_mean.cls ≠ "java/lang/invoke/MethodHandle" ∧ yX10_mean.cls ≠ "java/lang/invoke/VarHandle" ∧ (parseMethodDescriptor yX10_mean.desc).map (fun d => d.parameters.length) = some 1 := by decide +kernel
set_option maxRecDepth 100000 in
set_option maxHeartbeats 4000000 in
theorem ct_X10_mean (l : Launch) (D : va_G) (cI cZ cO : ClassId) (a : Nat → Nat) {u : XS} {x1 : Int32} {r : Int64} {o : XS} (hf : f_X10_mean u x1 = some (r, o)) : Ct l yX10_mean (uw (Cond.code yX10_mean cX10_mean 3 (some .long))) rmX10_mean D (tyL cI cZ cO) E0 [.ref (a 0), .int x1] (wX cI cZ cO a u) (some (.long r)) (wX cI cZ cO a o) := by
  refine sm_start (cc := cX10_mean) (maxL := 3) (ret := (some .long)) (own := RX10) (by decide) rfl rfl (Nat.le_of_ble_eq_true rfl) (lv := [(0, .ref (a 0)), (1, .int x1)]) rfl ?_
  intro p e s m below meth c A F hE hA
  unfold f_X10_mean at hf
  refine sm_aload_n F dX10_mean_0 rfl 0 rfl ?_
  refine sm_iload_n F dX10_mean_1 rfl 1 rfl ?_
  refine sm_iconst F dX10_mean_2 kc_i_1 ?_
  obtain ⟨z3, hz3, hf⟩ := bd_some hf
  refine sm_callS (rest := [.ref (a 0)]) F (ct_X10_wrongWhat l D (tyL cI cZ cO) hz3) (cut_X_none cI cZ cO a u) rfl rfl rfl qw3_57 qw3_58 qw1_1 qw3_59 hsX10_wrongWhat ⟨Nat.le_of_ble_eq_true rfl, Nat.le_of_ble_eq_true rfl⟩ ⟨Nat.zero_le _, Nat.zero_le _⟩ rfl (Nat.le_of_ble_eq_true rfl) E0_b (fun _ _ _ _ _ _ => trivial) rfl dX10_mean_3 [.int z3, .ref (a 0)] rfl ?_
  obtain ⟨z6, hz6, hf⟩ := bd_some hf
  refine sm_callV (rest := []) F (ct_X10_refused l D cI cZ cO a hz6) (cut_X_id cI cZ cO a u z6.2) rfl rfl rfl qw3_74 qw3_76 qw0_15 qw1_1 qw3_77 hvX10_refused ⟨Nat.le_of_ble_eq_true rfl, Nat.le_of_ble_eq_true rfl⟩ ⟨Nat.zero_le _, Nat.zero_le _⟩ 0 10 rfl rfl rfl rfl (Nat.le_of_ble_eq_true rfl) E0_b (fun _ _ _ _ _ _ => trivial) rfl dX10_mean_6 [.int z6.1] rfl ?_
  refine sm_istore_n F [(0, .ref (a 0)), (1, .int x1), (2, .int z6.1)] [1, 2, 0] dX10_mean_9 rfl (by decide) rfl ?_
  refine sm_iload_n F dX10_mean_10 rfl 2 rfl ?_
  refine sm_if_eq (tgt := 21) F dX10_mean_11 (by decide) (fun c11 => ?_) (fun c11 => ?_)
  · replace hf := if_t c11 hf
    refine sm_aload_n F dX10_mean_21 rfl 0 rfl ?_
    refine sm_get (v := .ref (a 22)) F inX10 0 rfl rfl 0 (by decide) qw1_185 rfl rfl dX10_mean_22 ?_
    obtain ⟨z25, hz25, hf⟩ := bd_some hf
    refine sm_callV (rest := []) F (ct_X8_knownTogether l D cI cZ cO (fun i => a (pm_X_v22 i)) hz25) (cut_X_v22_ro cI cZ cO a z6.2) rfl rfl rfl qw4_161 qw4_162 qw4_163 qw1_8 qw4_164 hvX8_knownTogether ⟨Nat.le_of_ble_eq_true rfl, Nat.le_of_ble_eq_true rfl⟩ ⟨Nat.zero_le _, Nat.zero_le _⟩ 0 8 rfl rfl rfl rfl (Nat.le_of_ble_eq_true rfl) E0_b (fun _ _ _ _ _ _ => trivial) rfl dX10_mean_25 [.int z25] rfl ?_
    refine sm_i2l F dX10_mean_28 ?_
    refine sm_iconst F dX10_mean_29 kc_i_1 ?_
    refine sm_aload_n F dX10_mean_30 rfl 0 rfl ?_
    refine sm_get (v := .ref (a 22)) F inX10 0 rfl rfl 0 (by decide) qw1_185 rfl rfl dX10_mean_31 ?_
    obtain ⟨z34, hz34, hf⟩ := bd_some hf
    refine sm_callV (rest := [.int (1 : Int32), .long (Int32.toInt64 z25)]) F (ct_X8_countHere l D cI cZ cO (fun i => a (pm_X_v22 i)) hz34) (cut_X_v22_ro cI cZ cO a z6.2) rfl rfl rfl qw3_110 qw3_111 qw3_112 qw1_8 qw3_113 hvX8_countHere ⟨Nat.le_of_ble_eq_true rfl, Nat.le_of_ble_eq_true rfl⟩ ⟨Nat.zero_le _, Nat.zero_le _⟩ 0 8 rfl rfl rfl rfl (Nat.le_of_ble_eq_true rfl) E0_b (fun _ _ _ _ _ _ => trivial) rfl dX10_mean_34 [.int z34, .int (1 : Int32), .long (Int32.toInt64 z25)] rfl ?_
    refine sm_mmax F qw4_165 qw2_98 qw1_18 qw2_99 (Nat.le_of_ble_eq_true rfl) (Nat.le_of_ble_eq_true rfl) (Nat.zero_le _) (Nat.zero_le _) dX10_mean_37 ?_
    refine sm_i2l F dX10_mean_40 ?_
    refine sm_iload_n F dX10_mean_41 rfl 1 rfl ?_
    obtain ⟨z42, hz42, hf⟩ := bd_some hf
    refine sm_callS (rest := []) F (ct_X10_partOf l D (tyL cI cZ cO) hz42) (cut_X_none cI cZ cO a z6.2) rfl rfl rfl qw4_151 qw4_152 qw1_1 qw4_153 hsX10_partOf ⟨Nat.le_of_ble_eq_true rfl, Nat.le_of_ble_eq_true rfl⟩ ⟨Nat.zero_le _, Nat.zero_le _⟩ rfl (Nat.le_of_ble_eq_true rfl) E0_b (fun _ _ _ _ _ _ => trivial) rfl dX10_mean_42 [.long z42] rfl ?_
    exact sm_lret F dX10_mean_45 (Prod.mk.inj (Option.some.inj hf)).1 (congrArg (fun z => (wX cI cZ cO a z)) (Prod.mk.inj (Option.some.inj hf)).2)
  · replace hf := if_f c11 hf
    refine sm_ldc2 (v := 4000000000000000000) F qw4_134 dX10_mean_14 ?_
    refine sm_iload_n F dX10_mean_17 rfl 2 rfl ?_
    refine sm_i2l F dX10_mean_18 ?_
    refine sm_lsub F dX10_mean_19 ?_
    exact sm_lret F dX10_mean_20 (Prod.mk.inj (Option.some.inj hf)).1 (congrArg (fun z => (wX cI cZ cO a z)) (Prod.mk.inj (Option.some.inj hf)).2)
/-! SoManyForgotten.whatIs(III)I -/
abbrev rmX10_whatIs : Room := { frames := 6, cells := 0, slots := 0, locals := 143 }
set_option maxRecDepth 100000 in
theorem hvX10_whatIs : yX10_whatIs.cls = RX10 ∧ yX10_whatIs.cls ≠ "java/lang/invoke/MethodHandle" ∧ yX10_whatIs.cls ≠ "java/lang/invoke/VarHandle" ∧ (parseMethodDescriptor yX10_whatIs.desc).map (fun d => d.parameters.length) = some 3 := by decide +kernel
set_option maxRecDepth 100000 in
set_option maxHeartbeats 4000000 in
theorem ct_X10_whatIs (l : Launch) (D : va_G) (cI cZ cO : ClassId) (a : Nat → Nat) {u : XS} {x1 : Int32} {x2 : Int32} {x3 : Int32} {r : Int32} {o : XS} (hf : f_X10_whatIs u x1 x2 x3 = some (r, o)) : Ct l yX10_whatIs (uw (Cond.code yX10_whatIs cX10_whatIs 5 (some .int))) rmX10_whatIs D (tyL cI cZ cO) E0 [.ref (a 0), .int x1, .int x2, .int x3] (wX cI cZ cO a u) (some (.int r)) (wX cI cZ cO a o) := by
  refine sm_start (cc := cX10_whatIs) (maxL := 5) (ret := (some .int)) (own := RX10) (by decide) rfl rfl (Nat.le_of_ble_eq_true rfl) (lv := [(0, .ref (a 0)), (1, .int x1), (2, .int x2), (3, .int x3)]) rfl ?_
  intro p e s m below meth c A F hE hA
  unfold f_X10_whatIs at hf
  refine sm_aload_n F dX10_whatIs_0 rfl 0 rfl ?_
  refine sm_aload_n F dX10_whatIs_1 rfl 0 rfl ?_
  refine sm_iload_n F dX10_whatIs_2 rfl 1 rfl ?_
  refine sm_iload_n F dX10_whatIs_3 rfl 2 rfl ?_
  obtain ⟨z4, hz4, hf⟩ := bd_some hf
  refine sm_callV (rest := [.ref (a 0)]) F (ct_X10_notTwo l D cI cZ cO a hz4) (cut_X_id cI cZ cO a u u) rfl rfl rfl qw3_69 qw3_71 qw0_14 qw1_1 qw3_72 hvX10_notTwo ⟨Nat.le_of_ble_eq_true rfl, Nat.le_of_ble_eq_true rfl⟩ ⟨Nat.zero_le _, Nat.zero_le _⟩ 0 10 rfl rfl rfl rfl (Nat.le_of_ble_eq_true rfl) E0_b (fun _ _ _ _ _ _ => trivial) rfl dX10_whatIs_4 [.int z4, .ref (a 0)] rfl ?_
  refine sm_iload_n F dX10_whatIs_7 rfl 3 rfl ?_
  refine sm_iconst F dX10_whatIs_8 kc_i_1 ?_
  obtain ⟨z9, hz9, hf⟩ := bd_some hf
  refine sm_callS (rest := [.int z4, .ref (a 0)]) F (ct_X10_wrongWhat l D (tyL cI cZ cO) hz9) (cut_X_none cI cZ cO a u) rfl rfl rfl qw3_57 qw3_58 qw1_1 qw3_59 hsX10_wrongWhat ⟨Nat.le_of_ble_eq_true rfl, Nat.le_of_ble_eq_true rfl⟩ ⟨Nat.zero_le _, Nat.zero_le _⟩ rfl (Nat.le_of_ble_eq_true rfl) E0_b (fun _ _ _ _ _ _ => trivial) rfl dX10_whatIs_9 [.int z9, .int z4, .ref (a 0)] rfl ?_
  obtain ⟨z12, hz12, hf⟩ := bd_some hf
  refine sm_callV (rest := []) F (ct_X10_refused_ l D cI cZ cO a hz12) (cut_X_id cI cZ cO a u z12.2) rfl rfl rfl qw1_221 qw1_223 qw0_0 qw1_1 qw1_224 hvX10_refused_ ⟨Nat.le_of_ble_eq_true rfl, Nat.le_of_ble_eq_true rfl⟩ ⟨Nat.zero_le _, Nat.zero_le _⟩ 0 10 rfl rfl rfl rfl (Nat.le_of_ble_eq_true rfl) E0_b (fun _ _ _ _ _ _ => trivial) rfl dX10_whatIs_12 [.int z12.1] rfl ?_
  refine sm_istore F [(0, .ref (a 0)), (1, .int x1), (2, .int x2), (3, .int x3), (4, .int z12.1)] [1, 2, 3, 4, 0] dX10_whatIs_15 (by decide) rfl ?_
  refine sm_iload F dX10_whatIs_17 4 rfl ?_
  refine sm_if_eq (tgt := 25) F dX10_whatIs_19 (by decide) (fun c19 => ?_) (fun c19 => ?_)
  · replace hf := if_t c19 hf
    refine sm_iload_n F dX10_whatIs_25 rfl 3 rfl ?_
    refine sm_if_ne (tgt := 45) F dX10_whatIs_26 (by decide) (fun c26 => ?_) (fun c26 => ?_)
    · replace hf := if_f c26 hf
      refine sm_aload_n F dX10_whatIs_45 rfl 0 rfl ?_
      refine sm_get (v := .ref (a 16)) F inX10 0 rfl rfl 3 (by decide) qw1_188 rfl rfl dX10_whatIs_46 ?_
      refine sm_iload_n F dX10_whatIs_49 rfl 1 rfl ?_
      refine sm_iload_n F dX10_whatIs_50 rfl 2 rfl ?_
      refine sm_aload_n F dX10_whatIs_51 rfl 0 rfl ?_
      refine sm_get (v := .ref (a 20)) F inX10 0 rfl rfl 5 (by decide) qw1_190 rfl rfl dX10_whatIs_52 ?_
      obtain ⟨z55, hz55, hf⟩ := bd_some hf
      refine sm_callV (rest := []) F (ct_X3_figuresThatFit l D cI cZ cO (fun i => a (pm_X_m i)) hz55) (cut_X_m cI cZ cO a z12.2 z55.2) rfl rfl rfl qw4_179 qw4_180 qw4_181 qw1_9 qw4_182 hvX3_figuresThatFit ⟨Nat.le_of_ble_eq_true rfl, Nat.le_of_ble_eq_true rfl⟩ ⟨Nat.zero_le _, Nat.zero_le _⟩ 0 3 rfl rfl rfl rfl (Nat.le_of_ble_eq_true rfl) E0_b (fun _ _ _ _ _ _ => trivial) rfl dX10_whatIs_55 [.int z55.1] rfl ?_
      exact sm_iret F dX10_whatIs_58 (Prod.mk.inj (Option.some.inj hf)).1 (congrArg (fun z => (wX cI cZ cO a z)) (Prod.mk.inj (Option.some.inj hf)).2)
    · replace hf := if_t c26 hf
      refine sm_aload_n F dX10_whatIs_29 rfl 0 rfl ?_
      refine sm_get (v := .ref (a 16)) F inX10 0 rfl rfl 3 (by decide) qw1_188 rfl rfl dX10_whatIs_30 ?_
      refine sm_iload_n F dX10_whatIs_33 rfl 1 rfl ?_
      refine sm_iload_n F dX10_whatIs_34 rfl 2 rfl ?_
      refine sm_aload_n F dX10_whatIs_35 rfl 0 rfl ?_
      refine sm_get (v := .ref (a 20)) F inX10 0 rfl rfl 5 (by decide) qw1_190 rfl rfl dX10_whatIs_36 ?_
      obtain ⟨z39, hz39, hf⟩ := bd_some hf
      refine sm_callV (rest := []) F (ct_X3_kindsThatFit l D cI cZ cO (fun i => a (pm_X_m i)) hz39) (cut_X_m cI cZ cO a z12.2 z39.2) rfl rfl rfl qw4_170 qw4_171 qw4_172 qw1_9 qw4_173 hvX3_kindsThatFit ⟨Nat.le_of_ble_eq_true rfl, Nat.le_of_ble_eq_true rfl⟩ ⟨Nat.zero_le _, Nat.zero_le _⟩ 0 3 rfl rfl rfl rfl (Nat.le_of_ble_eq_true rfl) E0_b (fun _ _ _ _ _ _ => trivial) rfl dX10_whatIs_39 [.int z39.1] rfl ?_
      refine sm_goto (tgt := 58) F dX10_whatIs_42 (by decide) ?_
      exact sm_iret F dX10_whatIs_58 (Prod.mk.inj (Option.some.inj hf)).1 (congrArg (fun z => (wX cI cZ cO a z)) (Prod.mk.inj (Option.some.inj hf)).2)
  · replace hf := if_f c19 hf
    refine sm_iload F dX10_whatIs_22 4 rfl ?_
    exact sm_iret F dX10_whatIs_24 (Prod.mk.inj (Option.some.inj hf)).1 (congrArg (fun z => (wX cI cZ cO a z)) (Prod.mk.inj (Option.some.inj hf)).2)
/-! SoManyForgotten.row(I)I -/
abbrev rmX10_row : Room := { frames := 2, cells := 0, slots := 0, locals := 43 }
set_option maxRecDepth 100000 in
theorem hvX10_row : yX10_row.cls = RX10 ∧ yX10_row.cls ≠ "java/lang/invoke/MethodHandle" ∧ yX10_row.cls ≠ "java/lang/invoke/VarHandle" ∧ (parseMethodDescriptor yX10_row.desc).map (fun d => d.parameters.length) = some 1 := by decide +kernel
set_option maxRecDepth 100000 in
set_option maxHeartbeats 4000000 in
theorem s_X10_row_24 {p : Program} {l : Launch} {e : Env} {s : State} {m : MethodId} {args : Array Value} {below : List Frame} {meth : Method} {c : Code} {A : Nat → Prop} {D : va_G} {cI cZ cO : ClassId} {a : Nat → Nat} {r : Int32} {o : XS} (F : smF p s m args meth c cX10_row 3 (some .int) RX10 D (tyL cI cZ cO) A) (x1 : Int32)  (u : XS) (y0 : Int32) (y1 : Int32) (hf : f_X10_row_24 x1   u y0 y1 = some (r, o)) : Sm p l e rmX10_row s m args below meth c D A 3 0 0 (smQ below args s D A (some (.int r)) (wX cI cZ cO a o)) 24 [(0, .ref (a 0)), (1, .int x1)] [.int y0, .int y1, .ref (a 0)] (wX cI cZ cO a u) := by
  unfold f_X10_row_24 at hf
  obtain ⟨z24, hz24, hf⟩ := bd_some hf
  refine sm_callV (rest := []) F (ct_X10_refused_ l D cI cZ cO a hz24) (cut_X_id cI cZ cO a u z24.2) rfl rfl rfl qw1_221 qw1_223 qw0_0 qw1_1 qw1_224 hvX10_refused_ ⟨Nat.le_of_ble_eq_true rfl, Nat.le_of_ble_eq_true rfl⟩ ⟨Nat.zero_le _, Nat.zero_le _⟩ 0 10 rfl rfl rfl rfl (Nat.le_of_ble_eq_true rfl) E0_b (fun _ _ _ _ _ _ => trivial) rfl dX10_row_24 [.int z24.1] rfl ?_
  refine sm_istore_n F [(0, .ref (a 0)), (1, .int x1), (2, .int z24.1)] [1, 2, 0] dX10_row_27 rfl (by decide) rfl ?_
  refine sm_iload_n F dX10_row_28 rfl 2 rfl ?_
  refine sm_if_eq (tgt := 36) F dX10_row_29 (by decide) (fun c29 => ?_) (fun c29 => ?_)
  · replace hf := if_t c29 hf
    refine sm_aload_n F dX10_row_36 rfl 0 rfl ?_
    refine sm_get (v := .ref (a 20)) F inX10 0 rfl rfl 5 (by decide) qw1_190 rfl rfl dX10_row_37 ?_
    refine sm_iload_n F dX10_row_40 rfl 1 rfl ?_
    obtain ⟨z41, hz41, hf⟩ := bd_some hf
    refine sm_callV (rest := []) F (ct_X6_add l D cI cZ cO (fun i => a (pm_X_r i)) hz41) (cut_X_r cI cZ cO a z24.2 z41.2) rfl rfl rfl qw4_191 qw4_192 qw4_193 qw1_11 qw4_194 hvX6_add ⟨Nat.le_of_ble_eq_true rfl, Nat.le_of_ble_eq_true rfl⟩ ⟨Nat.zero_le _, Nat.zero_le _⟩ 0 6 rfl rfl rfl rfl (Nat.le_of_ble_eq_true rfl) E0_b (fun _ _ _ _ _ _ => trivial) rfl dX10_row_41 [.int z41.1] rfl ?_
    exact sm_iret F dX10_row_44 (Prod.mk.inj (Option.some.inj hf)).1 (congrArg (fun z => (wX cI cZ cO a z)) (Prod.mk.inj (Option.some.inj hf)).2)
  · replace hf := if_f c29 hf
    refine sm_iload_n F dX10_row_32 rfl 2 rfl ?_
    refine sm_goto (tgt := 44) F dX10_row_33 (by decide) ?_
    exact sm_iret F dX10_row_44 (Prod.mk.inj (Option.some.inj hf)).1 (congrArg (fun z => (wX cI cZ cO a z)) (Prod.mk.inj (Option.some.inj hf)).2)
set_option maxRecDepth 100000 in
set_option maxHeartbeats 4000000 in
theorem ct_X10_row (l : Launch) (D : va_G) (cI cZ cO : ClassId) (a : Nat → Nat) {u : XS} {x1 : Int32} {r : Int32} {o : XS} (hf : f_X10_row u x1 = some (r, o)) : Ct l yX10_row (uw (Cond.code yX10_row cX10_row 3 (some .int))) rmX10_row D (tyL cI cZ cO) E0 [.ref (a 0), .int x1] (wX cI cZ cO a u) (some (.int r)) (wX cI cZ cO a o) := by
  refine sm_start (cc := cX10_row) (maxL := 3) (ret := (some .int)) (own := RX10) (by decide) rfl rfl (Nat.le_of_ble_eq_true rfl) (lv := [(0, .ref (a 0)), (1, .int x1)]) rfl ?_
  intro p e s m below meth c A F hE hA
  unfold f_X10_row at hf
  refine sm_aload_n F dX10_row_0 rfl 0 rfl ?_
  refine sm_iload_n F dX10_row_1 rfl 1 rfl ?_
  refine sm_iconst F dX10_row_2 kc_i_0 ?_
  refine sm_bipush F dX10_row_3 kc_b_99 ?_
  obtain ⟨z5, hz5, hf⟩ := bd_some hf
  refine sm_callS (rest := [.ref (a 0)]) F (ct_X10_outside l D (tyL cI cZ cO) hz5) (cut_X_none cI cZ cO a u) rfl rfl rfl qw1_214 qw1_215 qw1_1 qw1_216 hsX10_outside ⟨Nat.le_of_ble_eq_true rfl, Nat.le_of_ble_eq_true rfl⟩ ⟨Nat.zero_le _, Nat.zero_le _⟩ rfl (Nat.le_of_ble_eq_true rfl) E0_b (fun _ _ _ _ _ _ => trivial) rfl dX10_row_5 [.int z5, .ref (a 0)] rfl ?_
  refine sm_aload_n F dX10_row_8 rfl 0 rfl ?_
  refine sm_get (v := .ref (a 20)) F inX10 0 rfl rfl 5 (by decide) qw1_190 rfl rfl dX10_row_9 ?_
  obtain ⟨z12, hz12, hf⟩ := bd_some hf
  refine sm_callV (rest := [.int z5, .ref (a 0)]) F (ct_X6_isFull l D cI cZ cO (fun i => a (pm_X_r i)) hz12) (cut_X_r_ro cI cZ cO a u) rfl rfl rfl qw4_187 qw4_188 qw4_189 qw1_11 qw4_190 hvX6_isFull ⟨Nat.le_of_ble_eq_true rfl, Nat.le_of_ble_eq_true rfl⟩ ⟨Nat.zero_le _, Nat.zero_le _⟩ 0 6 rfl rfl rfl rfl (Nat.le_of_ble_eq_true rfl) E0_b (fun _ _ _ _ _ _ => trivial) rfl dX10_row_12 [.int z12, .int z5, .ref (a 0)] rfl ?_
  refine sm_if_eq (tgt := 23) F dX10_row_15 (by decide) (fun c15 => ?_) (fun c15 => ?_)
  · replace hf := if_t c15 hf
    refine sm_iconst F dX10_row_23 kc_i_0 ?_
    exact s_X10_row_24 F x1 u (0 : Int32) z5 hf
  · replace hf := if_f c15 hf
    refine sm_bipush F dX10_row_18 kc_b_m6 ?_
    refine sm_goto (tgt := 24) F dX10_row_20 (by decide) ?_
    exact s_X10_row_24 F x1 u ((-6) : Int32) z5 hf
/-! SoManyForgotten.judge()I -/
abbrev rmX10_judge : Room := { frames := 5, cells := 0, slots := 0, locals := 116 }
set_option maxRecDepth 100000 in
theorem hvX10_judge : yX10_judge.cls = RX10 ∧ yX10_judge.cls ≠ "java/lang/invoke/MethodHandle" ∧ yX10_judge.cls ≠ "java/lang/invoke/VarHandle" ∧ (parseMethodDescriptor yX10_judge.desc).map (fun d => d.parameters.length) = some 0 := by decide +kernel
set_option maxRecDepth 100000 in
set_option maxHeartbeats 4000000 in
theorem ct_X10_judge (l : Launch) (D : va_G) (cI cZ cO : ClassId) (a : Nat → Nat) {u : XS} {r : Int32} {o : XS} (hf : f_X10_judge u = some (r, o)) : Ct l yX10_judge (uw (Cond.code yX10_judge cX10_judge 2 (some .int))) rmX10_judge D (tyL cI cZ cO) E0 [.ref (a 0)] (wX cI cZ cO a u) (some (.int r)) (wX cI cZ cO a o) := by
  refine sm_start (cc := cX10_judge) (maxL := 2) (ret := (some .int)) (own := RX10) (by decide) rfl rfl (Nat.le_of_ble_eq_true rfl) (lv := [(0, .ref (a 0))]) rfl ?_
  intro p e s m below meth c A F hE hA
  unfold f_X10_judge at hf
  refine sm_aload_n F dX10_judge_0 rfl 0 rfl ?_
  refine sm_get (v := .ref (a 16)) F inX10 0 rfl rfl 3 (by decide) qw1_188 rfl rfl dX10_judge_1 ?_
  refine sm_aload_n F dX10_judge_4 rfl 0 rfl ?_
  refine sm_get (v := .ref (a 20)) F inX10 0 rfl rfl 5 (by decide) qw1_190 rfl rfl dX10_judge_5 ?_
  obtain ⟨z8, hz8, hf⟩ := bd_some hf
  refine sm_callV (rest := []) F (ct_X3_firstNotSo l D cI cZ cO (fun i => a (pm_X_m i)) hz8) (cut_X_m cI cZ cO a u z8.2) rfl rfl rfl qw4_199 qw4_200 qw4_201 qw1_9 qw4_202 hvX3_firstNotSo ⟨Nat.le_of_ble_eq_true rfl, Nat.le_of_ble_eq_true rfl⟩ ⟨Nat.zero_le _, Nat.zero_le _⟩ 0 3 rfl rfl rfl rfl (Nat.le_of_ble_eq_true rfl) E0_b (fun _ _ _ _ _ _ => trivial) rfl dX10_judge_8 [.int z8.1] rfl ?_
  refine sm_istore_n F [(0, .ref (a 0)), (1, .int z8.1)] [1, 0] dX10_judge_11 rfl (by decide) rfl ?_
  refine sm_aload_n F dX10_judge_12 rfl 0 rfl ?_
  refine sm_get (v := .ref (a 20)) F inX10 0 rfl rfl 5 (by decide) qw1_190 rfl rfl dX10_judge_13 ?_
  obtain ⟨z16, hz16, hf⟩ := bd_some hf
  refine sm_callV (rest := []) F (ct_X6_empty l D cI cZ cO (fun i => a (pm_X_r i)) hz16) (cut_X_r cI cZ cO a (sX_mind u z8.2) z16.2) rfl rfl rfl qw4_203 qw4_204 qw4_205 qw1_11 qw4_206 hvX6_empty ⟨Nat.le_of_ble_eq_true rfl, Nat.le_of_ble_eq_true rfl⟩ ⟨Nat.zero_le _, Nat.zero_le _⟩ 0 6 rfl rfl rfl rfl (Nat.le_of_ble_eq_true rfl) E0_b (fun _ _ _ _ _ _ => trivial) rfl dX10_judge_16 [.int z16.1] rfl ?_
  refine sm_pop F dX10_judge_19 rfl ?_
  refine sm_iload_n F dX10_judge_20 rfl 1 rfl ?_
  exact sm_iret F dX10_judge_21 (Prod.mk.inj (Option.some.inj hf)).1 (congrArg (fun z => (wX cI cZ cO a z)) (Prod.mk.inj (Option.some.inj hf)).2)
/-! SoManyForgotten.clear()I -/
abbrev rmX10_clear : Room := { frames := 1, cells := 0, slots := 0, locals := 21 }
set_option maxRecDepth 100000 in
theorem hvX10_clear : yX10_clear.cls = RX10 ∧ yX10_clear.cls ≠ "java/lang/invoke/MethodHandle" ∧ yX10_clear.cls ≠ "java/lang/invoke/VarHandle" ∧ (parseMethodDescriptor yX10_clear.desc).map (fun d => d.parameters.length) = some 0 := by decide +kernel
set_option maxRecDepth 100000 in
set_option maxHeartbeats 4000000 in
theorem ct_X10_clear (l : Launch) (D : va_G) (cI cZ cO : ClassId) (a : Nat → Nat) {u : XS} {r : Int32} {o : XS} (hf : f_X10_clear u = some (r, o)) : Ct l yX10_clear (uw (Cond.code yX10_clear cX10_clear 1 (some .int))) rmX10_clear D (tyL cI cZ cO) E0 [.ref (a 0)] (wX cI cZ cO a u) (some (.int r)) (wX cI cZ cO a o) := by
  refine sm_start (cc := cX10_clear) (maxL := 1) (ret := (some .int)) (own := RX10) (by decide) rfl rfl (Nat.le_of_ble_eq_true rfl) (lv := [(0, .ref (a 0))]) rfl ?_
  intro p e s m below meth c A F hE hA
  unfold f_X10_clear at hf
  refine sm_aload_n F dX10_clear_0 rfl 0 rfl ?_
  refine sm_get (v := .ref (a 20)) F inX10 0 rfl rfl 5 (by decide) qw1_190 rfl rfl dX10_clear_1 ?_
  obtain ⟨z4, hz4, hf⟩ := bd_some hf
  refine sm_callV (rest := []) F (ct_X6_empty l D cI cZ cO (fun i => a (pm_X_r i)) hz4) (cut_X_r cI cZ cO a u z4.2) rfl rfl rfl qw4_203 qw4_204 qw4_205 qw1_11 qw4_206 hvX6_empty ⟨Nat.le_of_ble_eq_true rfl, Nat.le_of_ble_eq_true rfl⟩ ⟨Nat.zero_le _, Nat.zero_le _⟩ 0 6 rfl rfl rfl rfl (Nat.le_of_ble_eq_true rfl) E0_b (fun _ _ _ _ _ _ => trivial) rfl dX10_clear_4 [.int z4.1] rfl ?_
  exact sm_iret F dX10_clear_7 (Prod.mk.inj (Option.some.inj hf)).1 (congrArg (fun z => (wX cI cZ cO a z)) (Prod.mk.inj (Option.some.inj hf)).2)
/-! SoManyForgotten.lots(III)I -/
abbrev rmX10_lots : Room := { frames := 6, cells := 0, slots := 0, locals := 141 }
set_option maxRecDepth 100000 in
theorem hvX10_lots : yX10_lots.cls = RX10 ∧ yX10_lots.cls ≠ "java/lang/invoke/MethodHandle" ∧ yX10_lots.cls ≠ "java/lang/invoke/VarHandle" ∧ (parseMethodDescriptor yX10_lots.desc).map (fun d => d.parameters.length) = some 3 := by decide +kernel
set_option maxRecDepth 100000 in
set_option maxHeartbeats 4000000 in
theorem s_X10_lots_44 {p : Program} {l : Launch} {e : Env} {s : State} {m : MethodId} {args : Array Value} {below : List Frame} {meth : Method} {c : Code} {A : Nat → Prop} {D : va_G} {cI cZ cO : ClassId} {a : Nat → Nat} {r : Int32} {o : XS} (F : smF p s m args meth c cX10_lots 5 (some .int) RX10 D (tyL cI cZ cO) A)   (u : XS) (y0 : Int32) (y1 : Int32) (y2 : Int32) (hf : f_X10_lots_44    u y0 y1 y2 = some (r, o)) : Sm p l e rmX10_lots s m args below meth c D A 5 0 0 (smQ below args s D A (some (.int r)) (wX cI cZ cO a o)) 44 [(0, .ref (a 0))] [.int y0, .int y1, .int y2, .ref (a 16)] (wX cI cZ cO a u) := by
  unfold f_X10_lots_44 at hf
  obtain ⟨z44, hz44, hf⟩ := bd_some hf
  refine sm_callV (rest := []) F (ct_X3_byLot l D cI cZ cO (fun i => a (pm_X_m i)) hz44) (cut_X_m cI cZ cO a u z44.2) rfl rfl rfl qw4_215 qw4_216 qw4_217 qw1_9 qw4_218 hvX3_byLot ⟨Nat.le_of_ble_eq_true rfl, Nat.le_of_ble_eq_true rfl⟩ ⟨Nat.zero_le _, Nat.zero_le _⟩ 0 3 rfl rfl rfl rfl (Nat.le_of_ble_eq_true rfl) E0_b (fun _ _ _ _ _ _ => trivial) rfl dX10_lots_44 [.int z44.1] rfl ?_
  exact sm_iret F dX10_lots_47 (Prod.mk.inj (Option.some.inj hf)).1 (congrArg (fun z => (wX cI cZ cO a z)) (Prod.mk.inj (Option.some.inj hf)).2)
set_option maxRecDepth 100000 in
set_option maxHeartbeats 4000000 in
theorem ct_X10_lots (l : Launch) (D : va_G) (cI cZ cO : ClassId) (a : Nat → Nat) {u : XS} {x1 : Int32} {x2 : Int32} {x3 : Int32} {r : Int32} {o : XS} (hf : f_X10_lots u x1 x2 x3 = some (r, o)) : Ct l yX10_lots (uw (Cond.code yX10_lots cX10_lots 5 (some .int))) rmX10_lots D (tyL cI cZ cO) E0 [.ref (a 0), .int x1, .int x2, .int x3] (wX cI cZ cO a u) (some (.int r)) (wX cI cZ cO a o) := by
  refine sm_start (cc := cX10_lots) (maxL := 5) (ret := (some .int)) (own := RX10) (by decide) rfl rfl (Nat.le_of_ble_eq_true rfl) (lv := [(0, .ref (a 0)), (1, .int x1), (2, .int x2), (3, .int x3)]) rfl ?_
  intro p e s m below meth c A F hE hA
  unfold f_X10_lots at hf
  refine sm_aload_n F dX10_lots_0 rfl 0 rfl ?_
  refine sm_iload_n F dX10_lots_1 rfl 1 rfl ?_
  refine sm_iconst F dX10_lots_2 kc_i_1 ?_
  refine sm_bipush F dX10_lots_3 kc_b_20 ?_
  obtain ⟨z5, hz5, hf⟩ := bd_some hf
  refine sm_callS (rest := [.ref (a 0)]) F (ct_X10_outside l D (tyL cI cZ cO) hz5) (cut_X_none cI cZ cO a u) rfl rfl rfl qw1_214 qw1_215 qw1_1 qw1_216 hsX10_outside ⟨Nat.le_of_ble_eq_true rfl, Nat.le_of_ble_eq_true rfl⟩ ⟨Nat.zero_le _, Nat.zero_le _⟩ rfl (Nat.le_of_ble_eq_true rfl) E0_b (fun _ _ _ _ _ _ => trivial) rfl dX10_lots_5 [.int z5, .ref (a 0)] rfl ?_
  refine sm_iload_n F dX10_lots_8 rfl 3 rfl ?_
  refine sm_iconst F dX10_lots_9 kc_i_1 ?_
  obtain ⟨z10, hz10, hf⟩ := bd_some hf
  refine sm_callS (rest := [.int z5, .ref (a 0)]) F (ct_X10_wrongWhat l D (tyL cI cZ cO) hz10) (cut_X_none cI cZ cO a u) rfl rfl rfl qw3_57 qw3_58 qw1_1 qw3_59 hsX10_wrongWhat ⟨Nat.le_of_ble_eq_true rfl, Nat.le_of_ble_eq_true rfl⟩ ⟨Nat.zero_le _, Nat.zero_le _⟩ rfl (Nat.le_of_ble_eq_true rfl) E0_b (fun _ _ _ _ _ _ => trivial) rfl dX10_lots_10 [.int z10, .int z5, .ref (a 0)] rfl ?_
  obtain ⟨z13, hz13, hf⟩ := bd_some hf
  refine sm_callV (rest := []) F (ct_X10_refused_ l D cI cZ cO a hz13) (cut_X_id cI cZ cO a u z13.2) rfl rfl rfl qw1_221 qw1_223 qw0_0 qw1_1 qw1_224 hvX10_refused_ ⟨Nat.le_of_ble_eq_true rfl, Nat.le_of_ble_eq_true rfl⟩ ⟨Nat.zero_le _, Nat.zero_le _⟩ 0 10 rfl rfl rfl rfl (Nat.le_of_ble_eq_true rfl) E0_b (fun _ _ _ _ _ _ => trivial) rfl dX10_lots_13 [.int z13.1] rfl ?_
  refine sm_istore F [(0, .ref (a 0)), (1, .int x1), (2, .int x2), (3, .int x3), (4, .int z13.1)] [1, 2, 3, 4, 0] dX10_lots_16 (by decide) rfl ?_
  refine sm_iload F dX10_lots_18 4 rfl ?_
  refine sm_if_eq (tgt := 28) F dX10_lots_20 (by decide) (fun c20 => ?_) (fun c20 => ?_)
  · replace hf := if_t c20 hf
    refine sm_aload_n F dX10_lots_28 rfl 0 rfl ?_
    refine sm_get (v := .ref (a 16)) F inX10 0 rfl rfl 3 (by decide) qw1_188 rfl rfl dX10_lots_29 ?_
    refine sm_iload_n F dX10_lots_32 rfl 1 rfl ?_
    refine sm_iload_n F dX10_lots_33 rfl 2 rfl ?_
    refine sm_iload_n F dX10_lots_34 rfl 3 rfl ?_
    refine sm_iconst F dX10_lots_35 kc_i_1 ?_
    refine sm_icmp_ne (tgt := 43) F dX10_lots_36 (by decide) (fun c36 => ?_) (fun c36 => ?_)
    · replace hf := if_f c36 hf
      refine sm_iconst F dX10_lots_43 kc_i_0 ?_
      refine sm_sub (lv' := [(0, .ref (a 0))]) [0] rfl ?_
      exact s_X10_lots_44 F  z13.2 (0 : Int32) x2 x1 hf
    · replace hf := if_t c36 hf
      refine sm_iconst F dX10_lots_39 kc_i_1 ?_
      refine sm_goto (tgt := 44) F dX10_lots_40 (by decide) ?_
      refine sm_sub (lv' := [(0, .ref (a 0))]) [0] rfl ?_
      exact s_X10_lots_44 F  z13.2 (1 : Int32) x2 x1 hf
  · replace hf := if_f c20 hf
    refine sm_iload F dX10_lots_23 4 rfl ?_
    refine sm_goto (tgt := 47) F dX10_lots_25 (by decide) ?_
    exact sm_iret F dX10_lots_47 (Prod.mk.inj (Option.some.inj hf)).1 (congrArg (fun z => (wX cI cZ cO a z)) (Prod.mk.inj (Option.some.inj hf)).2)
/-! SoManyForgotten.image()I -/
abbrev rmX10_image : Room := { frames := 2, cells := 0, slots := 0, locals := 62 }
set_option maxRecDepth 100000 in
theorem hvX10_image : yX10_image.cls = RX10 ∧ yX10_image.cls ≠ "java/lang/invoke/MethodHandle" ∧ yX10_image.cls ≠ "java/lang/invoke/VarHandle" ∧ (parseMethodDescriptor yX10_image.desc).map (fun d => d.parameters.length) = some 0 := by decide +kernel
set_option maxRecDepth 100000 in
set_option maxHeartbeats 4000000 in
theorem ct_X10_image (l : Launch) (D : va_G) (cI cZ cO : ClassId) (a : Nat → Nat) {u : XS} {r : Int32} {o : XS} (hf : f_X10_image u = some (r, o)) : Ct l yX10_image (uw (Cond.code yX10_image cX10_image 1 (some .int))) rmX10_image D (tyL cI cZ cO) E0 [.ref (a 0)] (wX cI cZ cO a u) (some (.int r)) (wX cI cZ cO a o) := by
  refine sm_start (cc := cX10_image) (maxL := 1) (ret := (some .int)) (own := RX10) (by decide) rfl rfl (Nat.le_of_ble_eq_true rfl) (lv := [(0, .ref (a 0))]) rfl ?_
  intro p e s m below meth c A F hE hA
  unfold f_X10_image at hf
  refine sm_aload_n F dX10_image_0 rfl 0 rfl ?_
  refine sm_get (v := .ref (a 4)) F inX10 0 rfl rfl 1 (by decide) qw1_186 rfl rfl dX10_image_1 ?_
  refine sm_aload_n F dX10_image_4 rfl 0 rfl ?_
  refine sm_get (v := .ref (a 22)) F inX10 0 rfl rfl 0 (by decide) qw1_185 rfl rfl dX10_image_5 ?_
  obtain ⟨z8, hz8, hf⟩ := bd_some hf
  refine sm_callV (rest := []) F (ct_X8_copy l D cI cZ cO (fun i => a (pm_X_vv4_22 i)) hz8) (cut_X_vv4_22 cI cZ cO a u z8) rfl rfl rfl qw2_0 qw2_1 qw2_2 qw1_8 qw2_3 hvX8_copy ⟨Nat.le_of_ble_eq_true rfl, Nat.le_of_ble_eq_true rfl⟩ ⟨Nat.zero_le _, Nat.zero_le _⟩ 0 8 rfl rfl rfl rfl (Nat.le_of_ble_eq_true rfl) E0_b (fun _ _ _ _ _ _ => trivial) rfl dX10_image_8 [] rfl ?_
  refine sm_aload_n F dX10_image_11 rfl 0 rfl ?_
  refine sm_iconst F dX10_image_12 kc_i_1 ?_
  refine sm_put F inX10 tyX10 tyX10_ok nmX10 0 rfl rfl 7 (by decide) qw1_192 rfl rfl rfl rfl (Nat.le_of_ble_eq_true rfl) (wX cI cZ cO a (sX_img (sX_mind (sX_kept u z8.1) (sM_now (gX_mind (sX_kept u z8.1)) z8.2)) (1 : Int32))) rfl dX10_image_13 ?_
  refine sm_aload_n F dX10_image_16 rfl 0 rfl ?_
  refine sm_get (v := .ref (a 22)) F inX10 0 rfl rfl 0 (by decide) qw1_185 rfl rfl dX10_image_17 ?_
  refine sm_get (v := .int (gV_week (gM_now (gX_mind (sX_img (sX_mind (sX_kept u z8.1) (sM_now (gX_mind (sX_kept u z8.1)) z8.2)) (1 : Int32)))))) F inX8 22 rfl rfl 8 (by decide) qw1_102 rfl rfl dX10_image_20 ?_
  exact sm_iret F dX10_image_23 (Prod.mk.inj (Option.some.inj hf)).1 (congrArg (fun z => (wX cI cZ cO a z)) (Prod.mk.inj (Option.some.inj hf)).2)
/-! SoManyForgotten.on()I -/
abbrev rmX10_on : Room := { frames := 2, cells := 0, slots := 0, locals := 62 }
set_option maxRecDepth 100000 in
theorem hvX10_on : yX10_on.cls = RX10 ∧ yX10_on.cls ≠ "java/lang/invoke/MethodHandle" ∧ yX10_on.cls ≠ "java/lang/invoke/VarHandle" ∧ (parseMethodDescriptor yX10_on.desc).map (fun d => d.parameters.length) = some 0 := by decide +kernel
set_option maxRecDepth 100000 in
set_option maxHeartbeats 4000000 in
theorem s_X10_on_14 {p : Program} {l : Launch} {e : Env} {s : State} {m : MethodId} {args : Array Value} {below : List Frame} {meth : Method} {c : Code} {A : Nat → Prop} {D : va_G} {cI cZ cO : ClassId} {a : Nat → Nat} {r : Int32} {o : XS} (F : smF p s m args meth c cX10_on 2 (some .int) RX10 D (tyL cI cZ cO) A)   (u : XS) (y0 : Int32) (hf : f_X10_on_14    u y0 = some (r, o)) : Sm p l e rmX10_on s m args below meth c D A 2 0 0 (smQ below args s D A (some (.int r)) (wX cI cZ cO a o)) 14 [(0, .ref (a 0))] [.int y0, .ref (a 0)] (wX cI cZ cO a u) := by
  unfold f_X10_on_14 at hf
  obtain ⟨z14, hz14, hf⟩ := bd_some hf
  refine sm_callV (rest := []) F (ct_X10_refused l D cI cZ cO a hz14) (cut_X_id cI cZ cO a u z14.2) rfl rfl rfl qw3_74 qw3_76 qw0_15 qw1_1 qw3_77 hvX10_refused ⟨Nat.le_of_ble_eq_true rfl, Nat.le_of_ble_eq_true rfl⟩ ⟨Nat.zero_le _, Nat.zero_le _⟩ 0 10 rfl rfl rfl rfl (Nat.le_of_ble_eq_true rfl) E0_b (fun _ _ _ _ _ _ => trivial) rfl dX10_on_14 [.int z14.1] rfl ?_
  refine sm_istore_n F [(0, .ref (a 0)), (1, .int z14.1)] [1, 0] dX10_on_17 rfl (by decide) rfl ?_
  refine sm_iload_n F dX10_on_18 rfl 1 rfl ?_
  refine sm_if_eq (tgt := 24) F dX10_on_19 (by decide) (fun c19 => ?_) (fun c19 => ?_)
  · replace hf := if_t c19 hf
    refine sm_aload_n F dX10_on_24 rfl 0 rfl ?_
    refine sm_get (v := .ref (a 22)) F inX10 0 rfl rfl 0 (by decide) qw1_185 rfl rfl dX10_on_25 ?_
    refine sm_aload_n F dX10_on_28 rfl 0 rfl ?_
    refine sm_get (v := .ref (a 4)) F inX10 0 rfl rfl 1 (by decide) qw1_186 rfl rfl dX10_on_29 ?_
    obtain ⟨z32, hz32, hf⟩ := bd_some hf
    refine sm_callV (rest := []) F (ct_X8_copy l D cI cZ cO (fun i => a (pm_X_vv22_4 i)) hz32) (cut_X_vv22_4 cI cZ cO a z14.2 z32) rfl rfl rfl qw2_0 qw2_1 qw2_2 qw1_8 qw2_3 hvX8_copy ⟨Nat.le_of_ble_eq_true rfl, Nat.le_of_ble_eq_true rfl⟩ ⟨Nat.zero_le _, Nat.zero_le _⟩ 0 8 rfl rfl rfl rfl (Nat.le_of_ble_eq_true rfl) E0_b (fun _ _ _ _ _ _ => trivial) rfl dX10_on_32 [] rfl ?_
    refine sm_aload_n F dX10_on_35 rfl 0 rfl ?_
    refine sm_get (v := .ref (a 22)) F inX10 0 rfl rfl 0 (by decide) qw1_185 rfl rfl dX10_on_36 ?_
    refine sm_get (v := .int (gV_week (gM_now (gX_mind (sX_kept (sX_mind z14.2 (sM_now (gX_mind z14.2) z32.1)) z32.2))))) F inX8 22 rfl rfl 8 (by decide) qw1_102 rfl rfl dX10_on_39 ?_
    exact sm_iret F dX10_on_42 (Prod.mk.inj (Option.some.inj hf)).1 (congrArg (fun z => (wX cI cZ cO a z)) (Prod.mk.inj (Option.some.inj hf)).2)
  · replace hf := if_f c19 hf
    refine sm_iload_n F dX10_on_22 rfl 1 rfl ?_
    exact sm_iret F dX10_on_23 (Prod.mk.inj (Option.some.inj hf)).1 (congrArg (fun z => (wX cI cZ cO a z)) (Prod.mk.inj (Option.some.inj hf)).2)
set_option maxRecDepth 100000 in
set_option maxHeartbeats 4000000 in
theorem ct_X10_on (l : Launch) (D : va_G) (cI cZ cO : ClassId) (a : Nat → Nat) {u : XS} {r : Int32} {o : XS} (hf : f_X10_on u = some (r, o)) : Ct l yX10_on (uw (Cond.code yX10_on cX10_on 2 (some .int))) rmX10_on D (tyL cI cZ cO) E0 [.ref (a 0)] (wX cI cZ cO a u) (some (.int r)) (wX cI cZ cO a o) := by
  refine sm_start (cc := cX10_on) (maxL := 2) (ret := (some .int)) (own := RX10) (by decide) rfl rfl (Nat.le_of_ble_eq_true rfl) (lv := [(0, .ref (a 0))]) rfl ?_
  intro p e s m below meth c A F hE hA
  unfold f_X10_on at hf
  refine sm_aload_n F dX10_on_0 rfl 0 rfl ?_
  refine sm_aload_n F dX10_on_1 rfl 0 rfl ?_
  refine sm_get (v := .int (gX_img u)) F inX10 0 rfl rfl 7 (by decide) qw1_192 rfl rfl dX10_on_2 ?_
  refine sm_if_eq (tgt := 12) F dX10_on_5 (by decide) (fun c5 => ?_) (fun c5 => ?_)
  · replace hf := if_t c5 hf
    refine sm_bipush F dX10_on_12 kc_b_m3 ?_
    exact s_X10_on_14 F  u ((-3) : Int32) hf
  · replace hf := if_f c5 hf
    refine sm_iconst F dX10_on_8 kc_i_0 ?_
    refine sm_goto (tgt := 14) F dX10_on_9 (by decide) ?_
    exact s_X10_on_14 F  u (0 : Int32) hf
/-! SoManyForgotten.count(I)I -/
abbrev rmX10_count : Room := { frames := 2, cells := 0, slots := 0, locals := 45 }
set_option maxRecDepth 100000 in
theorem hvX10_count : yX10_count.cls = RX10 ∧ yX10_count.cls ≠ "java/lang/invoke/MethodHandle" ∧ yX10_count.cls ≠ "java/lang/invoke/VarHandle" ∧ (parseMethodDescriptor yX10_count.desc).map (fun d => d.parameters.length) = some 1 := by decide +kernel
set_option maxRecDepth 100000 in
set_option maxHeartbeats 4000000 in
theorem s_X10_count_22 {p : Program} {l : Launch} {e : Env} {s : State} {m : MethodId} {args : Array Value} {below : List Frame} {meth : Method} {c : Code} {A : Nat → Prop} {D : va_G} {cI cZ cO : ClassId} {a : Nat → Nat} {r : Int32} (F : smF p s m args meth c cX10_count 2 (some .int) RX10 D (tyL cI cZ cO) A) (u : XS) (x1 : Int32)   (hf : f_X10_count_22 u x1    = some r) : Sm p l e rmX10_count s m args below meth c D A 2 0 0 (smQ below args s D A (some (.int r)) (wX cI cZ cO a u)) 22 [(0, .ref (a 0)), (1, .int x1)] [] (wX cI cZ cO a u) := by
  unfold f_X10_count_22 at hf
  refine sm_iload_n F dX10_count_22 rfl 1 rfl ?_
  by_cases w23_0 : x1 = 0
  · replace hf := if_t w23_0 hf
    refine sm_tableIn (off := 45) (tgt := 68) F dX10_count_23 (by rw [w23_0]; decide) (by rw [w23_0]; decide) (by rw [w23_0]; rfl) (by decide) ?_
    refine sm_aload_n F dX10_count_68 rfl 0 rfl ?_
    refine sm_get (v := .ref (a 22)) F inX10 0 rfl rfl 0 (by decide) qw1_185 rfl rfl dX10_count_69 ?_
    refine sm_get (v := .int (gV_people (gM_now (gX_mind u)))) F inX8 22 rfl rfl 6 (by decide) qw1_97 rfl rfl dX10_count_72 ?_
    exact sm_iret F dX10_count_75 (Option.some.inj hf) rfl
  replace hf := if_f w23_0 hf
  by_cases w23_1 : x1 = 1
  · replace hf := if_t w23_1 hf
    refine sm_tableIn (off := 53) (tgt := 76) F dX10_count_23 (by rw [w23_1]; decide) (by rw [w23_1]; decide) (by rw [w23_1]; rfl) (by decide) ?_
    refine sm_aload_n F dX10_count_76 rfl 0 rfl ?_
    refine sm_get (v := .ref (a 22)) F inX10 0 rfl rfl 0 (by decide) qw1_185 rfl rfl dX10_count_77 ?_
    refine sm_get (v := .int (gV_week (gM_now (gX_mind u)))) F inX8 22 rfl rfl 8 (by decide) qw1_102 rfl rfl dX10_count_80 ?_
    exact sm_iret F dX10_count_83 (Option.some.inj hf) rfl
  replace hf := if_f w23_1 hf
  by_cases w23_2 : x1 = 2
  · replace hf := if_t w23_2 hf
    refine sm_tableIn (off := 61) (tgt := 84) F dX10_count_23 (by rw [w23_2]; decide) (by rw [w23_2]; decide) (by rw [w23_2]; rfl) (by decide) ?_
    refine sm_aload_n F dX10_count_84 rfl 0 rfl ?_
    refine sm_get (v := .ref (a 22)) F inX10 0 rfl rfl 0 (by decide) qw1_185 rfl rfl dX10_count_85 ?_
    obtain ⟨z88, hz88, hf⟩ := bd_some hf
    refine sm_callV (rest := []) F (ct_X8_hereBits l D cI cZ cO (fun i => a (pm_X_v22 i)) hz88) (cut_X_v22_ro cI cZ cO a u) rfl rfl rfl qw5_4 qw3_115 qw3_116 qw1_8 qw3_117 hvX8_hereBits ⟨Nat.le_of_ble_eq_true rfl, Nat.le_of_ble_eq_true rfl⟩ ⟨Nat.zero_le _, Nat.zero_le _⟩ 0 8 rfl rfl rfl rfl (Nat.le_of_ble_eq_true rfl) E0_b (fun _ _ _ _ _ _ => trivial) rfl dX10_count_88 [.int z88] rfl ?_
    exact sm_iret F dX10_count_91 (Option.some.inj hf) rfl
  replace hf := if_f w23_2 hf
  by_cases w23_3 : x1 = 3
  · replace hf := if_t w23_3 hf
    refine sm_tableIn (off := 69) (tgt := 92) F dX10_count_23 (by rw [w23_3]; decide) (by rw [w23_3]; decide) (by rw [w23_3]; rfl) (by decide) ?_
    refine sm_aload_n F dX10_count_92 rfl 0 rfl ?_
    refine sm_get (v := .ref (a 22)) F inX10 0 rfl rfl 0 (by decide) qw1_185 rfl rfl dX10_count_93 ?_
    refine sm_get (v := .int (gV_names (gM_now (gX_mind u)))) F inX8 22 rfl rfl 7 (by decide) qw1_99 rfl rfl dX10_count_96 ?_
    exact sm_iret F dX10_count_99 (Option.some.inj hf) rfl
  replace hf := if_f w23_3 hf
  by_cases w23_4 : x1 = 4
  · replace hf := if_t w23_4 hf
    refine sm_tableIn (off := 77) (tgt := 100) F dX10_count_23 (by rw [w23_4]; decide) (by rw [w23_4]; decide) (by rw [w23_4]; rfl) (by decide) ?_
    refine sm_aload_n F dX10_count_100 rfl 0 rfl ?_
    refine sm_get (v := .ref (a 22)) F inX10 0 rfl rfl 0 (by decide) qw1_185 rfl rfl dX10_count_101 ?_
    obtain ⟨z104, hz104, hf⟩ := bd_some hf
    refine sm_callV (rest := []) F (ct_X8_knownTogether l D cI cZ cO (fun i => a (pm_X_v22 i)) hz104) (cut_X_v22_ro cI cZ cO a u) rfl rfl rfl qw4_161 qw4_162 qw4_163 qw1_8 qw4_164 hvX8_knownTogether ⟨Nat.le_of_ble_eq_true rfl, Nat.le_of_ble_eq_true rfl⟩ ⟨Nat.zero_le _, Nat.zero_le _⟩ 0 8 rfl rfl rfl rfl (Nat.le_of_ble_eq_true rfl) E0_b (fun _ _ _ _ _ _ => trivial) rfl dX10_count_104 [.int z104] rfl ?_
    exact sm_iret F dX10_count_107 (Option.some.inj hf) rfl
  replace hf := if_f w23_4 hf
  by_cases w23_5 : x1 = 5
  · replace hf := if_t w23_5 hf
    refine sm_tableIn (off := 85) (tgt := 108) F dX10_count_23 (by rw [w23_5]; decide) (by rw [w23_5]; decide) (by rw [w23_5]; rfl) (by decide) ?_
    refine sm_aload_n F dX10_count_108 rfl 0 rfl ?_
    refine sm_get (v := .ref (a 22)) F inX10 0 rfl rfl 0 (by decide) qw1_185 rfl rfl dX10_count_109 ?_
    obtain ⟨z112, hz112, hf⟩ := bd_some hf
    refine sm_callV (rest := []) F (ct_X8_owedTogether l D cI cZ cO (fun i => a (pm_X_v22 i)) hz112) (cut_X_v22_ro cI cZ cO a u) rfl rfl rfl qw5_5 qw5_6 qw5_7 qw1_8 qw5_8 hvX8_owedTogether ⟨Nat.le_of_ble_eq_true rfl, Nat.le_of_ble_eq_true rfl⟩ ⟨Nat.zero_le _, Nat.zero_le _⟩ 0 8 rfl rfl rfl rfl (Nat.le_of_ble_eq_true rfl) E0_b (fun _ _ _ _ _ _ => trivial) rfl dX10_count_112 [.int z112] rfl ?_
    exact sm_iret F dX10_count_115 (Option.some.inj hf) rfl
  replace hf := if_f w23_5 hf
  by_cases w23_6 : x1 = 6
  · replace hf := if_t w23_6 hf
    refine sm_tableIn (off := 93) (tgt := 116) F dX10_count_23 (by rw [w23_6]; decide) (by rw [w23_6]; decide) (by rw [w23_6]; rfl) (by decide) ?_
    refine sm_aload_n F dX10_count_116 rfl 0 rfl ?_
    refine sm_get (v := .ref (a 20)) F inX10 0 rfl rfl 5 (by decide) qw1_190 rfl rfl dX10_count_117 ?_
    refine sm_get (v := .int (gR_size (gM_row (gX_mind u)))) F inX6 20 rfl rfl 1 (by decide) qw1_179 rfl rfl dX10_count_120 ?_
    exact sm_iret F dX10_count_123 (Option.some.inj hf) rfl
  replace hf := if_f w23_6 hf
  by_cases w23_7 : x1 = 7
  · replace hf := if_t w23_7 hf
    refine sm_tableIn (off := 101) (tgt := 124) F dX10_count_23 (by rw [w23_7]; decide) (by rw [w23_7]; decide) (by rw [w23_7]; rfl) (by decide) ?_
    refine sm_aload_n F dX10_count_124 rfl 0 rfl ?_
    refine sm_get (v := .ref (a 2)) F inX10 0 rfl rfl 4 (by decide) qw1_189 rfl rfl dX10_count_125 ?_
    refine sm_get (v := .int (gT_size (gX_tell u))) F inX7 2 rfl rfl 1 (by decide) qw1_163 rfl rfl dX10_count_128 ?_
    exact sm_iret F dX10_count_131 (Option.some.inj hf) rfl
  replace hf := if_f w23_7 hf
  have e23_0 := lv_neT w23_0 (a := 0) rfl
  have e23_1 := lv_neT w23_1 (a := 1) rfl
  have e23_2 := lv_neT w23_2 (a := 2) rfl
  have e23_3 := lv_neT w23_3 (a := 3) rfl
  have e23_4 := lv_neT w23_4 (a := 4) rfl
  have e23_5 := lv_neT w23_5 (a := 5) rfl
  have e23_6 := lv_neT w23_6 (a := 6) rfl
  have e23_7 := lv_neT w23_7 (a := 7) rfl
  have T23 : ∀ i : Nat, i < 8 → (#[45, 53, 61, 69, 77, 85, 93, 101] : Array Int)[i]? = some 109 ∨ i ∈ ([0, 1, 2, 3, 4, 5, 6, 7] : List Nat) := by decide
  refine sm_tableX (tgt := 132) F dX10_count_23 (by decide) (fun i hi hx => (T23 i hi).elim id (fun q => by simp only [List.mem_cons, List.not_mem_nil, or_false] at q; exfalso; omega)) (by decide) ?_
  refine sm_bipush F dX10_count_132 kc_b_m9 ?_
  exact sm_iret F dX10_count_134 (Option.some.inj hf) rfl
set_option maxRecDepth 100000 in
set_option maxHeartbeats 4000000 in
theorem ct_X10_count (l : Launch) (D : va_G) (cI cZ cO : ClassId) (a : Nat → Nat) {u : XS} {x1 : Int32} {r : Int32} (hf : f_X10_count u x1 = some r) : Ct l yX10_count (uw (Cond.code yX10_count cX10_count 2 (some .int))) rmX10_count D (tyL cI cZ cO) E0 [.ref (a 0), .int x1] (wX cI cZ cO a u) (some (.int r)) (wX cI cZ cO a u) := by
  refine sm_start (cc := cX10_count) (maxL := 2) (ret := (some .int)) (own := RX10) (by decide) rfl rfl (Nat.le_of_ble_eq_true rfl) (lv := [(0, .ref (a 0)), (1, .int x1)]) rfl ?_
  intro p e s m below meth c A F hE hA
  unfold f_X10_count at hf
  refine sm_iload_n F dX10_count_0 rfl 1 rfl ?_
  refine sm_bipush F dX10_count_1 kc_b_11 ?_
  refine sm_icmp_lt (tgt := 22) F dX10_count_3 (by decide) (fun c3 => ?_) (fun c3 => ?_)
  · replace hf := if_t c3 hf
    exact s_X10_count_22 F u x1  hf
  · replace hf := if_f c3 hf
    refine sm_iload_n F dX10_count_6 rfl 1 rfl ?_
    refine sm_bipush F dX10_count_7 kc_b_16 ?_
    refine sm_icmp_gt (tgt := 22) F dX10_count_9 (by decide) (fun c9 => ?_) (fun c9 => ?_)
    · replace hf := if_t c9 hf
      exact s_X10_count_22 F u x1  hf
    · replace hf := if_f c9 hf
      refine sm_aload_n F dX10_count_12 rfl 0 rfl ?_
      refine sm_get (v := .ref (a 1)) F inX10 0 rfl rfl 6 (by decide) qw1_191 rfl rfl dX10_count_13 ?_
      refine sm_iload_n F dX10_count_16 rfl 1 rfl ?_
      refine sm_bipush F dX10_count_17 kc_b_10 ?_
      refine sm_isub F dX10_count_19 ?_
      obtain ⟨h20, hf⟩ := ck_some hf
      refine sm_iald F 1 0 rfl rfl h20 dX10_count_20 ?_
      exact sm_iret F dX10_count_21 (Option.some.inj hf) rfl
