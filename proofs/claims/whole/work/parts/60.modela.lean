/-! SoManyForgottenModel.isIn(III)Z -/
abbrev rmX11_isIn : Room := { frames := 0, cells := 0, slots := 0, locals := 0 }
set_option maxRecDepth 100000 in
theorem hsX11_isIn : yX11_isIn.cls ≠ "java/lang/invoke/MethodHandle" ∧ yX11_isIn.cls ≠ "java/lang/invoke/VarHandle" ∧ (parseMethodDescriptor yX11_isIn.desc).map (fun d => d.parameters.length) = some 3 := by decide +kernel
set_option maxRecDepth 100000 in
set_option maxHeartbeats 4000000 in
theorem ct_X11_isIn (l : Launch) (D : va_G) (tys : List (ClassId × FieldType)) {x0 : Int32} {x1 : Int32} {x2 : Int32} {r : Int32} (hf : f_X11_isIn x0 x1 x2 = some r) : Ct l yX11_isIn (uw (Cond.code yX11_isIn cX11_isIn 3 (some .boolean))) rmX11_isIn D tys E0 [.int x0, .int x1, .int x2] [] (some (.int r)) [] := by
  refine sm_start (cc := cX11_isIn) (maxL := 3) (ret := (some .boolean)) (own := RX11) (by decide) rfl rfl (Nat.le_of_ble_eq_true rfl) (lv := [(0, .int x0), (1, .int x1), (2, .int x2)]) rfl ?_
  intro p e s m below meth c A F hE hA
  unfold f_X11_isIn at hf
  refine sm_iload_n F dX11_isIn_0 rfl 0 rfl ?_
  refine sm_iload_n F dX11_isIn_1 rfl 1 rfl ?_
  refine sm_icmp_lt (tgt := 14) F dX11_isIn_2 (by decide) (fun c2 => ?_) (fun c2 => ?_)
  · replace hf := if_t c2 hf
    refine sm_iconst F dX11_isIn_14 kc_i_0 ?_
    exact sm_zret F dX11_isIn_15 rfl (Option.some.inj hf) rfl
  · replace hf := if_f c2 hf
    refine sm_iload_n F dX11_isIn_5 rfl 0 rfl ?_
    refine sm_iload_n F dX11_isIn_6 rfl 2 rfl ?_
    refine sm_icmp_gt (tgt := 14) F dX11_isIn_7 (by decide) (fun c7 => ?_) (fun c7 => ?_)
    · replace hf := if_t c7 hf
      refine sm_iconst F dX11_isIn_14 kc_i_0 ?_
      exact sm_zret F dX11_isIn_15 rfl (Option.some.inj hf) rfl
    · replace hf := if_f c7 hf
      refine sm_iconst F dX11_isIn_10 kc_i_1 ?_
      refine sm_goto (tgt := 15) F dX11_isIn_11 (by decide) ?_
      exact sm_zret F dX11_isIn_15 rfl (Option.some.inj hf) rfl
/-! SoManyForgottenModel.held(I)I -/
abbrev rmX11_held : Room := { frames := 0, cells := 0, slots := 0, locals := 0 }
set_option maxRecDepth 100000 in
theorem hsX11_held : yX11_held.cls ≠ "java/lang/invoke/MethodHandle" ∧ yX11_held.cls ≠ "java/lang/invoke/VarHandle" ∧ (parseMethodDescriptor yX11_held.desc).map (fun d => d.parameters.length) = some 1 := by decide +kernel
set_option maxRecDepth 100000 in
set_option maxHeartbeats 4000000 in
theorem ct_X11_held (l : Launch) (D : va_G) (tys : List (ClassId × FieldType)) {x0 : Int32} {r : Int32} (hf : f_X11_held x0 = some r) : Ct l yX11_held (uw (Cond.code yX11_held cX11_held 1 (some .int))) rmX11_held D tys E0 [.int x0] [] (some (.int r)) [] := by
  refine sm_start (cc := cX11_held) (maxL := 1) (ret := (some .int)) (own := RX11) (by decide) rfl rfl (Nat.le_of_ble_eq_true rfl) (lv := [(0, .int x0)]) rfl ?_
  intro p e s m below meth c A F hE hA
  unfold f_X11_held at hf
  refine sm_iload_n F dX11_held_0 rfl 0 rfl ?_
  refine sm_if_ge (tgt := 8) F dX11_held_1 (by decide) (fun c1 => ?_) (fun c1 => ?_)
  · replace hf := if_t c1 hf
    refine sm_iload_n F dX11_held_8 rfl 0 rfl ?_
    refine sm_bipush F dX11_held_9 kc_b_99 ?_
    refine sm_icmp_le (tgt := 19) F dX11_held_11 (by decide) (fun c11 => ?_) (fun c11 => ?_)
    · replace hf := if_t c11 hf
      refine sm_iload_n F dX11_held_19 rfl 0 rfl ?_
      exact sm_iret F dX11_held_20 (Option.some.inj hf) rfl
    · replace hf := if_f c11 hf
      refine sm_bipush F dX11_held_14 kc_b_99 ?_
      refine sm_goto (tgt := 20) F dX11_held_16 (by decide) ?_
      exact sm_iret F dX11_held_20 (Option.some.inj hf) rfl
  · replace hf := if_f c1 hf
    refine sm_iconst F dX11_held_4 kc_i_0 ?_
    refine sm_goto (tgt := 20) F dX11_held_5 (by decide) ?_
    exact sm_iret F dX11_held_20 (Option.some.inj hf) rfl
/-! SoManyForgottenModel.copies([I[I)V -/
abbrev rmX11_copies : Room := { frames := 0, cells := 0, slots := 0, locals := 0 }
set_option maxRecDepth 100000 in
theorem hsX11_copies : yX11_copies.cls ≠ "java/lang/invoke/MethodHandle" ∧ yX11_copies.cls ≠ "java/lang/invoke/VarHandle" ∧ (parseMethodDescriptor yX11_copies.desc).map (fun d => d.parameters.length) = some 2 := by decide +kernel
set_option maxRecDepth 100000 in
set_option maxHeartbeats 4000000 in
theorem s_X11_copies_2_b {p : Program} {l : Launch} {e : Env} {s : State} {m : MethodId} {args : Array Value} {below : List Frame} {meth : Method} {c : Code} {A : Nat → Prop} {D : va_G} {cI cZ cO : ClassId} {a : Nat → Nat} {o : (Nat → Int32) × (Nat → Int32)} (F : smF p s m args meth c cX11_copies 3 none RX11 D (tyL cI cZ cO) A)  (k2 : ((Nat → Int32) × (Nat → Int32)) → Int32 → Option ((Nat → Int32) × (Nat → Int32))) (hk2 : ∀ (u' : (Nat → Int32) × (Nat → Int32)) (x2' : Int32), k2 u' x2' = some o → Sm p l e rmX11_copies s m args below meth c D A 3 0 0 (smQ below args s D A none (wII cI cZ cO a o)) 2 [(0, .ref (a 0)), (1, .ref (a 1)), (2, .int x2')] [] (wII cI cZ cO a u')) (u : (Nat → Int32) × (Nat → Int32)) (x2 : Int32) (hf : b_X11_copies_2   k2 u x2 = some o) : Sm p l e rmX11_copies s m args below meth c D A 3 0 0 (smQ below args s D A none (wII cI cZ cO a o)) 2 [(0, .ref (a 0)), (1, .ref (a 1)), (2, .int x2)] [] (wII cI cZ cO a u) := by
  unfold b_X11_copies_2 at hf
  refine sm_iload_n F dX11_copies_2 rfl 2 rfl ?_
  refine sm_bipush F dX11_copies_3 kc_b_99 ?_
  refine sm_icmp_ge (tgt := 20) F dX11_copies_5 (by decide) (fun c5 => ?_) (fun c5 => ?_)
  · replace hf := if_t c5 hf
    exact sm_vret F dX11_copies_20 (congrArg (fun z => (wII cI cZ cO a z)) (Option.some.inj hf))
  · replace hf := if_f c5 hf
    refine sm_aload_n F dX11_copies_8 rfl 1 rfl ?_
    refine sm_iload_n F dX11_copies_9 rfl 2 rfl ?_
    refine sm_aload_n F dX11_copies_10 rfl 0 rfl ?_
    refine sm_iload_n F dX11_copies_11 rfl 2 rfl ?_
    obtain ⟨h12, hf⟩ := ck_some hf
    refine sm_iald F 0 0 rfl rfl h12 dX11_copies_12 ?_
    obtain ⟨h13, hf⟩ := ck_some hf
    refine sm_iast F 1 0 rfl rfl h13 (wII cI cZ cO a (u.1, (upd u.2 (Int32.toNatClampNeg x2) (u.1 (Int32.toNatClampNeg x2))))) rfl dX11_copies_13 ?_
    refine sm_iinc F [(0, .ref (a 0)), (1, .ref (a 1)), (2, .int (x2 + 1))] 2 [1, 2, 0] dX11_copies_14 rfl kc_i_1 (by decide) rfl ?_
    refine sm_goto (tgt := 2) F dX11_copies_17 (by decide) ?_
    exact hk2 (u.1, (upd u.2 (Int32.toNatClampNeg x2) (u.1 (Int32.toNatClampNeg x2)))) (x2 + 1) hf
set_option maxRecDepth 100000 in
set_option maxHeartbeats 4000000 in
theorem s_X11_copies_2 {p : Program} {l : Launch} {e : Env} {s : State} {m : MethodId} {args : Array Value} {below : List Frame} {meth : Method} {c : Code} {A : Nat → Prop} {D : va_G} {cI cZ cO : ClassId} {a : Nat → Nat} {o : (Nat → Int32) × (Nat → Int32)} (F : smF p s m args meth c cX11_copies 3 none RX11 D (tyL cI cZ cO) A)   (n : Nat) (u : (Nat → Int32) × (Nat → Int32)) (x2 : Int32) (hf : f_X11_copies_2   n u x2 = some o) : Sm p l e rmX11_copies s m args below meth c D A 3 0 0 (smQ below args s D A none (wII cI cZ cO a o)) 2 [(0, .ref (a 0)), (1, .ref (a 1)), (2, .int x2)] [] (wII cI cZ cO a u) :=
  lq2_ind (P := fun (u : (Nat → Int32) × (Nat → Int32)) (x2 : Int32) => Sm p l e rmX11_copies s m args below meth c D A 3 0 0 (smQ below args s D A none (wII cI cZ cO a o)) 2 [(0, .ref (a 0)), (1, .ref (a 1)), (2, .int x2)] [] (wII cI cZ cO a u)) (fun k2 hk2 u x2 h9 => s_X11_copies_2_b F   k2 hk2 u x2 h9) n u x2 hf
set_option maxRecDepth 100000 in
set_option maxHeartbeats 4000000 in
theorem ct_X11_copies (l : Launch) (D : va_G) (cI cZ cO : ClassId) (a : Nat → Nat) {u : (Nat → Int32) × (Nat → Int32)} {o : (Nat → Int32) × (Nat → Int32)} (hf : f_X11_copies u = some o) : Ct l yX11_copies (uw (Cond.code yX11_copies cX11_copies 3 none)) rmX11_copies D (tyL cI cZ cO) E0 [.ref (a 0), .ref (a 1)] (wII cI cZ cO a u) none (wII cI cZ cO a o) := by
  refine sm_start (cc := cX11_copies) (maxL := 3) (ret := none) (own := RX11) (by decide) rfl rfl (Nat.le_of_ble_eq_true rfl) (lv := [(0, .ref (a 0)), (1, .ref (a 1))]) rfl ?_
  intro p e s m below meth c A F hE hA
  unfold f_X11_copies at hf
  refine sm_iconst F dX11_copies_0 kc_i_0 ?_
  refine sm_istore_n F [(0, .ref (a 0)), (1, .ref (a 1)), (2, .int (0 : Int32))] [1, 2, 0] dX11_copies_1 rfl (by decide) rfl ?_
  exact s_X11_copies_2 F  smN u (0 : Int32) hf
/-! SoManyForgottenModel.no(I)I -/
abbrev rmX11_no : Room := { frames := 0, cells := 0, slots := 0, locals := 0 }
set_option maxRecDepth 100000 in
theorem hvX11_no : yX11_no.cls = RX11 ∧ yX11_no.cls ≠ "java/lang/invoke/MethodHandle" ∧ yX11_no.cls ≠ "java/lang/invoke/VarHandle" ∧ (parseMethodDescriptor yX11_no.desc).map (fun d => d.parameters.length) = some 1 := by decide +kernel
set_option maxRecDepth 100000 in
set_option maxHeartbeats 4000000 in
theorem ct_X11_no (l : Launch) (D : va_G) (cI cZ cO : ClassId) (a : Nat → Nat) {u : DS} {x1 : Int32} {r : Int32} {o : DS} (hf : f_X11_no u x1 = some (r, o)) : Ct l yX11_no (uw (Cond.code yX11_no cX11_no 2 (some .int))) rmX11_no D (tyL cI cZ cO) E0 [.ref (a 0), .int x1] (wD cI cZ cO a u) (some (.int r)) (wD cI cZ cO a o) := by
  refine sm_start (cc := cX11_no) (maxL := 2) (ret := (some .int)) (own := RX11) (by decide) rfl rfl (Nat.le_of_ble_eq_true rfl) (lv := [(0, .ref (a 0)), (1, .int x1)]) rfl ?_
  intro p e s m below meth c A F hE hA
  unfold f_X11_no at hf
  refine sm_aload_n F dX11_no_0 rfl 0 rfl ?_
  refine sm_get (v := .ref (a 7)) F inX11 0 rfl rfl 7 (by decide) qw5_22 rfl rfl dX11_no_1 ?_
  refine sm_iload_n F dX11_no_4 rfl 1 rfl ?_
  refine sm_ineg F dX11_no_5 ?_
  refine sm_dup2 F dX11_no_6 rfl rfl ?_
  obtain ⟨h7, hf⟩ := ck_some hf
  refine sm_iald F 7 0 rfl rfl h7 dX11_no_7 ?_
  refine sm_iconst F dX11_no_8 kc_i_1 ?_
  refine sm_iadd F dX11_no_9 ?_
  obtain ⟨h10, hf⟩ := ck_some hf
  refine sm_iast F 7 0 rfl rfl h10 (wD cI cZ cO a (sD_ref u (upd (gD_ref u) (Int32.toNatClampNeg (-x1)) (((gD_ref u) (Int32.toNatClampNeg (-x1))) + (1 : Int32))))) rfl dX11_no_10 ?_
  obtain ⟨u10, hu10, hf⟩ := bd_some hf
  refine sm_ws (ws' := (wD cI cZ cO a u10)) (congrArg (fun z => (wD cI cZ cO a z)) (Option.some.inj hu10)) ?_
  refine sm_iload_n F dX11_no_11 rfl 1 rfl ?_
  exact sm_iret F dX11_no_12 (Prod.mk.inj (Option.some.inj hf)).1 (congrArg (fun z => (wD cI cZ cO a z)) (Prod.mk.inj (Option.some.inj hf)).2)
/-! SoManyForgottenModel.noWide(I)J -/
abbrev rmX11_noWide : Room := { frames := 1, cells := 0, slots := 0, locals := 21 }
set_option maxRecDepth 100000 in
theorem hvX11_noWide : yX11_noWide.cls = RX11 ∧ yX11_noWide.cls ≠ "java/lang/invoke/MethodHandle" ∧ yX11_noWide.cls ≠ "java/lang/invoke/VarHandle" ∧ (parseMethodDescriptor yX11_noWide.desc).map (fun d => d.parameters.length) = some 1 := by decide +kernel
set_option maxRecDepth 100000 in
set_option maxHeartbeats 4000000 in
theorem ct_X11_noWide (l : Launch) (D : va_G) (cI cZ cO : ClassId) (a : Nat → Nat) {u : DS} {x1 : Int32} {r : Int64} {o : DS} (hf : f_X11_noWide u x1 = some (r, o)) : Ct l yX11_noWide (uw (Cond.code yX11_noWide cX11_noWide 2 (some .long))) rmX11_noWide D (tyL cI cZ cO) E0 [.ref (a 0), .int x1] (wD cI cZ cO a u) (some (.long r)) (wD cI cZ cO a o) := by
  refine sm_start (cc := cX11_noWide) (maxL := 2) (ret := (some .long)) (own := RX11) (by decide) rfl rfl (Nat.le_of_ble_eq_true rfl) (lv := [(0, .ref (a 0)), (1, .int x1)]) rfl ?_
  intro p e s m below meth c A F hE hA
  unfold f_X11_noWide at hf
  refine sm_ldc2 (v := 4000000000000000000) F qw6_75 dX11_noWide_0 ?_
  refine sm_aload_n F dX11_noWide_3 rfl 0 rfl ?_
  refine sm_iload_n F dX11_noWide_4 rfl 1 rfl ?_
  obtain ⟨z5, hz5, hf⟩ := bd_some hf
  refine sm_callV (rest := [.long (4000000000000000000 : Int64)]) F (ct_X11_no l D cI cZ cO a hz5) (cut_D_id cI cZ cO a u z5.2) rfl rfl rfl qw5_59 qw5_61 qw0_29 qw1_12 qw5_62 hvX11_no ⟨Nat.le_of_ble_eq_true rfl, Nat.le_of_ble_eq_true rfl⟩ ⟨Nat.zero_le _, Nat.zero_le _⟩ 0 11 rfl rfl rfl rfl (Nat.le_of_ble_eq_true rfl) E0_b (fun _ _ _ _ _ _ => trivial) rfl dX11_noWide_5 [.int z5.1, .long (4000000000000000000 : Int64)] rfl ?_
  refine sm_i2l F dX11_noWide_8 ?_
  refine sm_lsub F dX11_noWide_9 ?_
  exact sm_lret F dX11_noWide_10 (Prod.mk.inj (Option.some.inj hf)).1 (congrArg (fun z => (wD cI cZ cO a z)) (Prod.mk.inj (Option.some.inj hf)).2)
/-! SoManyForgottenModel.of(II)I -/
abbrev rmX11_of : Room := { frames := 0, cells := 0, slots := 0, locals := 0 }
set_option maxRecDepth 100000 in
theorem hsX11_of : yX11_of.cls ≠ "java/lang/invoke/MethodHandle" ∧ yX11_of.cls ≠ "java/lang/invoke/VarHandle" ∧ (parseMethodDescriptor yX11_of.desc).map (fun d => d.parameters.length) = some 2 := by decide +kernel
set_option maxRecDepth 100000 in
set_option maxHeartbeats 4000000 in
theorem ct_X11_of (l : Launch) (D : va_G) (tys : List (ClassId × FieldType)) {x0 : Int32} {x1 : Int32} {r : Int32} (hf : f_X11_of x0 x1 = some r) : Ct l yX11_of (uw (Cond.code yX11_of cX11_of 2 (some .int))) rmX11_of D tys E0 [.int x0, .int x1] [] (some (.int r)) [] := by
  refine sm_start (cc := cX11_of) (maxL := 2) (ret := (some .int)) (own := RX11) (by decide) rfl rfl (Nat.le_of_ble_eq_true rfl) (lv := [(0, .int x0), (1, .int x1)]) rfl ?_
  intro p e s m below meth c A F hE hA
  unfold f_X11_of at hf
  refine sm_iconst F dX11_of_0 kc_i_3 ?_
  refine sm_iconst F dX11_of_1 kc_i_4 ?_
  refine sm_iload_n F dX11_of_2 rfl 0 rfl ?_
  refine sm_imul F dX11_of_3 ?_
  refine sm_iadd F dX11_of_4 ?_
  refine sm_iload_n F dX11_of_5 rfl 1 rfl ?_
  refine sm_iadd F dX11_of_6 ?_
  exact sm_iret F dX11_of_7 (Option.some.inj hf) rfl
/-! SoManyForgottenModel.by(II)I -/
abbrev rmX11_by : Room := { frames := 0, cells := 0, slots := 0, locals := 0 }
set_option maxRecDepth 100000 in
theorem hsX11_by : yX11_by.cls ≠ "java/lang/invoke/MethodHandle" ∧ yX11_by.cls ≠ "java/lang/invoke/VarHandle" ∧ (parseMethodDescriptor yX11_by.desc).map (fun d => d.parameters.length) = some 2 := by decide +kernel
set_option maxRecDepth 100000 in
set_option maxHeartbeats 4000000 in
theorem ct_X11_by (l : Launch) (D : va_G) (tys : List (ClassId × FieldType)) {x0 : Int32} {x1 : Int32} {r : Int32} (hf : f_X11_by x0 x1 = some r) : Ct l yX11_by (uw (Cond.code yX11_by cX11_by 2 (some .int))) rmX11_by D tys E0 [.int x0, .int x1] [] (some (.int r)) [] := by
  refine sm_start (cc := cX11_by) (maxL := 2) (ret := (some .int)) (own := RX11) (by decide) rfl rfl (Nat.le_of_ble_eq_true rfl) (lv := [(0, .int x0), (1, .int x1)]) rfl ?_
  intro p e s m below meth c A F hE hA
  unfold f_X11_by at hf
  refine sm_bipush F dX11_by_0 kc_b_35 ?_
  refine sm_bipush F dX11_by_2 kc_b_8 ?_
  refine sm_iload_n F dX11_by_4 rfl 0 rfl ?_
  refine sm_imul F dX11_by_5 ?_
  refine sm_iadd F dX11_by_6 ?_
  refine sm_iload_n F dX11_by_7 rfl 1 rfl ?_
  refine sm_iadd F dX11_by_8 ?_
  exact sm_iret F dX11_by_9 (Option.some.inj hf) rfl
/-! SoManyForgottenModel.isOne(I)Z -/
abbrev rmX11_isOne : Room := { frames := 1, cells := 0, slots := 0, locals := 22 }
set_option maxRecDepth 100000 in
theorem hvX11_isOne : yX11_isOne.cls = RX11 ∧ yX11_isOne.cls ≠ "java/lang/invoke/MethodHandle" ∧ yX11_isOne.cls ≠ "java/lang/invoke/VarHandle" ∧ (parseMethodDescriptor yX11_isOne.desc).map (fun d => d.parameters.length) = some 1 := by decide +kernel
set_option maxRecDepth 100000 in
set_option maxHeartbeats 4000000 in
theorem ct_X11_isOne (l : Launch) (D : va_G) (cI cZ cO : ClassId) (a : Nat → Nat) {u : DS} {x1 : Int32} {r : Int32} (hf : f_X11_isOne u x1 = some r) : Ct l yX11_isOne (uw (Cond.code yX11_isOne cX11_isOne 2 (some .boolean))) rmX11_isOne D (tyL cI cZ cO) E0 [.ref (a 0), .int x1] (wD cI cZ cO a u) (some (.int r)) (wD cI cZ cO a u) := by
  refine sm_start (cc := cX11_isOne) (maxL := 2) (ret := (some .boolean)) (own := RX11) (by decide) rfl rfl (Nat.le_of_ble_eq_true rfl) (lv := [(0, .ref (a 0)), (1, .int x1)]) rfl ?_
  intro p e s m below meth c A F hE hA
  unfold f_X11_isOne at hf
  refine sm_iload_n F dX11_isOne_0 rfl 1 rfl ?_
  refine sm_iconst F dX11_isOne_1 kc_i_0 ?_
  refine sm_aload_n F dX11_isOne_2 rfl 0 rfl ?_
  refine sm_get (v := .ref (a 1)) F inX11 0 rfl rfl 0 (by decide) qw5_15 rfl rfl dX11_isOne_3 ?_
  refine sm_iconst F dX11_isOne_6 kc_i_0 ?_
  obtain ⟨h7, hf⟩ := ck_some hf
  refine sm_iald F 1 0 rfl rfl h7 dX11_isOne_7 ?_
  refine sm_iconst F dX11_isOne_8 kc_i_1 ?_
  refine sm_isub F dX11_isOne_9 ?_
  obtain ⟨z10, hz10, hf⟩ := bd_some hf
  refine sm_callS (rest := []) F (ct_X11_isIn l D (tyL cI cZ cO) hz10) (cut_D_none cI cZ cO a u) rfl rfl rfl qw5_86 qw5_87 qw1_12 qw5_88 hsX11_isIn ⟨Nat.le_of_ble_eq_true rfl, Nat.le_of_ble_eq_true rfl⟩ ⟨Nat.zero_le _, Nat.zero_le _⟩ rfl (Nat.le_of_ble_eq_true rfl) E0_b (fun _ _ _ _ _ _ => trivial) rfl dX11_isOne_10 [.int z10] rfl ?_
  obtain ⟨h13, hf⟩ := zr_some hf
  exact sm_zret F dX11_isOne_13 h13 (Option.some.inj hf) rfl
/-! SoManyForgottenModel.areTwo(II)Z -/
abbrev rmX11_areTwo : Room := { frames := 2, cells := 0, slots := 0, locals := 43 }
set_option maxRecDepth 100000 in
theorem hvX11_areTwo : yX11_areTwo.cls = RX11 ∧ yX11_areTwo.cls ≠ "java/lang/invoke/MethodHandle" ∧ yX11_areTwo.cls ≠ "java/lang/invoke/VarHandle" ∧ (parseMethodDescriptor yX11_areTwo.desc).map (fun d => d.parameters.length) = some 2 := by decide +kernel
set_option maxRecDepth 100000 in
set_option maxHeartbeats 4000000 in
theorem ct_X11_areTwo (l : Launch) (D : va_G) (cI cZ cO : ClassId) (a : Nat → Nat) {u : DS} {x1 : Int32} {x2 : Int32} {r : Int32} (hf : f_X11_areTwo u x1 x2 = some r) : Ct l yX11_areTwo (uw (Cond.code yX11_areTwo cX11_areTwo 3 (some .boolean))) rmX11_areTwo D (tyL cI cZ cO) E0 [.ref (a 0), .int x1, .int x2] (wD cI cZ cO a u) (some (.int r)) (wD cI cZ cO a u) := by
  refine sm_start (cc := cX11_areTwo) (maxL := 3) (ret := (some .boolean)) (own := RX11) (by decide) rfl rfl (Nat.le_of_ble_eq_true rfl) (lv := [(0, .ref (a 0)), (1, .int x1), (2, .int x2)]) rfl ?_
  intro p e s m below meth c A F hE hA
  unfold f_X11_areTwo at hf
  refine sm_aload_n F dX11_areTwo_0 rfl 0 rfl ?_
  refine sm_iload_n F dX11_areTwo_1 rfl 1 rfl ?_
  obtain ⟨z2, hz2, hf⟩ := bd_some hf
  refine sm_callV (rest := []) F (ct_X11_isOne l D cI cZ cO a hz2) (cut_D_id cI cZ cO a u u) rfl rfl rfl qw5_110 qw5_112 qw0_37 qw1_12 qw5_113 hvX11_isOne ⟨Nat.le_of_ble_eq_true rfl, Nat.le_of_ble_eq_true rfl⟩ ⟨Nat.zero_le _, Nat.zero_le _⟩ 0 11 rfl rfl rfl rfl (Nat.le_of_ble_eq_true rfl) E0_b (fun _ _ _ _ _ _ => trivial) rfl dX11_areTwo_2 [.int z2] rfl ?_
  refine sm_if_eq (tgt := 25) F dX11_areTwo_5 (by decide) (fun c5 => ?_) (fun c5 => ?_)
  · replace hf := if_t c5 hf
    refine sm_iconst F dX11_areTwo_25 kc_i_0 ?_
    exact sm_zret F dX11_areTwo_26 rfl (Option.some.inj hf) rfl
  · replace hf := if_f c5 hf
    refine sm_aload_n F dX11_areTwo_8 rfl 0 rfl ?_
    refine sm_iload_n F dX11_areTwo_9 rfl 2 rfl ?_
    obtain ⟨z10, hz10, hf⟩ := bd_some hf
    refine sm_callV (rest := []) F (ct_X11_isOne l D cI cZ cO a hz10) (cut_D_id cI cZ cO a u u) rfl rfl rfl qw5_110 qw5_112 qw0_37 qw1_12 qw5_113 hvX11_isOne ⟨Nat.le_of_ble_eq_true rfl, Nat.le_of_ble_eq_true rfl⟩ ⟨Nat.zero_le _, Nat.zero_le _⟩ 0 11 rfl rfl rfl rfl (Nat.le_of_ble_eq_true rfl) E0_b (fun _ _ _ _ _ _ => trivial) rfl dX11_areTwo_10 [.int z10] rfl ?_
    refine sm_if_eq (tgt := 25) F dX11_areTwo_13 (by decide) (fun c13 => ?_) (fun c13 => ?_)
    · replace hf := if_t c13 hf
      refine sm_iconst F dX11_areTwo_25 kc_i_0 ?_
      exact sm_zret F dX11_areTwo_26 rfl (Option.some.inj hf) rfl
    · replace hf := if_f c13 hf
      refine sm_iload_n F dX11_areTwo_16 rfl 1 rfl ?_
      refine sm_iload_n F dX11_areTwo_17 rfl 2 rfl ?_
      refine sm_icmp_eq (tgt := 25) F dX11_areTwo_18 (by decide) (fun c18 => ?_) (fun c18 => ?_)
      · replace hf := if_t c18 hf
        refine sm_iconst F dX11_areTwo_25 kc_i_0 ?_
        exact sm_zret F dX11_areTwo_26 rfl (Option.some.inj hf) rfl
      · replace hf := if_f c18 hf
        refine sm_iconst F dX11_areTwo_21 kc_i_1 ?_
        refine sm_goto (tgt := 26) F dX11_areTwo_22 (by decide) ?_
        exact sm_zret F dX11_areTwo_26 rfl (Option.some.inj hf) rfl
/-! SoManyForgottenModel.isHere([II)Z -/
abbrev rmX11_isHere : Room := { frames := 1, cells := 0, slots := 0, locals := 21 }
set_option maxRecDepth 100000 in
theorem hsX11_isHere : yX11_isHere.cls ≠ "java/lang/invoke/MethodHandle" ∧ yX11_isHere.cls ≠ "java/lang/invoke/VarHandle" ∧ (parseMethodDescriptor yX11_isHere.desc).map (fun d => d.parameters.length) = some 2 := by decide +kernel
set_option maxRecDepth 100000 in
set_option maxHeartbeats 4000000 in
theorem ct_X11_isHere (l : Launch) (D : va_G) (cI cZ cO : ClassId) (a : Nat → Nat) {u : Nat → Int32} {x1 : Int32} {r : Int32} (hf : f_X11_isHere u x1 = some r) : Ct l yX11_isHere (uw (Cond.code yX11_isHere cX11_isHere 2 (some .boolean))) rmX11_isHere D (tyL cI cZ cO) E0 [.ref (a 0), .int x1] (wI cI cZ cO a u) (some (.int r)) (wI cI cZ cO a u) := by
  refine sm_start (cc := cX11_isHere) (maxL := 2) (ret := (some .boolean)) (own := RX11) (by decide) rfl rfl (Nat.le_of_ble_eq_true rfl) (lv := [(0, .ref (a 0)), (1, .int x1)]) rfl ?_
  intro p e s m below meth c A F hE hA
  unfold f_X11_isHere at hf
  refine sm_aload_n F dX11_isHere_0 rfl 0 rfl ?_
  refine sm_iload_n F dX11_isHere_1 rfl 1 rfl ?_
  refine sm_iconst F dX11_isHere_2 kc_i_2 ?_
  obtain ⟨z3, hz3, hf⟩ := bd_some hf
  refine sm_callS (rest := [.ref (a 0)]) F (ct_X11_of l D (tyL cI cZ cO) hz3) (cut_I_none cI cZ cO a u) rfl rfl rfl qw5_100 qw5_101 qw1_12 qw5_102 hsX11_of ⟨Nat.le_of_ble_eq_true rfl, Nat.le_of_ble_eq_true rfl⟩ ⟨Nat.zero_le _, Nat.zero_le _⟩ rfl (Nat.le_of_ble_eq_true rfl) E0_b (fun _ _ _ _ _ _ => trivial) rfl dX11_isHere_3 [.int z3, .ref (a 0)] rfl ?_
  obtain ⟨h6, hf⟩ := ck_some hf
  refine sm_iald F 0 0 rfl rfl h6 dX11_isHere_6 ?_
  refine sm_iconst F dX11_isHere_7 kc_i_1 ?_
  refine sm_icmp_ne (tgt := 15) F dX11_isHere_8 (by decide) (fun c8 => ?_) (fun c8 => ?_)
  · replace hf := if_f c8 hf
    refine sm_iconst F dX11_isHere_15 kc_i_0 ?_
    exact sm_zret F dX11_isHere_16 rfl (Option.some.inj hf) rfl
  · replace hf := if_t c8 hf
    refine sm_iconst F dX11_isHere_11 kc_i_1 ?_
    refine sm_goto (tgt := 16) F dX11_isHere_12 (by decide) ?_
    exact sm_zret F dX11_isHere_16 rfl (Option.some.inj hf) rfl
/-! SoManyForgottenModel.has(II)Z -/
abbrev rmX11_has : Room := { frames := 0, cells := 0, slots := 0, locals := 0 }
set_option maxRecDepth 100000 in
theorem hsX11_has : yX11_has.cls ≠ "java/lang/invoke/MethodHandle" ∧ yX11_has.cls ≠ "java/lang/invoke/VarHandle" ∧ (parseMethodDescriptor yX11_has.desc).map (fun d => d.parameters.length) = some 2 := by decide +kernel
set_option maxRecDepth 100000 in
set_option maxHeartbeats 4000000 in
theorem ct_X11_has (l : Launch) (D : va_G) (tys : List (ClassId × FieldType)) {x0 : Int32} {x1 : Int32} {r : Int32} (hf : f_X11_has x0 x1 = some r) : Ct l yX11_has (uw (Cond.code yX11_has cX11_has 2 (some .boolean))) rmX11_has D tys E0 [.int x0, .int x1] [] (some (.int r)) [] := by
  refine sm_start (cc := cX11_has) (maxL := 2) (ret := (some .boolean)) (own := RX11) (by decide) rfl rfl (Nat.le_of_ble_eq_true rfl) (lv := [(0, .int x0), (1, .int x1)]) rfl ?_
  intro p e s m below meth c A F hE hA
  unfold f_X11_has at hf
  refine sm_iload_n F dX11_has_0 rfl 0 rfl ?_
  refine sm_iload_n F dX11_has_1 rfl 1 rfl ?_
  refine sm_ishr F dX11_has_2 ?_
  refine sm_iconst F dX11_has_3 kc_i_1 ?_
  refine sm_iand F dX11_has_4 ?_
  refine sm_iconst F dX11_has_5 kc_i_1 ?_
  refine sm_icmp_ne (tgt := 13) F dX11_has_6 (by decide) (fun c6 => ?_) (fun c6 => ?_)
  · replace hf := if_f c6 hf
    refine sm_iconst F dX11_has_13 kc_i_0 ?_
    exact sm_zret F dX11_has_14 rfl (Option.some.inj hf) rfl
  · replace hf := if_t c6 hf
    refine sm_iconst F dX11_has_9 kc_i_1 ?_
    refine sm_goto (tgt := 14) F dX11_has_10 (by decide) ?_
    exact sm_zret F dX11_has_14 rfl (Option.some.inj hf) rfl
/-! SoManyForgottenModel.bits(I)I -/
abbrev rmX11_bits : Room := { frames := 0, cells := 0, slots := 0, locals := 0 }
set_option maxRecDepth 100000 in
theorem hsX11_bits : yX11_bits.cls ≠ "java/lang/invoke/MethodHandle" ∧ yX11_bits.cls ≠ "java/lang/invoke/VarHandle" ∧ (parseMethodDescriptor yX11_bits.desc).map (fun d => d.parameters.length) = some 1 := by decide +kernel
set_option maxRecDepth 100000 in
set_option maxHeartbeats 4000000 in
theorem s_X11_bits_4_b {p : Program} {l : Launch} {e : Env} {s : State} {m : MethodId} {args : Array Value} {below : List Frame} {meth : Method} {c : Code} {A : Nat → Prop} {D : va_G} {tys : List (ClassId × FieldType)} {r : Int32} (F : smF p s m args meth c cX11_bits 3 (some .int) RX11 D tys A) (x0 : Int32) (k4 : Int32 → Int32 → Option Int32) (hk4 : ∀ (x1' : Int32) (x2' : Int32), k4 x1' x2' = some r → Sm p l e rmX11_bits s m args below meth c D A 3 0 0 (smQ below args s D A (some (.int r)) []) 4 [(0, .int x0), (1, .int x1'), (2, .int x2')] [] []) (x1 : Int32) (x2 : Int32) (hf : b_X11_bits_4 x0  k4 x1 x2 = some r) : Sm p l e rmX11_bits s m args below meth c D A 3 0 0 (smQ below args s D A (some (.int r)) []) 4 [(0, .int x0), (1, .int x1), (2, .int x2)] [] [] := by
  unfold b_X11_bits_4 at hf
  refine sm_iload_n F dX11_bits_4 rfl 2 rfl ?_
  refine sm_bipush F dX11_bits_5 kc_b_8 ?_
  refine sm_icmp_ge (tgt := 24) F dX11_bits_7 (by decide) (fun c7 => ?_) (fun c7 => ?_)
  · replace hf := if_t c7 hf
    refine sm_iload_n F dX11_bits_24 rfl 1 rfl ?_
    exact sm_iret F dX11_bits_25 (Option.some.inj hf) rfl
  · replace hf := if_f c7 hf
    refine sm_iload_n F dX11_bits_10 rfl 1 rfl ?_
    refine sm_iload_n F dX11_bits_11 rfl 0 rfl ?_
    refine sm_iload_n F dX11_bits_12 rfl 2 rfl ?_
    refine sm_ishr F dX11_bits_13 ?_
    refine sm_iconst F dX11_bits_14 kc_i_1 ?_
    refine sm_iand F dX11_bits_15 ?_
    refine sm_iadd F dX11_bits_16 ?_
    refine sm_istore_n F [(0, .int x0), (1, .int (x1 + ((x0 >>> (x2 &&& 31)) &&& (1 : Int32)))), (2, .int x2)] [1, 0, 2] dX11_bits_17 rfl (by decide) rfl ?_
    refine sm_iinc F [(0, .int x0), (1, .int (x1 + ((x0 >>> (x2 &&& 31)) &&& (1 : Int32)))), (2, .int (x2 + 1))] 2 [1, 2, 0] dX11_bits_18 rfl kc_i_1 (by decide) rfl ?_
    refine sm_goto (tgt := 4) F dX11_bits_21 (by decide) ?_
    exact hk4 (x1 + ((x0 >>> (x2 &&& 31)) &&& (1 : Int32))) (x2 + 1) hf
set_option maxRecDepth 100000 in
set_option maxHeartbeats 4000000 in
theorem s_X11_bits_4 {p : Program} {l : Launch} {e : Env} {s : State} {m : MethodId} {args : Array Value} {below : List Frame} {meth : Method} {c : Code} {A : Nat → Prop} {D : va_G} {tys : List (ClassId × FieldType)} {r : Int32} (F : smF p s m args meth c cX11_bits 3 (some .int) RX11 D tys A) (x0 : Int32)  (n : Nat) (x1 : Int32) (x2 : Int32) (hf : f_X11_bits_4 x0  n x1 x2 = some r) : Sm p l e rmX11_bits s m args below meth c D A 3 0 0 (smQ below args s D A (some (.int r)) []) 4 [(0, .int x0), (1, .int x1), (2, .int x2)] [] [] :=
  lq2_ind (P := fun (x1 : Int32) (x2 : Int32) => Sm p l e rmX11_bits s m args below meth c D A 3 0 0 (smQ below args s D A (some (.int r)) []) 4 [(0, .int x0), (1, .int x1), (2, .int x2)] [] []) (fun k4 hk4 x1 x2 h9 => s_X11_bits_4_b F x0  k4 hk4 x1 x2 h9) n x1 x2 hf
set_option maxRecDepth 100000 in
set_option maxHeartbeats 4000000 in
theorem ct_X11_bits (l : Launch) (D : va_G) (tys : List (ClassId × FieldType)) {x0 : Int32} {r : Int32} (hf : f_X11_bits x0 = some r) : Ct l yX11_bits (uw (Cond.code yX11_bits cX11_bits 3 (some .int))) rmX11_bits D tys E0 [.int x0] [] (some (.int r)) [] := by
  refine sm_start (cc := cX11_bits) (maxL := 3) (ret := (some .int)) (own := RX11) (by decide) rfl rfl (Nat.le_of_ble_eq_true rfl) (lv := [(0, .int x0)]) rfl ?_
  intro p e s m below meth c A F hE hA
  unfold f_X11_bits at hf
  refine sm_iconst F dX11_bits_0 kc_i_0 ?_
  refine sm_istore_n F [(0, .int x0), (1, .int (0 : Int32))] [1, 0] dX11_bits_1 rfl (by decide) rfl ?_
  refine sm_iconst F dX11_bits_2 kc_i_0 ?_
  refine sm_istore_n F [(0, .int x0), (1, .int (0 : Int32)), (2, .int (0 : Int32))] [1, 2, 0] dX11_bits_3 rfl (by decide) rfl ?_
  exact s_X11_bits_4 F x0 smN (0 : Int32) (0 : Int32) hf
/-! SoManyForgottenModel.changeBy([II)I -/
abbrev rmX11_changeBy : Room := { frames := 1, cells := 0, slots := 0, locals := 21 }
set_option maxRecDepth 100000 in
theorem hsX11_changeBy : yX11_changeBy.cls ≠ "java/lang/invoke/MethodHandle" ∧ yX11_changeBy.cls ≠ "java/lang/invoke/VarHandle" ∧ (parseMethodDescriptor yX11_changeBy.desc).map (fun d => d.parameters.length) = some 2 := by decide +kernel
set_option maxRecDepth 100000 in
set_option maxHeartbeats 4000000 in
theorem s_X11_changeBy_46 {p : Program} {l : Launch} {e : Env} {s : State} {m : MethodId} {args : Array Value} {below : List Frame} {meth : Method} {c : Code} {A : Nat → Prop} {D : va_G} {cI cZ cO : ClassId} {a : Nat → Nat} {r : Int32} (F : smF p s m args meth c cX11_changeBy 6 (some .int) RX11 D (tyL cI cZ cO) A) (u : Nat → Int32) (x1 : Int32)  (x2 : Int32) (x3 : Int32) (x4 : Int32) (y0 : Int32) (hf : f_X11_changeBy_46 u x1   x2 x3 x4 y0 = some r) : Sm p l e rmX11_changeBy s m args below meth c D A 6 0 0 (smQ below args s D A (some (.int r)) (wI cI cZ cO a u)) 46 [(0, .ref (a 0)), (1, .int x1), (2, .int x2), (3, .int x3), (4, .int x4)] [.int y0] (wI cI cZ cO a u) := by
  unfold f_X11_changeBy_46 at hf
  refine sm_istore F [(0, .ref (a 0)), (1, .int x1), (2, .int x2), (3, .int x3), (4, .int x4), (5, .int y0)] [1, 2, 3, 4, 5, 0] dX11_changeBy_46 (by decide) rfl ?_
  refine sm_aload_n F dX11_changeBy_48 rfl 0 rfl ?_
  refine sm_iload_n F dX11_changeBy_49 rfl 1 rfl ?_
  refine sm_iconst F dX11_changeBy_50 kc_i_0 ?_
  obtain ⟨z51, hz51, hf⟩ := bd_some hf
  refine sm_callS (rest := [.ref (a 0)]) F (ct_X11_of l D (tyL cI cZ cO) hz51) (cut_I_none cI cZ cO a u) rfl rfl rfl qw5_100 qw5_101 qw1_12 qw5_102 hsX11_of ⟨Nat.le_of_ble_eq_true rfl, Nat.le_of_ble_eq_true rfl⟩ ⟨Nat.zero_le _, Nat.zero_le _⟩ rfl (Nat.le_of_ble_eq_true rfl) E0_b (fun _ _ _ _ _ _ => trivial) rfl dX11_changeBy_51 [.int z51, .ref (a 0)] rfl ?_
  obtain ⟨h54, hf⟩ := ck_some hf
  refine sm_iald F 0 0 rfl rfl h54 dX11_changeBy_54 ?_
  by_cases w55_1 : (u (Int32.toNatClampNeg z51)) = 1
  · replace hf := if_t w55_1 hf
    refine sm_tableIn (off := 33) (tgt := 88) F dX11_changeBy_55 (by rw [w55_1]; decide) (by rw [w55_1]; decide) (by rw [w55_1]; rfl) (by decide) ?_
    refine sm_iload F dX11_changeBy_88 4 rfl ?_
    exact sm_iret F dX11_changeBy_90 (Option.some.inj hf) rfl
  replace hf := if_f w55_1 hf
  by_cases w55_2 : (u (Int32.toNatClampNeg z51)) = 2
  · replace hf := if_t w55_2 hf
    refine sm_tableIn (off := 36) (tgt := 91) F dX11_changeBy_55 (by rw [w55_2]; decide) (by rw [w55_2]; decide) (by rw [w55_2]; rfl) (by decide) ?_
    refine sm_iload F dX11_changeBy_91 5 rfl ?_
    exact sm_iret F dX11_changeBy_93 (Option.some.inj hf) rfl
  replace hf := if_f w55_2 hf
  by_cases w55_3 : (u (Int32.toNatClampNeg z51)) = 3
  · replace hf := if_t w55_3 hf
    refine sm_tableIn (off := 39) (tgt := 94) F dX11_changeBy_55 (by rw [w55_3]; decide) (by rw [w55_3]; decide) (by rw [w55_3]; rfl) (by decide) ?_
    refine sm_iload F dX11_changeBy_94 4 rfl ?_
    refine sm_iload_n F dX11_changeBy_96 rfl 2 rfl ?_
    refine sm_iadd F dX11_changeBy_97 ?_
    exact sm_iret F dX11_changeBy_98 (Option.some.inj hf) rfl
  replace hf := if_f w55_3 hf
  by_cases w55_4 : (u (Int32.toNatClampNeg z51)) = 4
  · replace hf := if_t w55_4 hf
    refine sm_tableIn (off := 44) (tgt := 99) F dX11_changeBy_55 (by rw [w55_4]; decide) (by rw [w55_4]; decide) (by rw [w55_4]; rfl) (by decide) ?_
    refine sm_iconst F dX11_changeBy_99 kc_i_0 ?_
    exact sm_iret F dX11_changeBy_100 (Option.some.inj hf) rfl
  replace hf := if_f w55_4 hf
  by_cases w55_5 : (u (Int32.toNatClampNeg z51)) = 5
  · replace hf := if_t w55_5 hf
    refine sm_tableIn (off := 46) (tgt := 101) F dX11_changeBy_55 (by rw [w55_5]; decide) (by rw [w55_5]; decide) (by rw [w55_5]; rfl) (by decide) ?_
    refine sm_iload_n F dX11_changeBy_101 rfl 3 rfl ?_
    refine sm_iconst F dX11_changeBy_102 kc_i_2 ?_
    refine sm_irem F dX11_changeBy_103 (by decide) ?_
    refine sm_iconst F dX11_changeBy_104 kc_i_1 ?_
    refine sm_icmp_ne (tgt := 115) F dX11_changeBy_105 (by decide) (fun c105 => ?_) (fun c105 => ?_)
    · replace hf := if_f c105 hf
      refine sm_iload F dX11_changeBy_115 5 rfl ?_
      exact sm_iret F dX11_changeBy_117 (Option.some.inj hf) rfl
    · replace hf := if_t c105 hf
      refine sm_iload F dX11_changeBy_108 5 rfl ?_
      refine sm_iconst F dX11_changeBy_110 kc_i_2 ?_
      refine sm_iadd F dX11_changeBy_111 ?_
      refine sm_goto (tgt := 117) F dX11_changeBy_112 (by decide) ?_
      exact sm_iret F dX11_changeBy_117 (Option.some.inj hf) rfl
  replace hf := if_f w55_5 hf
  have e55_1 := lv_neT w55_1 (a := 1) rfl
  have e55_2 := lv_neT w55_2 (a := 2) rfl
  have e55_3 := lv_neT w55_3 (a := 3) rfl
  have e55_4 := lv_neT w55_4 (a := 4) rfl
  have e55_5 := lv_neT w55_5 (a := 5) rfl
  have T55 : ∀ i : Nat, i < 5 → (#[33, 36, 39, 44, 46] : Array Int)[i]? = some 63 ∨ i ∈ ([0, 1, 2, 3, 4] : List Nat) := by decide
  refine sm_tableX (tgt := 118) F dX11_changeBy_55 (by decide) (fun i hi hx => (T55 i hi).elim id (fun q => by simp only [List.mem_cons, List.not_mem_nil, or_false] at q; exfalso; omega)) (by decide) ?_
  refine sm_iconst F dX11_changeBy_118 kc_i_m1 ?_
  exact sm_iret F dX11_changeBy_119 (Option.some.inj hf) rfl
set_option maxRecDepth 100000 in
set_option maxHeartbeats 4000000 in
theorem ct_X11_changeBy (l : Launch) (D : va_G) (cI cZ cO : ClassId) (a : Nat → Nat) {u : Nat → Int32} {x1 : Int32} {r : Int32} (hf : f_X11_changeBy u x1 = some r) : Ct l yX11_changeBy (uw (Cond.code yX11_changeBy cX11_changeBy 6 (some .int))) rmX11_changeBy D (tyL cI cZ cO) E0 [.ref (a 0), .int x1] (wI cI cZ cO a u) (some (.int r)) (wI cI cZ cO a u) := by
  refine sm_start (cc := cX11_changeBy) (maxL := 6) (ret := (some .int)) (own := RX11) (by decide) rfl rfl (Nat.le_of_ble_eq_true rfl) (lv := [(0, .ref (a 0)), (1, .int x1)]) rfl ?_
  intro p e s m below meth c A F hE hA
  unfold f_X11_changeBy at hf
  refine sm_aload_n F dX11_changeBy_0 rfl 0 rfl ?_
  refine sm_iload_n F dX11_changeBy_1 rfl 1 rfl ?_
  refine sm_iconst F dX11_changeBy_2 kc_i_1 ?_
  obtain ⟨z3, hz3, hf⟩ := bd_some hf
  refine sm_callS (rest := [.ref (a 0)]) F (ct_X11_of l D (tyL cI cZ cO) hz3) (cut_I_none cI cZ cO a u) rfl rfl rfl qw5_100 qw5_101 qw1_12 qw5_102 hsX11_of ⟨Nat.le_of_ble_eq_true rfl, Nat.le_of_ble_eq_true rfl⟩ ⟨Nat.zero_le _, Nat.zero_le _⟩ rfl (Nat.le_of_ble_eq_true rfl) E0_b (fun _ _ _ _ _ _ => trivial) rfl dX11_changeBy_3 [.int z3, .ref (a 0)] rfl ?_
  obtain ⟨h6, hf⟩ := ck_some hf
  refine sm_iald F 0 0 rfl rfl h6 dX11_changeBy_6 ?_
  refine sm_istore_n F [(0, .ref (a 0)), (1, .int x1), (2, .int (u (Int32.toNatClampNeg z3)))] [1, 2, 0] dX11_changeBy_7 rfl (by decide) rfl ?_
  refine sm_aload_n F dX11_changeBy_8 rfl 0 rfl ?_
  refine sm_iconst F dX11_changeBy_9 kc_i_1 ?_
  obtain ⟨h10, hf⟩ := ck_some hf
  refine sm_iald F 0 0 rfl rfl h10 dX11_changeBy_10 ?_
  refine sm_istore_n F [(0, .ref (a 0)), (1, .int x1), (2, .int (u (Int32.toNatClampNeg z3))), (3, .int (u (Int32.toNatClampNeg (1 : Int32))))] [1, 2, 3, 0] dX11_changeBy_11 rfl (by decide) rfl ?_
  refine sm_aload_n F dX11_changeBy_12 rfl 0 rfl ?_
  refine sm_iload_n F dX11_changeBy_13 rfl 1 rfl ?_
  refine sm_iconst F dX11_changeBy_14 kc_i_3 ?_
  obtain ⟨z15, hz15, hf⟩ := bd_some hf
  refine sm_callS (rest := [.ref (a 0)]) F (ct_X11_of l D (tyL cI cZ cO) hz15) (cut_I_none cI cZ cO a u) rfl rfl rfl qw5_100 qw5_101 qw1_12 qw5_102 hsX11_of ⟨Nat.le_of_ble_eq_true rfl, Nat.le_of_ble_eq_true rfl⟩ ⟨Nat.zero_le _, Nat.zero_le _⟩ rfl (Nat.le_of_ble_eq_true rfl) E0_b (fun _ _ _ _ _ _ => trivial) rfl dX11_changeBy_15 [.int z15, .ref (a 0)] rfl ?_
  obtain ⟨h18, hf⟩ := ck_some hf
  refine sm_iald F 0 0 rfl rfl h18 dX11_changeBy_18 ?_
  refine sm_bipush F dX11_changeBy_19 kc_b_10 ?_
  refine sm_idiv F dX11_changeBy_21 (by decide) ?_
  refine sm_ineg F dX11_changeBy_22 ?_
  refine sm_istore F [(0, .ref (a 0)), (1, .int x1), (2, .int (u (Int32.toNatClampNeg z3))), (3, .int (u (Int32.toNatClampNeg (1 : Int32)))), (4, .int (-((u (Int32.toNatClampNeg z15)) / (10 : Int32))))] [1, 2, 3, 4, 0] dX11_changeBy_23 (by decide) rfl ?_
  refine sm_iload_n F dX11_changeBy_25 rfl 3 rfl ?_
  refine sm_bipush F dX11_changeBy_26 kc_b_10 ?_
  refine sm_irem F dX11_changeBy_28 (by decide) ?_
  refine sm_bipush F dX11_changeBy_29 kc_b_8 ?_
  refine sm_icmp_ge (tgt := 41) F dX11_changeBy_31 (by decide) (fun c31 => ?_) (fun c31 => ?_)
  · replace hf := if_t c31 hf
    refine sm_iconst F dX11_changeBy_41 kc_i_2 ?_
    refine sm_goto (tgt := 46) F dX11_changeBy_42 (by decide) ?_
    exact s_X11_changeBy_46 F u x1 (u (Int32.toNatClampNeg z3)) (u (Int32.toNatClampNeg (1 : Int32))) (-((u (Int32.toNatClampNeg z15)) / (10 : Int32))) (2 : Int32) hf
  · replace hf := if_f c31 hf
    refine sm_iload_n F dX11_changeBy_34 rfl 3 rfl ?_
    refine sm_bipush F dX11_changeBy_35 kc_b_10 ?_
    refine sm_irem F dX11_changeBy_37 (by decide) ?_
    refine sm_if_ne (tgt := 45) F dX11_changeBy_38 (by decide) (fun c38 => ?_) (fun c38 => ?_)
    · replace hf := if_f c38 hf
      refine sm_iconst F dX11_changeBy_45 kc_i_m1 ?_
      exact s_X11_changeBy_46 F u x1 (u (Int32.toNatClampNeg z3)) (u (Int32.toNatClampNeg (1 : Int32))) (-((u (Int32.toNatClampNeg z15)) / (10 : Int32))) ((-1) : Int32) hf
    · replace hf := if_t c38 hf
      refine sm_iconst F dX11_changeBy_41 kc_i_2 ?_
      refine sm_goto (tgt := 46) F dX11_changeBy_42 (by decide) ?_
      exact s_X11_changeBy_46 F u x1 (u (Int32.toNatClampNeg z3)) (u (Int32.toNatClampNeg (1 : Int32))) (-((u (Int32.toNatClampNeg z15)) / (10 : Int32))) (2 : Int32) hf
/-! SoManyForgottenModel.mayBeNamed([II)Z -/
abbrev rmX11_mayBeNamed : Room := { frames := 1, cells := 0, slots := 0, locals := 21 }
set_option maxRecDepth 100000 in
theorem hsX11_mayBeNamed : yX11_mayBeNamed.cls ≠ "java/lang/invoke/MethodHandle" ∧ yX11_mayBeNamed.cls ≠ "java/lang/invoke/VarHandle" ∧ (parseMethodDescriptor yX11_mayBeNamed.desc).map (fun d => d.parameters.length) = some 2 := by decide +kernel
set_option maxRecDepth 100000 in
set_option maxHeartbeats 4000000 in
theorem ct_X11_mayBeNamed (l : Launch) (D : va_G) (cI cZ cO : ClassId) (a : Nat → Nat) {u : Nat → Int32} {x1 : Int32} {r : Int32} (hf : f_X11_mayBeNamed u x1 = some r) : Ct l yX11_mayBeNamed (uw (Cond.code yX11_mayBeNamed cX11_mayBeNamed 3 (some .boolean))) rmX11_mayBeNamed D (tyL cI cZ cO) E0 [.ref (a 0), .int x1] (wI cI cZ cO a u) (some (.int r)) (wI cI cZ cO a u) := by
  refine sm_start (cc := cX11_mayBeNamed) (maxL := 3) (ret := (some .boolean)) (own := RX11) (by decide) rfl rfl (Nat.le_of_ble_eq_true rfl) (lv := [(0, .ref (a 0)), (1, .int x1)]) rfl ?_
  intro p e s m below meth c A F hE hA
  unfold f_X11_mayBeNamed at hf
  refine sm_aload_n F dX11_mayBeNamed_0 rfl 0 rfl ?_
  refine sm_iload_n F dX11_mayBeNamed_1 rfl 1 rfl ?_
  refine sm_iconst F dX11_mayBeNamed_2 kc_i_0 ?_
  obtain ⟨z3, hz3, hf⟩ := bd_some hf
  refine sm_callS (rest := [.ref (a 0)]) F (ct_X11_of l D (tyL cI cZ cO) hz3) (cut_I_none cI cZ cO a u) rfl rfl rfl qw5_100 qw5_101 qw1_12 qw5_102 hsX11_of ⟨Nat.le_of_ble_eq_true rfl, Nat.le_of_ble_eq_true rfl⟩ ⟨Nat.zero_le _, Nat.zero_le _⟩ rfl (Nat.le_of_ble_eq_true rfl) E0_b (fun _ _ _ _ _ _ => trivial) rfl dX11_mayBeNamed_3 [.int z3, .ref (a 0)] rfl ?_
  obtain ⟨h6, hf⟩ := ck_some hf
  refine sm_iald F 0 0 rfl rfl h6 dX11_mayBeNamed_6 ?_
  refine sm_istore_n F [(0, .ref (a 0)), (1, .int x1), (2, .int (u (Int32.toNatClampNeg z3)))] [1, 2, 0] dX11_mayBeNamed_7 rfl (by decide) rfl ?_
  refine sm_iload_n F dX11_mayBeNamed_8 rfl 2 rfl ?_
  refine sm_iconst F dX11_mayBeNamed_9 kc_i_4 ?_
  refine sm_icmp_eq (tgt := 33) F dX11_mayBeNamed_10 (by decide) (fun c10 => ?_) (fun c10 => ?_)
  · replace hf := if_t c10 hf
    refine sm_iconst F dX11_mayBeNamed_33 kc_i_0 ?_
    exact sm_zret F dX11_mayBeNamed_34 rfl (Option.some.inj hf) rfl
  · replace hf := if_f c10 hf
    refine sm_iload_n F dX11_mayBeNamed_13 rfl 2 rfl ?_
    refine sm_iconst F dX11_mayBeNamed_14 kc_i_5 ?_
    refine sm_icmp_ne (tgt := 29) F dX11_mayBeNamed_15 (by decide) (fun c15 => ?_) (fun c15 => ?_)
    · replace hf := if_f c15 hf
      refine sm_iconst F dX11_mayBeNamed_29 kc_i_1 ?_
      refine sm_goto (tgt := 34) F dX11_mayBeNamed_30 (by decide) ?_
      exact sm_zret F dX11_mayBeNamed_34 rfl (Option.some.inj hf) rfl
    · replace hf := if_t c15 hf
      refine sm_aload_n F dX11_mayBeNamed_18 rfl 0 rfl ?_
      refine sm_iload_n F dX11_mayBeNamed_19 rfl 1 rfl ?_
      refine sm_iconst F dX11_mayBeNamed_20 kc_i_1 ?_
      obtain ⟨z21, hz21, hf⟩ := bd_some hf
      refine sm_callS (rest := [.ref (a 0)]) F (ct_X11_of l D (tyL cI cZ cO) hz21) (cut_I_none cI cZ cO a u) rfl rfl rfl qw5_100 qw5_101 qw1_12 qw5_102 hsX11_of ⟨Nat.le_of_ble_eq_true rfl, Nat.le_of_ble_eq_true rfl⟩ ⟨Nat.zero_le _, Nat.zero_le _⟩ rfl (Nat.le_of_ble_eq_true rfl) E0_b (fun _ _ _ _ _ _ => trivial) rfl dX11_mayBeNamed_21 [.int z21, .ref (a 0)] rfl ?_
      obtain ⟨h24, hf⟩ := ck_some hf
      refine sm_iald F 0 0 rfl rfl h24 dX11_mayBeNamed_24 ?_
      refine sm_iconst F dX11_mayBeNamed_25 kc_i_5 ?_
      refine sm_icmp_ge (tgt := 33) F dX11_mayBeNamed_26 (by decide) (fun c26 => ?_) (fun c26 => ?_)
      · replace hf := if_t c26 hf
        refine sm_iconst F dX11_mayBeNamed_33 kc_i_0 ?_
        exact sm_zret F dX11_mayBeNamed_34 rfl (Option.some.inj hf) rfl
      · replace hf := if_f c26 hf
        refine sm_iconst F dX11_mayBeNamed_29 kc_i_1 ?_
        refine sm_goto (tgt := 34) F dX11_mayBeNamed_30 (by decide) ?_
        exact sm_zret F dX11_mayBeNamed_34 rfl (Option.some.inj hf) rfl
/-! SoManyForgottenModel.knownIn([II)I -/
abbrev rmX11_knownIn : Room := { frames := 2, cells := 0, slots := 0, locals := 42 }
set_option maxRecDepth 100000 in
theorem hsX11_knownIn : yX11_knownIn.cls ≠ "java/lang/invoke/MethodHandle" ∧ yX11_knownIn.cls ≠ "java/lang/invoke/VarHandle" ∧ (parseMethodDescriptor yX11_knownIn.desc).map (fun d => d.parameters.length) = some 2 := by decide +kernel
set_option maxRecDepth 100000 in
set_option maxHeartbeats 4000000 in
theorem s_X11_knownIn_4_b {p : Program} {l : Launch} {e : Env} {s : State} {m : MethodId} {args : Array Value} {below : List Frame} {meth : Method} {c : Code} {A : Nat → Prop} {D : va_G} {cI cZ cO : ClassId} {a : Nat → Nat} {r : Int32} (F : smF p s m args meth c cX11_knownIn 4 (some .int) RX11 D (tyL cI cZ cO) A) (u : Nat → Int32) (x1 : Int32) (k4 : Int32 → Int32 → Option Int32) (hk4 : ∀ (x2' : Int32) (x3' : Int32), k4 x2' x3' = some r → Sm p l e rmX11_knownIn s m args below meth c D A 4 0 0 (smQ below args s D A (some (.int r)) (wI cI cZ cO a u)) 4 [(0, .ref (a 0)), (1, .int x1), (2, .int x2'), (3, .int x3')] [] (wI cI cZ cO a u)) (x2 : Int32) (x3 : Int32) (hf : b_X11_knownIn_4 u x1  k4 x2 x3 = some r) : Sm p l e rmX11_knownIn s m args below meth c D A 4 0 0 (smQ below args s D A (some (.int r)) (wI cI cZ cO a u)) 4 [(0, .ref (a 0)), (1, .int x1), (2, .int x2), (3, .int x3)] [] (wI cI cZ cO a u) := by
  unfold b_X11_knownIn_4 at hf
  refine sm_iload_n F dX11_knownIn_4 rfl 3 rfl ?_
  refine sm_aload_n F dX11_knownIn_5 rfl 0 rfl ?_
  refine sm_iconst F dX11_knownIn_6 kc_i_0 ?_
  obtain ⟨h7, hf⟩ := ck_some hf
  refine sm_iald F 0 0 rfl rfl h7 dX11_knownIn_7 ?_
  refine sm_icmp_ge (tgt := 44) F dX11_knownIn_8 (by decide) (fun c8 => ?_) (fun c8 => ?_)
  · replace hf := if_t c8 hf
    refine sm_iload_n F dX11_knownIn_44 rfl 2 rfl ?_
    exact sm_iret F dX11_knownIn_45 (Option.some.inj hf) rfl
  · replace hf := if_f c8 hf
    refine sm_iload_n F dX11_knownIn_11 rfl 2 rfl ?_
    refine sm_iload_n F dX11_knownIn_12 rfl 3 rfl ?_
    refine sm_iload_n F dX11_knownIn_13 rfl 1 rfl ?_
    refine sm_icmp_eq (tgt := 35) F dX11_knownIn_14 (by decide) (fun c14 => ?_) (fun c14 => ?_)
    · replace hf := if_t c14 hf
      refine sm_iconst F dX11_knownIn_35 kc_i_0 ?_
      refine sm_iadd F dX11_knownIn_36 ?_
      refine sm_istore_n F [(0, .ref (a 0)), (1, .int x1), (2, .int (x2 + (0 : Int32))), (3, .int x3)] [1, 2, 0, 3] dX11_knownIn_37 rfl (by decide) rfl ?_
      refine sm_iinc F [(0, .ref (a 0)), (1, .int x1), (2, .int (x2 + (0 : Int32))), (3, .int (x3 + 1))] 3 [1, 2, 3, 0] dX11_knownIn_38 rfl kc_i_1 (by decide) rfl ?_
      refine sm_goto (tgt := 4) F dX11_knownIn_41 (by decide) ?_
      exact hk4 (x2 + (0 : Int32)) (x3 + 1) hf
    · replace hf := if_f c14 hf
      refine sm_aload_n F dX11_knownIn_17 rfl 0 rfl ?_
      refine sm_iload_n F dX11_knownIn_18 rfl 3 rfl ?_
      obtain ⟨z19, hz19, hf⟩ := bd_some hf
      refine sm_callS (rest := [.int x2]) F (ct_X11_isHere l D cI cZ cO a hz19) (cut_I_id cI cZ cO a u u) rfl rfl rfl qw5_114 qw5_115 qw1_12 qw5_116 hsX11_isHere ⟨Nat.le_of_ble_eq_true rfl, Nat.le_of_ble_eq_true rfl⟩ ⟨Nat.zero_le _, Nat.zero_le _⟩ rfl (Nat.le_of_ble_eq_true rfl) E0_b (fun _ _ _ _ _ _ => trivial) rfl dX11_knownIn_19 [.int z19, .int x2] rfl ?_
      refine sm_if_eq (tgt := 35) F dX11_knownIn_22 (by decide) (fun c22 => ?_) (fun c22 => ?_)
      · replace hf := if_t c22 hf
        refine sm_iconst F dX11_knownIn_35 kc_i_0 ?_
        refine sm_iadd F dX11_knownIn_36 ?_
        refine sm_istore_n F [(0, .ref (a 0)), (1, .int x1), (2, .int (x2 + (0 : Int32))), (3, .int x3)] [1, 2, 0, 3] dX11_knownIn_37 rfl (by decide) rfl ?_
        refine sm_iinc F [(0, .ref (a 0)), (1, .int x1), (2, .int (x2 + (0 : Int32))), (3, .int (x3 + 1))] 3 [1, 2, 3, 0] dX11_knownIn_38 rfl kc_i_1 (by decide) rfl ?_
        refine sm_goto (tgt := 4) F dX11_knownIn_41 (by decide) ?_
        exact hk4 (x2 + (0 : Int32)) (x3 + 1) hf
      · replace hf := if_f c22 hf
        refine sm_aload_n F dX11_knownIn_25 rfl 0 rfl ?_
        refine sm_iload_n F dX11_knownIn_26 rfl 3 rfl ?_
        refine sm_iload_n F dX11_knownIn_27 rfl 1 rfl ?_
        obtain ⟨z28, hz28, hf⟩ := bd_some hf
        refine sm_callS (rest := [.ref (a 0), .int x2]) F (ct_X11_by l D (tyL cI cZ cO) hz28) (cut_I_none cI cZ cO a u) rfl rfl rfl qw5_103 qw5_104 qw1_12 qw5_105 hsX11_by ⟨Nat.le_of_ble_eq_true rfl, Nat.le_of_ble_eq_true rfl⟩ ⟨Nat.zero_le _, Nat.zero_le _⟩ rfl (Nat.le_of_ble_eq_true rfl) E0_b (fun _ _ _ _ _ _ => trivial) rfl dX11_knownIn_28 [.int z28, .ref (a 0), .int x2] rfl ?_
        obtain ⟨h31, hf⟩ := ck_some hf
        refine sm_iald F 0 0 rfl rfl h31 dX11_knownIn_31 ?_
        refine sm_goto (tgt := 36) F dX11_knownIn_32 (by decide) ?_
        refine sm_iadd F dX11_knownIn_36 ?_
        refine sm_istore_n F [(0, .ref (a 0)), (1, .int x1), (2, .int (x2 + (u (Int32.toNatClampNeg z28)))), (3, .int x3)] [1, 2, 0, 3] dX11_knownIn_37 rfl (by decide) rfl ?_
        refine sm_iinc F [(0, .ref (a 0)), (1, .int x1), (2, .int (x2 + (u (Int32.toNatClampNeg z28)))), (3, .int (x3 + 1))] 3 [1, 2, 3, 0] dX11_knownIn_38 rfl kc_i_1 (by decide) rfl ?_
        refine sm_goto (tgt := 4) F dX11_knownIn_41 (by decide) ?_
        exact hk4 (x2 + (u (Int32.toNatClampNeg z28))) (x3 + 1) hf
set_option maxRecDepth 100000 in
set_option maxHeartbeats 4000000 in
theorem s_X11_knownIn_4 {p : Program} {l : Launch} {e : Env} {s : State} {m : MethodId} {args : Array Value} {below : List Frame} {meth : Method} {c : Code} {A : Nat → Prop} {D : va_G} {cI cZ cO : ClassId} {a : Nat → Nat} {r : Int32} (F : smF p s m args meth c cX11_knownIn 4 (some .int) RX11 D (tyL cI cZ cO) A) (u : Nat → Int32) (x1 : Int32)  (n : Nat) (x2 : Int32) (x3 : Int32) (hf : f_X11_knownIn_4 u x1  n x2 x3 = some r) : Sm p l e rmX11_knownIn s m args below meth c D A 4 0 0 (smQ below args s D A (some (.int r)) (wI cI cZ cO a u)) 4 [(0, .ref (a 0)), (1, .int x1), (2, .int x2), (3, .int x3)] [] (wI cI cZ cO a u) :=
  lq2_ind (P := fun (x2 : Int32) (x3 : Int32) => Sm p l e rmX11_knownIn s m args below meth c D A 4 0 0 (smQ below args s D A (some (.int r)) (wI cI cZ cO a u)) 4 [(0, .ref (a 0)), (1, .int x1), (2, .int x2), (3, .int x3)] [] (wI cI cZ cO a u)) (fun k4 hk4 x2 x3 h9 => s_X11_knownIn_4_b F u x1  k4 hk4 x2 x3 h9) n x2 x3 hf
set_option maxRecDepth 100000 in
set_option maxHeartbeats 4000000 in
theorem ct_X11_knownIn (l : Launch) (D : va_G) (cI cZ cO : ClassId) (a : Nat → Nat) {u : Nat → Int32} {x1 : Int32} {r : Int32} (hf : f_X11_knownIn u x1 = some r) : Ct l yX11_knownIn (uw (Cond.code yX11_knownIn cX11_knownIn 4 (some .int))) rmX11_knownIn D (tyL cI cZ cO) E0 [.ref (a 0), .int x1] (wI cI cZ cO a u) (some (.int r)) (wI cI cZ cO a u) := by
  refine sm_start (cc := cX11_knownIn) (maxL := 4) (ret := (some .int)) (own := RX11) (by decide) rfl rfl (Nat.le_of_ble_eq_true rfl) (lv := [(0, .ref (a 0)), (1, .int x1)]) rfl ?_
  intro p e s m below meth c A F hE hA
  unfold f_X11_knownIn at hf
  refine sm_iconst F dX11_knownIn_0 kc_i_0 ?_
  refine sm_istore_n F [(0, .ref (a 0)), (1, .int x1), (2, .int (0 : Int32))] [1, 2, 0] dX11_knownIn_1 rfl (by decide) rfl ?_
  refine sm_iconst F dX11_knownIn_2 kc_i_0 ?_
  refine sm_istore_n F [(0, .ref (a 0)), (1, .int x1), (2, .int (0 : Int32)), (3, .int (0 : Int32))] [1, 2, 3, 0] dX11_knownIn_3 rfl (by decide) rfl ?_
  exact s_X11_knownIn_4 F u x1 smN (0 : Int32) (0 : Int32) hf
/-! SoManyForgottenModel.leastIn([I)I -/
abbrev rmX11_leastIn : Room := { frames := 3, cells := 0, slots := 0, locals := 65 }
set_option maxRecDepth 100000 in
theorem hsX11_leastIn : yX11_leastIn.cls ≠ "java/lang/invoke/MethodHandle" ∧ yX11_leastIn.cls ≠ "java/lang/invoke/VarHandle" ∧ (parseMethodDescriptor yX11_leastIn.desc).map (fun d => d.parameters.length) = some 1 := by decide +kernel
set_option maxRecDepth 100000 in
set_option maxHeartbeats 4000000 in
theorem s_X11_leastIn_5_b {p : Program} {l : Launch} {e : Env} {s : State} {m : MethodId} {args : Array Value} {below : List Frame} {meth : Method} {c : Code} {A : Nat → Prop} {D : va_G} {cI cZ cO : ClassId} {a : Nat → Nat} {r : Int32} (F : smF p s m args meth c cX11_leastIn 3 (some .int) RX11 D (tyL cI cZ cO) A) (u : Nat → Int32) (k5 : Int32 → Int32 → Option Int32) (hk5 : ∀ (x1' : Int32) (x2' : Int32), k5 x1' x2' = some r → Sm p l e rmX11_leastIn s m args below meth c D A 3 0 0 (smQ below args s D A (some (.int r)) (wI cI cZ cO a u)) 5 [(0, .ref (a 0)), (1, .int x1'), (2, .int x2')] [] (wI cI cZ cO a u)) (x1 : Int32) (x2 : Int32) (hf : b_X11_leastIn_5 u  k5 x1 x2 = some r) : Sm p l e rmX11_leastIn s m args below meth c D A 3 0 0 (smQ below args s D A (some (.int r)) (wI cI cZ cO a u)) 5 [(0, .ref (a 0)), (1, .int x1), (2, .int x2)] [] (wI cI cZ cO a u) := by
  unfold b_X11_leastIn_5 at hf
  refine sm_iload_n F dX11_leastIn_5 rfl 2 rfl ?_
  refine sm_aload_n F dX11_leastIn_6 rfl 0 rfl ?_
  refine sm_iconst F dX11_leastIn_7 kc_i_0 ?_
  obtain ⟨h8, hf⟩ := ck_some hf
  refine sm_iald F 0 0 rfl rfl h8 dX11_leastIn_8 ?_
  refine sm_icmp_ge (tgt := 53) F dX11_leastIn_9 (by decide) (fun c9 => ?_) (fun c9 => ?_)
  · replace hf := if_t c9 hf
    refine sm_iload_n F dX11_leastIn_53 rfl 1 rfl ?_
    exact sm_iret F dX11_leastIn_54 (Option.some.inj hf) rfl
  · replace hf := if_f c9 hf
    refine sm_aload_n F dX11_leastIn_12 rfl 0 rfl ?_
    refine sm_iload_n F dX11_leastIn_13 rfl 2 rfl ?_
    obtain ⟨z14, hz14, hf⟩ := bd_some hf
    refine sm_callS (rest := []) F (ct_X11_isHere l D cI cZ cO a hz14) (cut_I_id cI cZ cO a u u) rfl rfl rfl qw5_114 qw5_115 qw1_12 qw5_116 hsX11_isHere ⟨Nat.le_of_ble_eq_true rfl, Nat.le_of_ble_eq_true rfl⟩ ⟨Nat.zero_le _, Nat.zero_le _⟩ rfl (Nat.le_of_ble_eq_true rfl) E0_b (fun _ _ _ _ _ _ => trivial) rfl dX11_leastIn_14 [.int z14] rfl ?_
    refine sm_if_eq (tgt := 47) F dX11_leastIn_17 (by decide) (fun c17 => ?_) (fun c17 => ?_)
    · replace hf := if_t c17 hf
      refine sm_iinc F [(0, .ref (a 0)), (1, .int x1), (2, .int (x2 + 1))] 2 [1, 2, 0] dX11_leastIn_47 rfl kc_i_1 (by decide) rfl ?_
      refine sm_goto (tgt := 5) F dX11_leastIn_50 (by decide) ?_
      exact hk5 x1 (x2 + 1) hf
    · replace hf := if_f c17 hf
      refine sm_aload_n F dX11_leastIn_20 rfl 0 rfl ?_
      refine sm_iload_n F dX11_leastIn_21 rfl 2 rfl ?_
      obtain ⟨z22, hz22, hf⟩ := bd_some hf
      refine sm_callS (rest := []) F (ct_X11_mayBeNamed l D cI cZ cO a hz22) (cut_I_id cI cZ cO a u u) rfl rfl rfl qw5_138 qw5_139 qw1_12 qw5_140 hsX11_mayBeNamed ⟨Nat.le_of_ble_eq_true rfl, Nat.le_of_ble_eq_true rfl⟩ ⟨Nat.zero_le _, Nat.zero_le _⟩ rfl (Nat.le_of_ble_eq_true rfl) E0_b (fun _ _ _ _ _ _ => trivial) rfl dX11_leastIn_22 [.int z22] rfl ?_
      refine sm_if_eq (tgt := 47) F dX11_leastIn_25 (by decide) (fun c25 => ?_) (fun c25 => ?_)
      · replace hf := if_t c25 hf
        refine sm_iinc F [(0, .ref (a 0)), (1, .int x1), (2, .int (x2 + 1))] 2 [1, 2, 0] dX11_leastIn_47 rfl kc_i_1 (by decide) rfl ?_
        refine sm_goto (tgt := 5) F dX11_leastIn_50 (by decide) ?_
        exact hk5 x1 (x2 + 1) hf
      · replace hf := if_f c25 hf
        refine sm_iload_n F dX11_leastIn_28 rfl 1 rfl ?_
        refine sm_if_lt (tgt := 45) F dX11_leastIn_29 (by decide) (fun c29 => ?_) (fun c29 => ?_)
        · replace hf := if_t c29 hf
          refine sm_iload_n F dX11_leastIn_45 rfl 2 rfl ?_
          refine sm_istore_n F [(0, .ref (a 0)), (1, .int x2), (2, .int x2)] [1, 0, 2] dX11_leastIn_46 rfl (by decide) rfl ?_
          refine sm_iinc F [(0, .ref (a 0)), (1, .int x2), (2, .int (x2 + 1))] 2 [1, 2, 0] dX11_leastIn_47 rfl kc_i_1 (by decide) rfl ?_
          refine sm_goto (tgt := 5) F dX11_leastIn_50 (by decide) ?_
          exact hk5 x2 (x2 + 1) hf
        · replace hf := if_f c29 hf
          refine sm_aload_n F dX11_leastIn_32 rfl 0 rfl ?_
          refine sm_iload_n F dX11_leastIn_33 rfl 2 rfl ?_
          obtain ⟨z34, hz34, hf⟩ := bd_some hf
          refine sm_callS (rest := []) F (ct_X11_knownIn l D cI cZ cO a hz34) (cut_I_id cI cZ cO a u u) rfl rfl rfl qw5_141 qw5_142 qw1_12 qw5_143 hsX11_knownIn ⟨Nat.le_of_ble_eq_true rfl, Nat.le_of_ble_eq_true rfl⟩ ⟨Nat.zero_le _, Nat.zero_le _⟩ rfl (Nat.le_of_ble_eq_true rfl) E0_b (fun _ _ _ _ _ _ => trivial) rfl dX11_leastIn_34 [.int z34] rfl ?_
          refine sm_aload_n F dX11_leastIn_37 rfl 0 rfl ?_
          refine sm_iload_n F dX11_leastIn_38 rfl 1 rfl ?_
          obtain ⟨z39, hz39, hf⟩ := bd_some hf
          refine sm_callS (rest := [.int z34]) F (ct_X11_knownIn l D cI cZ cO a hz39) (cut_I_id cI cZ cO a u u) rfl rfl rfl qw5_141 qw5_142 qw1_12 qw5_143 hsX11_knownIn ⟨Nat.le_of_ble_eq_true rfl, Nat.le_of_ble_eq_true rfl⟩ ⟨Nat.zero_le _, Nat.zero_le _⟩ rfl (Nat.le_of_ble_eq_true rfl) E0_b (fun _ _ _ _ _ _ => trivial) rfl dX11_leastIn_39 [.int z39, .int z34] rfl ?_
          refine sm_icmp_ge (tgt := 47) F dX11_leastIn_42 (by decide) (fun c42 => ?_) (fun c42 => ?_)
          · replace hf := if_t c42 hf
            refine sm_iinc F [(0, .ref (a 0)), (1, .int x1), (2, .int (x2 + 1))] 2 [1, 2, 0] dX11_leastIn_47 rfl kc_i_1 (by decide) rfl ?_
            refine sm_goto (tgt := 5) F dX11_leastIn_50 (by decide) ?_
            exact hk5 x1 (x2 + 1) hf
          · replace hf := if_f c42 hf
            refine sm_iload_n F dX11_leastIn_45 rfl 2 rfl ?_
            refine sm_istore_n F [(0, .ref (a 0)), (1, .int x2), (2, .int x2)] [1, 0, 2] dX11_leastIn_46 rfl (by decide) rfl ?_
            refine sm_iinc F [(0, .ref (a 0)), (1, .int x2), (2, .int (x2 + 1))] 2 [1, 2, 0] dX11_leastIn_47 rfl kc_i_1 (by decide) rfl ?_
            refine sm_goto (tgt := 5) F dX11_leastIn_50 (by decide) ?_
            exact hk5 x2 (x2 + 1) hf
set_option maxRecDepth 100000 in
set_option maxHeartbeats 4000000 in
theorem s_X11_leastIn_5 {p : Program} {l : Launch} {e : Env} {s : State} {m : MethodId} {args : Array Value} {below : List Frame} {meth : Method} {c : Code} {A : Nat → Prop} {D : va_G} {cI cZ cO : ClassId} {a : Nat → Nat} {r : Int32} (F : smF p s m args meth c cX11_leastIn 3 (some .int) RX11 D (tyL cI cZ cO) A) (u : Nat → Int32)  (n : Nat) (x1 : Int32) (x2 : Int32) (hf : f_X11_leastIn_5 u  n x1 x2 = some r) : Sm p l e rmX11_leastIn s m args below meth c D A 3 0 0 (smQ below args s D A (some (.int r)) (wI cI cZ cO a u)) 5 [(0, .ref (a 0)), (1, .int x1), (2, .int x2)] [] (wI cI cZ cO a u) :=
  lq2_ind (P := fun (x1 : Int32) (x2 : Int32) => Sm p l e rmX11_leastIn s m args below meth c D A 3 0 0 (smQ below args s D A (some (.int r)) (wI cI cZ cO a u)) 5 [(0, .ref (a 0)), (1, .int x1), (2, .int x2)] [] (wI cI cZ cO a u)) (fun k5 hk5 x1 x2 h9 => s_X11_leastIn_5_b F u  k5 hk5 x1 x2 h9) n x1 x2 hf
set_option maxRecDepth 100000 in
set_option maxHeartbeats 4000000 in
theorem ct_X11_leastIn (l : Launch) (D : va_G) (cI cZ cO : ClassId) (a : Nat → Nat) {u : Nat → Int32} {r : Int32} (hf : f_X11_leastIn u = some r) : Ct l yX11_leastIn (uw (Cond.code yX11_leastIn cX11_leastIn 3 (some .int))) rmX11_leastIn D (tyL cI cZ cO) E0 [.ref (a 0)] (wI cI cZ cO a u) (some (.int r)) (wI cI cZ cO a u) := by
  refine sm_start (cc := cX11_leastIn) (maxL := 3) (ret := (some .int)) (own := RX11) (by decide) rfl rfl (Nat.le_of_ble_eq_true rfl) (lv := [(0, .ref (a 0))]) rfl ?_
  intro p e s m below meth c A F hE hA
  unfold f_X11_leastIn at hf
  refine sm_bipush F dX11_leastIn_0 kc_b_m9 ?_
  refine sm_istore_n F [(0, .ref (a 0)), (1, .int ((-9) : Int32))] [1, 0] dX11_leastIn_2 rfl (by decide) rfl ?_
  refine sm_iconst F dX11_leastIn_3 kc_i_0 ?_
  refine sm_istore_n F [(0, .ref (a 0)), (1, .int ((-9) : Int32)), (2, .int (0 : Int32))] [1, 2, 0] dX11_leastIn_4 rfl (by decide) rfl ?_
  exact s_X11_leastIn_5 F u smN ((-9) : Int32) (0 : Int32) hf
/-! SoManyForgottenModel.forgets([II)V -/
abbrev rmX11_forgets : Room := { frames := 2, cells := 0, slots := 0, locals := 42 }
set_option maxRecDepth 100000 in
theorem hsX11_forgets : yX11_forgets.cls ≠ "java/lang/invoke/MethodHandle" ∧ yX11_forgets.cls ≠ "java/lang/invoke/VarHandle" ∧ (parseMethodDescriptor yX11_forgets.desc).map (fun d => d.parameters.length) = some 2 := by decide +kernel
set_option maxRecDepth 100000 in
set_option maxHeartbeats 4000000 in
theorem s_X11_forgets_18_b {p : Program} {l : Launch} {e : Env} {s : State} {m : MethodId} {args : Array Value} {below : List Frame} {meth : Method} {c : Code} {A : Nat → Prop} {D : va_G} {cI cZ cO : ClassId} {a : Nat → Nat} {o : Nat → Int32} (F : smF p s m args meth c cX11_forgets 3 none RX11 D (tyL cI cZ cO) A) (x1 : Int32) (k18 : (Nat → Int32) → Int32 → Option (Nat → Int32)) (hk18 : ∀ (u' : Nat → Int32) (x2' : Int32), k18 u' x2' = some o → Sm p l e rmX11_forgets s m args below meth c D A 3 0 0 (smQ below args s D A none (wI cI cZ cO a o)) 18 [(0, .ref (a 0)), (1, .int x1), (2, .int x2')] [] (wI cI cZ cO a u')) (u : Nat → Int32) (x2 : Int32) (hf : b_X11_forgets_18 x1  k18 u x2 = some o) : Sm p l e rmX11_forgets s m args below meth c D A 3 0 0 (smQ below args s D A none (wI cI cZ cO a o)) 18 [(0, .ref (a 0)), (1, .int x1), (2, .int x2)] [] (wI cI cZ cO a u) := by
  unfold b_X11_forgets_18 at hf
  refine sm_iload_n F dX11_forgets_18 rfl 2 rfl ?_
  refine sm_aload_n F dX11_forgets_19 rfl 0 rfl ?_
  refine sm_iconst F dX11_forgets_20 kc_i_0 ?_
  obtain ⟨h21, hf⟩ := ck_some hf
  refine sm_iald F 0 0 rfl rfl h21 dX11_forgets_21 ?_
  refine sm_icmp_ge (tgt := 47) F dX11_forgets_22 (by decide) (fun c22 => ?_) (fun c22 => ?_)
  · replace hf := if_t c22 hf
    exact sm_vret F dX11_forgets_47 (congrArg (fun z => (wI cI cZ cO a z)) (Option.some.inj hf))
  · replace hf := if_f c22 hf
    refine sm_aload_n F dX11_forgets_25 rfl 0 rfl ?_
    refine sm_iload_n F dX11_forgets_26 rfl 2 rfl ?_
    obtain ⟨z27, hz27, hf⟩ := bd_some hf
    refine sm_callS (rest := []) F (ct_X11_isHere l D cI cZ cO a hz27) (cut_I_id cI cZ cO a u u) rfl rfl rfl qw5_114 qw5_115 qw1_12 qw5_116 hsX11_isHere ⟨Nat.le_of_ble_eq_true rfl, Nat.le_of_ble_eq_true rfl⟩ ⟨Nat.zero_le _, Nat.zero_le _⟩ rfl (Nat.le_of_ble_eq_true rfl) E0_b (fun _ _ _ _ _ _ => trivial) rfl dX11_forgets_27 [.int z27] rfl ?_
    refine sm_if_eq (tgt := 41) F dX11_forgets_30 (by decide) (fun c30 => ?_) (fun c30 => ?_)
    · replace hf := if_t c30 hf
      refine sm_iinc F [(0, .ref (a 0)), (1, .int x1), (2, .int (x2 + 1))] 2 [1, 2, 0] dX11_forgets_41 rfl kc_i_1 (by decide) rfl ?_
      refine sm_goto (tgt := 18) F dX11_forgets_44 (by decide) ?_
      exact hk18 u (x2 + 1) hf
    · replace hf := if_f c30 hf
      refine sm_aload_n F dX11_forgets_33 rfl 0 rfl ?_
      refine sm_iload_n F dX11_forgets_34 rfl 2 rfl ?_
      refine sm_iload_n F dX11_forgets_35 rfl 1 rfl ?_
      obtain ⟨z36, hz36, hf⟩ := bd_some hf
      refine sm_callS (rest := [.ref (a 0)]) F (ct_X11_by l D (tyL cI cZ cO) hz36) (cut_I_none cI cZ cO a u) rfl rfl rfl qw5_103 qw5_104 qw1_12 qw5_105 hsX11_by ⟨Nat.le_of_ble_eq_true rfl, Nat.le_of_ble_eq_true rfl⟩ ⟨Nat.zero_le _, Nat.zero_le _⟩ rfl (Nat.le_of_ble_eq_true rfl) E0_b (fun _ _ _ _ _ _ => trivial) rfl dX11_forgets_36 [.int z36, .ref (a 0)] rfl ?_
      refine sm_iconst F dX11_forgets_39 kc_i_0 ?_
      obtain ⟨h40, hf⟩ := ck_some hf
      refine sm_iast F 0 0 rfl rfl h40 (wI cI cZ cO a (upd u (Int32.toNatClampNeg z36) (0 : Int32))) rfl dX11_forgets_40 ?_
      refine sm_iinc F [(0, .ref (a 0)), (1, .int x1), (2, .int (x2 + 1))] 2 [1, 2, 0] dX11_forgets_41 rfl kc_i_1 (by decide) rfl ?_
      refine sm_goto (tgt := 18) F dX11_forgets_44 (by decide) ?_
      exact hk18 (upd u (Int32.toNatClampNeg z36) (0 : Int32)) (x2 + 1) hf
set_option maxRecDepth 100000 in
set_option maxHeartbeats 4000000 in
theorem s_X11_forgets_18 {p : Program} {l : Launch} {e : Env} {s : State} {m : MethodId} {args : Array Value} {below : List Frame} {meth : Method} {c : Code} {A : Nat → Prop} {D : va_G} {cI cZ cO : ClassId} {a : Nat → Nat} {o : Nat → Int32} (F : smF p s m args meth c cX11_forgets 3 none RX11 D (tyL cI cZ cO) A) (x1 : Int32)  (n : Nat) (u : Nat → Int32) (x2 : Int32) (hf : f_X11_forgets_18 x1  n u x2 = some o) : Sm p l e rmX11_forgets s m args below meth c D A 3 0 0 (smQ below args s D A none (wI cI cZ cO a o)) 18 [(0, .ref (a 0)), (1, .int x1), (2, .int x2)] [] (wI cI cZ cO a u) :=
  lq2_ind (P := fun (u : Nat → Int32) (x2 : Int32) => Sm p l e rmX11_forgets s m args below meth c D A 3 0 0 (smQ below args s D A none (wI cI cZ cO a o)) 18 [(0, .ref (a 0)), (1, .int x1), (2, .int x2)] [] (wI cI cZ cO a u)) (fun k18 hk18 u x2 h9 => s_X11_forgets_18_b F x1  k18 hk18 u x2 h9) n u x2 hf
set_option maxRecDepth 100000 in
set_option maxHeartbeats 4000000 in
theorem ct_X11_forgets (l : Launch) (D : va_G) (cI cZ cO : ClassId) (a : Nat → Nat) {u : Nat → Int32} {x1 : Int32} {o : Nat → Int32} (hf : f_X11_forgets u x1 = some o) : Ct l yX11_forgets (uw (Cond.code yX11_forgets cX11_forgets 3 none)) rmX11_forgets D (tyL cI cZ cO) E0 [.ref (a 0), .int x1] (wI cI cZ cO a u) none (wI cI cZ cO a o) := by
  refine sm_start (cc := cX11_forgets) (maxL := 3) (ret := none) (own := RX11) (by decide) rfl rfl (Nat.le_of_ble_eq_true rfl) (lv := [(0, .ref (a 0)), (1, .int x1)]) rfl ?_
  intro p e s m below meth c A F hE hA
  unfold f_X11_forgets at hf
  refine sm_aload_n F dX11_forgets_0 rfl 0 rfl ?_
  refine sm_iload_n F dX11_forgets_1 rfl 1 rfl ?_
  refine sm_iconst F dX11_forgets_2 kc_i_2 ?_
  obtain ⟨z3, hz3, hf⟩ := bd_some hf
  refine sm_callS (rest := [.ref (a 0)]) F (ct_X11_of l D (tyL cI cZ cO) hz3) (cut_I_none cI cZ cO a u) rfl rfl rfl qw5_100 qw5_101 qw1_12 qw5_102 hsX11_of ⟨Nat.le_of_ble_eq_true rfl, Nat.le_of_ble_eq_true rfl⟩ ⟨Nat.zero_le _, Nat.zero_le _⟩ rfl (Nat.le_of_ble_eq_true rfl) E0_b (fun _ _ _ _ _ _ => trivial) rfl dX11_forgets_3 [.int z3, .ref (a 0)] rfl ?_
  refine sm_iconst F dX11_forgets_6 kc_i_0 ?_
  obtain ⟨h7, hf⟩ := ck_some hf
  refine sm_iast F 0 0 rfl rfl h7 (wI cI cZ cO a (upd u (Int32.toNatClampNeg z3) (0 : Int32))) rfl dX11_forgets_7 ?_
  refine sm_aload_n F dX11_forgets_8 rfl 0 rfl ?_
  refine sm_iload_n F dX11_forgets_9 rfl 1 rfl ?_
  refine sm_iconst F dX11_forgets_10 kc_i_3 ?_
  obtain ⟨z11, hz11, hf⟩ := bd_some hf
  refine sm_callS (rest := [.ref (a 0)]) F (ct_X11_of l D (tyL cI cZ cO) hz11) (cut_I_none cI cZ cO a (upd u (Int32.toNatClampNeg z3) (0 : Int32))) rfl rfl rfl qw5_100 qw5_101 qw1_12 qw5_102 hsX11_of ⟨Nat.le_of_ble_eq_true rfl, Nat.le_of_ble_eq_true rfl⟩ ⟨Nat.zero_le _, Nat.zero_le _⟩ rfl (Nat.le_of_ble_eq_true rfl) E0_b (fun _ _ _ _ _ _ => trivial) rfl dX11_forgets_11 [.int z11, .ref (a 0)] rfl ?_
  refine sm_iconst F dX11_forgets_14 kc_i_0 ?_
  obtain ⟨h15, hf⟩ := ck_some hf
  refine sm_iast F 0 0 rfl rfl h15 (wI cI cZ cO a (upd (upd u (Int32.toNatClampNeg z3) (0 : Int32)) (Int32.toNatClampNeg z11) (0 : Int32))) rfl dX11_forgets_15 ?_
  refine sm_iconst F dX11_forgets_16 kc_i_0 ?_
  refine sm_istore_n F [(0, .ref (a 0)), (1, .int x1), (2, .int (0 : Int32))] [1, 2, 0] dX11_forgets_17 rfl (by decide) rfl ?_
  exact s_X11_forgets_18 F x1 smN (upd (upd u (Int32.toNatClampNeg z3) (0 : Int32)) (Int32.toNatClampNeg z11) (0 : Int32)) (0 : Int32) hf
/-! SoManyForgottenModel.week([I)V -/
abbrev rmX11_week : Room := { frames := 4, cells := 0, slots := 0, locals := 87 }
set_option maxRecDepth 100000 in
theorem hsX11_week : yX11_week.cls ≠ "java/lang/invoke/MethodHandle" ∧ yX11_week.cls ≠ "java/lang/invoke/VarHandle" ∧ (parseMethodDescriptor yX11_week.desc).map (fun d => d.parameters.length) = some 1 := by decide +kernel
set_option maxRecDepth 100000 in
set_option maxHeartbeats 4000000 in
theorem s_X11_week_24_b {p : Program} {l : Launch} {e : Env} {s : State} {m : MethodId} {args : Array Value} {below : List Frame} {meth : Method} {c : Code} {A : Nat → Prop} {D : va_G} {cI cZ cO : ClassId} {a : Nat → Nat} {o : Nat → Int32} (F : smF p s m args meth c cX11_week 4 none RX11 D (tyL cI cZ cO) A)  (k9 : (Nat → Int32) → Int32 → Option (Nat → Int32)) (hk9 : ∀ (u' : Nat → Int32) (x1' : Int32), k9 u' x1' = some o → Sm p l e rmX11_week s m args below meth c D A 4 0 0 (smQ below args s D A none (wI cI cZ cO a o)) 9 [(0, .ref (a 0)), (1, .int x1')] [] (wI cI cZ cO a u')) (k24 : (Nat → Int32) → Int32 → Int32 → Int32 → Option (Nat → Int32)) (hk24 : ∀ (u' : Nat → Int32) (x1' : Int32) (x2' : Int32) (x3' : Int32), k24 u' x1' x2' x3' = some o → Sm p l e rmX11_week s m args below meth c D A 4 0 0 (smQ below args s D A none (wI cI cZ cO a o)) 24 [(0, .ref (a 0)), (1, .int x1'), (2, .int x2'), (3, .int x3')] [] (wI cI cZ cO a u')) (u : Nat → Int32) (x1 : Int32) (x2 : Int32) (x3 : Int32) (hf : b_X11_week_24  k9 k24 u x1 x2 x3 = some o) : Sm p l e rmX11_week s m args below meth c D A 4 0 0 (smQ below args s D A none (wI cI cZ cO a o)) 24 [(0, .ref (a 0)), (1, .int x1), (2, .int x2), (3, .int x3)] [] (wI cI cZ cO a u) := by
  unfold b_X11_week_24 at hf
  refine sm_iload_n F dX11_week_24 rfl 3 rfl ?_
  refine sm_aload_n F dX11_week_25 rfl 0 rfl ?_
  refine sm_iconst F dX11_week_26 kc_i_0 ?_
  obtain ⟨h27, hf⟩ := ck_some hf
  refine sm_iald F 0 0 rfl rfl h27 dX11_week_27 ?_
  refine sm_icmp_ge (tgt := 77) F dX11_week_28 (by decide) (fun c28 => ?_) (fun c28 => ?_)
  · replace hf := if_t c28 hf
    refine sm_iinc F [(0, .ref (a 0)), (1, .int (x1 + 1)), (2, .int x2), (3, .int x3)] 1 [1, 0, 2, 3] dX11_week_77 rfl kc_i_1 (by decide) rfl ?_
    refine sm_goto (tgt := 9) F dX11_week_80 (by decide) ?_
    refine sm_sub (lv' := [(0, .ref (a 0)), (1, .int (x1 + 1))]) [0, 1] rfl ?_
    exact hk9 u (x1 + 1) hf
  · replace hf := if_f c28 hf
    refine sm_iload_n F dX11_week_31 rfl 3 rfl ?_
    refine sm_iload_n F dX11_week_32 rfl 1 rfl ?_
    refine sm_icmp_eq (tgt := 71) F dX11_week_33 (by decide) (fun c33 => ?_) (fun c33 => ?_)
    · replace hf := if_t c33 hf
      refine sm_iinc F [(0, .ref (a 0)), (1, .int x1), (2, .int x2), (3, .int (x3 + 1))] 3 [1, 2, 3, 0] dX11_week_71 rfl kc_i_1 (by decide) rfl ?_
      refine sm_goto (tgt := 24) F dX11_week_74 (by decide) ?_
      exact hk24 u x1 x2 (x3 + 1) hf
    · replace hf := if_f c33 hf
      refine sm_aload_n F dX11_week_36 rfl 0 rfl ?_
      refine sm_iload_n F dX11_week_37 rfl 1 rfl ?_
      obtain ⟨z38, hz38, hf⟩ := bd_some hf
      refine sm_callS (rest := []) F (ct_X11_isHere l D cI cZ cO a hz38) (cut_I_id cI cZ cO a u u) rfl rfl rfl qw5_114 qw5_115 qw1_12 qw5_116 hsX11_isHere ⟨Nat.le_of_ble_eq_true rfl, Nat.le_of_ble_eq_true rfl⟩ ⟨Nat.zero_le _, Nat.zero_le _⟩ rfl (Nat.le_of_ble_eq_true rfl) E0_b (fun _ _ _ _ _ _ => trivial) rfl dX11_week_38 [.int z38] rfl ?_
      refine sm_if_eq (tgt := 71) F dX11_week_41 (by decide) (fun c41 => ?_) (fun c41 => ?_)
      · replace hf := if_t c41 hf
        refine sm_iinc F [(0, .ref (a 0)), (1, .int x1), (2, .int x2), (3, .int (x3 + 1))] 3 [1, 2, 3, 0] dX11_week_71 rfl kc_i_1 (by decide) rfl ?_
        refine sm_goto (tgt := 24) F dX11_week_74 (by decide) ?_
        exact hk24 u x1 x2 (x3 + 1) hf
      · replace hf := if_f c41 hf
        refine sm_aload_n F dX11_week_44 rfl 0 rfl ?_
        refine sm_iload_n F dX11_week_45 rfl 3 rfl ?_
        obtain ⟨z46, hz46, hf⟩ := bd_some hf
        refine sm_callS (rest := []) F (ct_X11_isHere l D cI cZ cO a hz46) (cut_I_id cI cZ cO a u u) rfl rfl rfl qw5_114 qw5_115 qw1_12 qw5_116 hsX11_isHere ⟨Nat.le_of_ble_eq_true rfl, Nat.le_of_ble_eq_true rfl⟩ ⟨Nat.zero_le _, Nat.zero_le _⟩ rfl (Nat.le_of_ble_eq_true rfl) E0_b (fun _ _ _ _ _ _ => trivial) rfl dX11_week_46 [.int z46] rfl ?_
        refine sm_if_eq (tgt := 71) F dX11_week_49 (by decide) (fun c49 => ?_) (fun c49 => ?_)
        · replace hf := if_t c49 hf
          refine sm_iinc F [(0, .ref (a 0)), (1, .int x1), (2, .int x2), (3, .int (x3 + 1))] 3 [1, 2, 3, 0] dX11_week_71 rfl kc_i_1 (by decide) rfl ?_
          refine sm_goto (tgt := 24) F dX11_week_74 (by decide) ?_
          exact hk24 u x1 x2 (x3 + 1) hf
        · replace hf := if_f c49 hf
          refine sm_aload_n F dX11_week_52 rfl 0 rfl ?_
          refine sm_iload_n F dX11_week_53 rfl 3 rfl ?_
          refine sm_iload_n F dX11_week_54 rfl 1 rfl ?_
          obtain ⟨z55, hz55, hf⟩ := bd_some hf
          refine sm_callS (rest := [.ref (a 0)]) F (ct_X11_by l D (tyL cI cZ cO) hz55) (cut_I_none cI cZ cO a u) rfl rfl rfl qw5_103 qw5_104 qw1_12 qw5_105 hsX11_by ⟨Nat.le_of_ble_eq_true rfl, Nat.le_of_ble_eq_true rfl⟩ ⟨Nat.zero_le _, Nat.zero_le _⟩ rfl (Nat.le_of_ble_eq_true rfl) E0_b (fun _ _ _ _ _ _ => trivial) rfl dX11_week_55 [.int z55, .ref (a 0)] rfl ?_
          refine sm_aload_n F dX11_week_58 rfl 0 rfl ?_
          refine sm_iload_n F dX11_week_59 rfl 3 rfl ?_
          refine sm_iload_n F dX11_week_60 rfl 1 rfl ?_
          obtain ⟨z61, hz61, hf⟩ := bd_some hf
          refine sm_callS (rest := [.ref (a 0), .int z55, .ref (a 0)]) F (ct_X11_by l D (tyL cI cZ cO) hz61) (cut_I_none cI cZ cO a u) rfl rfl rfl qw5_103 qw5_104 qw1_12 qw5_105 hsX11_by ⟨Nat.le_of_ble_eq_true rfl, Nat.le_of_ble_eq_true rfl⟩ ⟨Nat.zero_le _, Nat.zero_le _⟩ rfl (Nat.le_of_ble_eq_true rfl) E0_b (fun _ _ _ _ _ _ => trivial) rfl dX11_week_61 [.int z61, .ref (a 0), .int z55, .ref (a 0)] rfl ?_
          obtain ⟨h64, hf⟩ := ck_some hf
          refine sm_iald F 0 0 rfl rfl h64 dX11_week_64 ?_
          refine sm_iload_n F dX11_week_65 rfl 2 rfl ?_
          refine sm_iadd F dX11_week_66 ?_
          obtain ⟨z67, hz67, hf⟩ := bd_some hf
          refine sm_callS (rest := [.int z55, .ref (a 0)]) F (ct_X11_held l D (tyL cI cZ cO) hz67) (cut_I_none cI cZ cO a u) rfl rfl rfl qw5_120 qw5_121 qw1_12 qw5_122 hsX11_held ⟨Nat.le_of_ble_eq_true rfl, Nat.le_of_ble_eq_true rfl⟩ ⟨Nat.zero_le _, Nat.zero_le _⟩ rfl (Nat.le_of_ble_eq_true rfl) E0_b (fun _ _ _ _ _ _ => trivial) rfl dX11_week_67 [.int z67, .int z55, .ref (a 0)] rfl ?_
          obtain ⟨h70, hf⟩ := ck_some hf
          refine sm_iast F 0 0 rfl rfl h70 (wI cI cZ cO a (upd u (Int32.toNatClampNeg z55) z67)) rfl dX11_week_70 ?_
          refine sm_iinc F [(0, .ref (a 0)), (1, .int x1), (2, .int x2), (3, .int (x3 + 1))] 3 [1, 2, 3, 0] dX11_week_71 rfl kc_i_1 (by decide) rfl ?_
          refine sm_goto (tgt := 24) F dX11_week_74 (by decide) ?_
          exact hk24 (upd u (Int32.toNatClampNeg z55) z67) x1 x2 (x3 + 1) hf
set_option maxRecDepth 100000 in
set_option maxHeartbeats 4000000 in
theorem s_X11_week_24 {p : Program} {l : Launch} {e : Env} {s : State} {m : MethodId} {args : Array Value} {below : List Frame} {meth : Method} {c : Code} {A : Nat → Prop} {D : va_G} {cI cZ cO : ClassId} {a : Nat → Nat} {o : Nat → Int32} (F : smF p s m args meth c cX11_week 4 none RX11 D (tyL cI cZ cO) A)  (k9 : (Nat → Int32) → Int32 → Option (Nat → Int32)) (hk9 : ∀ (u' : Nat → Int32) (x1' : Int32), k9 u' x1' = some o → Sm p l e rmX11_week s m args below meth c D A 4 0 0 (smQ below args s D A none (wI cI cZ cO a o)) 9 [(0, .ref (a 0)), (1, .int x1')] [] (wI cI cZ cO a u')) (n : Nat) (u : Nat → Int32) (x1 : Int32) (x2 : Int32) (x3 : Int32) (hf : f_X11_week_24  k9 n u x1 x2 x3 = some o) : Sm p l e rmX11_week s m args below meth c D A 4 0 0 (smQ below args s D A none (wI cI cZ cO a o)) 24 [(0, .ref (a 0)), (1, .int x1), (2, .int x2), (3, .int x3)] [] (wI cI cZ cO a u) :=
  lq4_ind (P := fun (u : Nat → Int32) (x1 : Int32) (x2 : Int32) (x3 : Int32) => Sm p l e rmX11_week s m args below meth c D A 4 0 0 (smQ below args s D A none (wI cI cZ cO a o)) 24 [(0, .ref (a 0)), (1, .int x1), (2, .int x2), (3, .int x3)] [] (wI cI cZ cO a u)) (fun k24 hk24 u x1 x2 x3 h9 => s_X11_week_24_b F  k9 hk9 k24 hk24 u x1 x2 x3 h9) n u x1 x2 x3 hf
set_option maxRecDepth 100000 in
set_option maxHeartbeats 4000000 in
theorem s_X11_week_85_b {p : Program} {l : Launch} {e : Env} {s : State} {m : MethodId} {args : Array Value} {below : List Frame} {meth : Method} {c : Code} {A : Nat → Prop} {D : va_G} {cI cZ cO : ClassId} {a : Nat → Nat} {o : Nat → Int32} (F : smF p s m args meth c cX11_week 4 none RX11 D (tyL cI cZ cO) A)  (k85 : (Nat → Int32) → Int32 → Option (Nat → Int32)) (hk85 : ∀ (u' : Nat → Int32) (x1' : Int32), k85 u' x1' = some o → Sm p l e rmX11_week s m args below meth c D A 4 0 0 (smQ below args s D A none (wI cI cZ cO a o)) 85 [(0, .ref (a 0)), (1, .int x1')] [] (wI cI cZ cO a u')) (u : Nat → Int32) (x1 : Int32) (hf : b_X11_week_85   k85 u x1 = some o) : Sm p l e rmX11_week s m args below meth c D A 4 0 0 (smQ below args s D A none (wI cI cZ cO a o)) 85 [(0, .ref (a 0)), (1, .int x1)] [] (wI cI cZ cO a u) := by
  unfold b_X11_week_85 at hf
  refine sm_iload_n F dX11_week_85 rfl 1 rfl ?_
  refine sm_aload_n F dX11_week_86 rfl 0 rfl ?_
  refine sm_iconst F dX11_week_87 kc_i_2 ?_
  obtain ⟨h88, hf⟩ := ck_some hf
  refine sm_iald F 0 0 rfl rfl h88 dX11_week_88 ?_
  refine sm_icmp_ge (tgt := 121) F dX11_week_89 (by decide) (fun c89 => ?_) (fun c89 => ?_)
  · replace hf := if_t c89 hf
    exact sm_vret F dX11_week_121 (congrArg (fun z => (wI cI cZ cO a z)) (Option.some.inj hf))
  · replace hf := if_f c89 hf
    refine sm_aload_n F dX11_week_92 rfl 0 rfl ?_
    refine sm_iconst F dX11_week_93 kc_i_1 ?_
    obtain ⟨h94, hf⟩ := ck_some hf
    refine sm_iald F 0 0 rfl rfl h94 dX11_week_94 ?_
    refine sm_bipush F dX11_week_95 kc_b_10 ?_
    refine sm_irem F dX11_week_97 (by decide) ?_
    refine sm_if_ne (tgt := 121) F dX11_week_98 (by decide) (fun c98 => ?_) (fun c98 => ?_)
    · replace hf := if_f c98 hf
      exact sm_vret F dX11_week_121 (congrArg (fun z => (wI cI cZ cO a z)) (Option.some.inj hf))
    · replace hf := if_t c98 hf
      refine sm_aload_n F dX11_week_101 rfl 0 rfl ?_
      obtain ⟨z102, hz102, hf⟩ := bd_some hf
      refine sm_callS (rest := []) F (ct_X11_leastIn l D cI cZ cO a hz102) (cut_I_id cI cZ cO a u u) rfl rfl rfl qw5_135 qw5_136 qw1_12 qw5_137 hsX11_leastIn ⟨Nat.le_of_ble_eq_true rfl, Nat.le_of_ble_eq_true rfl⟩ ⟨Nat.zero_le _, Nat.zero_le _⟩ rfl (Nat.le_of_ble_eq_true rfl) E0_b (fun _ _ _ _ _ _ => trivial) rfl dX11_week_102 [.int z102] rfl ?_
      refine sm_istore_n F [(0, .ref (a 0)), (1, .int x1), (2, .int z102)] [1, 2, 0] dX11_week_105 rfl (by decide) rfl ?_
      refine sm_iload_n F dX11_week_106 rfl 2 rfl ?_
      refine sm_if_lt (tgt := 115) F dX11_week_107 (by decide) (fun c107 => ?_) (fun c107 => ?_)
      · replace hf := if_t c107 hf
        refine sm_iinc F [(0, .ref (a 0)), (1, .int (x1 + 1)), (2, .int z102)] 1 [1, 0, 2] dX11_week_115 rfl kc_i_1 (by decide) rfl ?_
        refine sm_goto (tgt := 85) F dX11_week_118 (by decide) ?_
        refine sm_sub (lv' := [(0, .ref (a 0)), (1, .int (x1 + 1))]) [0, 1] rfl ?_
        exact hk85 u (x1 + 1) hf
      · replace hf := if_f c107 hf
        refine sm_aload_n F dX11_week_110 rfl 0 rfl ?_
        refine sm_iload_n F dX11_week_111 rfl 2 rfl ?_
        obtain ⟨z112, hz112, hf⟩ := bd_some hf
        refine sm_callS (rest := []) F (ct_X11_forgets l D cI cZ cO a hz112) (cut_I_id cI cZ cO a u z112) rfl rfl rfl qw5_144 qw5_145 qw1_12 qw5_146 hsX11_forgets ⟨Nat.le_of_ble_eq_true rfl, Nat.le_of_ble_eq_true rfl⟩ ⟨Nat.zero_le _, Nat.zero_le _⟩ rfl (Nat.le_of_ble_eq_true rfl) E0_b (fun _ _ _ _ _ _ => trivial) rfl dX11_week_112 [] rfl ?_
        refine sm_iinc F [(0, .ref (a 0)), (1, .int (x1 + 1)), (2, .int z102)] 1 [1, 0, 2] dX11_week_115 rfl kc_i_1 (by decide) rfl ?_
        refine sm_goto (tgt := 85) F dX11_week_118 (by decide) ?_
        refine sm_sub (lv' := [(0, .ref (a 0)), (1, .int (x1 + 1))]) [0, 1] rfl ?_
        exact hk85 z112 (x1 + 1) hf
set_option maxRecDepth 100000 in
set_option maxHeartbeats 4000000 in
theorem s_X11_week_85 {p : Program} {l : Launch} {e : Env} {s : State} {m : MethodId} {args : Array Value} {below : List Frame} {meth : Method} {c : Code} {A : Nat → Prop} {D : va_G} {cI cZ cO : ClassId} {a : Nat → Nat} {o : Nat → Int32} (F : smF p s m args meth c cX11_week 4 none RX11 D (tyL cI cZ cO) A)   (n : Nat) (u : Nat → Int32) (x1 : Int32) (hf : f_X11_week_85   n u x1 = some o) : Sm p l e rmX11_week s m args below meth c D A 4 0 0 (smQ below args s D A none (wI cI cZ cO a o)) 85 [(0, .ref (a 0)), (1, .int x1)] [] (wI cI cZ cO a u) :=
  lq2_ind (P := fun (u : Nat → Int32) (x1 : Int32) => Sm p l e rmX11_week s m args below meth c D A 4 0 0 (smQ below args s D A none (wI cI cZ cO a o)) 85 [(0, .ref (a 0)), (1, .int x1)] [] (wI cI cZ cO a u)) (fun k85 hk85 u x1 h9 => s_X11_week_85_b F   k85 hk85 u x1 h9) n u x1 hf
set_option maxRecDepth 100000 in
set_option maxHeartbeats 4000000 in
theorem s_X11_week_9_b {p : Program} {l : Launch} {e : Env} {s : State} {m : MethodId} {args : Array Value} {below : List Frame} {meth : Method} {c : Code} {A : Nat → Prop} {D : va_G} {cI cZ cO : ClassId} {a : Nat → Nat} {o : Nat → Int32} (F : smF p s m args meth c cX11_week 4 none RX11 D (tyL cI cZ cO) A)  (k9 : (Nat → Int32) → Int32 → Option (Nat → Int32)) (hk9 : ∀ (u' : Nat → Int32) (x1' : Int32), k9 u' x1' = some o → Sm p l e rmX11_week s m args below meth c D A 4 0 0 (smQ below args s D A none (wI cI cZ cO a o)) 9 [(0, .ref (a 0)), (1, .int x1')] [] (wI cI cZ cO a u')) (u : Nat → Int32) (x1 : Int32) (hf : b_X11_week_9   k9 u x1 = some o) : Sm p l e rmX11_week s m args below meth c D A 4 0 0 (smQ below args s D A none (wI cI cZ cO a o)) 9 [(0, .ref (a 0)), (1, .int x1)] [] (wI cI cZ cO a u) := by
  unfold b_X11_week_9 at hf
  refine sm_iload_n F dX11_week_9 rfl 1 rfl ?_
  refine sm_aload_n F dX11_week_10 rfl 0 rfl ?_
  refine sm_iconst F dX11_week_11 kc_i_0 ?_
  obtain ⟨h12, hf⟩ := ck_some hf
  refine sm_iald F 0 0 rfl rfl h12 dX11_week_12 ?_
  refine sm_icmp_ge (tgt := 83) F dX11_week_13 (by decide) (fun c13 => ?_) (fun c13 => ?_)
  · replace hf := if_t c13 hf
    refine sm_iconst F dX11_week_83 kc_i_0 ?_
    refine sm_istore_n F [(0, .ref (a 0)), (1, .int (0 : Int32))] [1, 0] dX11_week_84 rfl (by decide) rfl ?_
    exact s_X11_week_85 F  smN u (0 : Int32) hf
  · replace hf := if_f c13 hf
    refine sm_aload_n F dX11_week_16 rfl 0 rfl ?_
    refine sm_iload_n F dX11_week_17 rfl 1 rfl ?_
    obtain ⟨z18, hz18, hf⟩ := bd_some hf
    refine sm_callS (rest := []) F (ct_X11_changeBy l D cI cZ cO a hz18) (cut_I_id cI cZ cO a u u) rfl rfl rfl qw5_132 qw5_133 qw1_12 qw5_134 hsX11_changeBy ⟨Nat.le_of_ble_eq_true rfl, Nat.le_of_ble_eq_true rfl⟩ ⟨Nat.zero_le _, Nat.zero_le _⟩ rfl (Nat.le_of_ble_eq_true rfl) E0_b (fun _ _ _ _ _ _ => trivial) rfl dX11_week_18 [.int z18] rfl ?_
    refine sm_istore_n F [(0, .ref (a 0)), (1, .int x1), (2, .int z18)] [1, 2, 0] dX11_week_21 rfl (by decide) rfl ?_
    refine sm_iconst F dX11_week_22 kc_i_0 ?_
    refine sm_istore_n F [(0, .ref (a 0)), (1, .int x1), (2, .int z18), (3, .int (0 : Int32))] [1, 2, 3, 0] dX11_week_23 rfl (by decide) rfl ?_
    exact s_X11_week_24 F k9 hk9 smN u x1 z18 (0 : Int32) hf
set_option maxRecDepth 100000 in
set_option maxHeartbeats 4000000 in
theorem s_X11_week_9 {p : Program} {l : Launch} {e : Env} {s : State} {m : MethodId} {args : Array Value} {below : List Frame} {meth : Method} {c : Code} {A : Nat → Prop} {D : va_G} {cI cZ cO : ClassId} {a : Nat → Nat} {o : Nat → Int32} (F : smF p s m args meth c cX11_week 4 none RX11 D (tyL cI cZ cO) A)   (n : Nat) (u : Nat → Int32) (x1 : Int32) (hf : f_X11_week_9   n u x1 = some o) : Sm p l e rmX11_week s m args below meth c D A 4 0 0 (smQ below args s D A none (wI cI cZ cO a o)) 9 [(0, .ref (a 0)), (1, .int x1)] [] (wI cI cZ cO a u) :=
  lq2_ind (P := fun (u : Nat → Int32) (x1 : Int32) => Sm p l e rmX11_week s m args below meth c D A 4 0 0 (smQ below args s D A none (wI cI cZ cO a o)) 9 [(0, .ref (a 0)), (1, .int x1)] [] (wI cI cZ cO a u)) (fun k9 hk9 u x1 h9 => s_X11_week_9_b F   k9 hk9 u x1 h9) n u x1 hf
set_option maxRecDepth 100000 in
set_option maxHeartbeats 4000000 in
theorem ct_X11_week (l : Launch) (D : va_G) (cI cZ cO : ClassId) (a : Nat → Nat) {u : Nat → Int32} {o : Nat → Int32} (hf : f_X11_week u = some o) : Ct l yX11_week (uw (Cond.code yX11_week cX11_week 4 none)) rmX11_week D (tyL cI cZ cO) E0 [.ref (a 0)] (wI cI cZ cO a u) none (wI cI cZ cO a o) := by
  refine sm_start (cc := cX11_week) (maxL := 4) (ret := none) (own := RX11) (by decide) rfl rfl (Nat.le_of_ble_eq_true rfl) (lv := [(0, .ref (a 0))]) rfl ?_
  intro p e s m below meth c A F hE hA
  unfold f_X11_week at hf
  refine sm_aload_n F dX11_week_0 rfl 0 rfl ?_
  refine sm_iconst F dX11_week_1 kc_i_1 ?_
  refine sm_dup2 F dX11_week_2 rfl rfl ?_
  obtain ⟨h3, hf⟩ := ck_some hf
  refine sm_iald F 0 0 rfl rfl h3 dX11_week_3 ?_
  refine sm_iconst F dX11_week_4 kc_i_1 ?_
  refine sm_iadd F dX11_week_5 ?_
  obtain ⟨h6, hf⟩ := ck_some hf
  refine sm_iast F 0 0 rfl rfl h6 (wI cI cZ cO a (upd u (Int32.toNatClampNeg (1 : Int32)) ((u (Int32.toNatClampNeg (1 : Int32))) + (1 : Int32)))) rfl dX11_week_6 ?_
  refine sm_iconst F dX11_week_7 kc_i_0 ?_
  refine sm_istore_n F [(0, .ref (a 0)), (1, .int (0 : Int32))] [1, 0] dX11_week_8 rfl (by decide) rfl ?_
  exact s_X11_week_9 F  smN (upd u (Int32.toNatClampNeg (1 : Int32)) ((u (Int32.toNatClampNeg (1 : Int32))) + (1 : Int32))) (0 : Int32) hf
/-! SoManyForgottenModel.weeksOn([II)V -/
abbrev rmX11_weeksOn : Room := { frames := 5, cells := 0, slots := 0, locals := 110 }
set_option maxRecDepth 100000 in
theorem hsX11_weeksOn : yX11_weeksOn.cls ≠ "java/lang/invoke/MethodHandle" ∧ yX11_weeksOn.cls ≠ "java/lang/invoke/VarHandle" ∧ (parseMethodDescriptor yX11_weeksOn.desc).map (fun d => d.parameters.length) = some 2 := by decide +kernel
set_option maxRecDepth 100000 in
set_option maxHeartbeats 4000000 in
theorem s_X11_weeksOn_2_b {p : Program} {l : Launch} {e : Env} {s : State} {m : MethodId} {args : Array Value} {below : List Frame} {meth : Method} {c : Code} {A : Nat → Prop} {D : va_G} {cI cZ cO : ClassId} {a : Nat → Nat} {o : Nat → Int32} (F : smF p s m args meth c cX11_weeksOn 3 none RX11 D (tyL cI cZ cO) A) (x1 : Int32) (k2 : (Nat → Int32) → Int32 → Option (Nat → Int32)) (hk2 : ∀ (u' : Nat → Int32) (x2' : Int32), k2 u' x2' = some o → Sm p l e rmX11_weeksOn s m args below meth c D A 3 0 0 (smQ below args s D A none (wI cI cZ cO a o)) 2 [(0, .ref (a 0)), (1, .int x1), (2, .int x2')] [] (wI cI cZ cO a u')) (u : Nat → Int32) (x2 : Int32) (hf : b_X11_weeksOn_2 x1  k2 u x2 = some o) : Sm p l e rmX11_weeksOn s m args below meth c D A 3 0 0 (smQ below args s D A none (wI cI cZ cO a o)) 2 [(0, .ref (a 0)), (1, .int x1), (2, .int x2)] [] (wI cI cZ cO a u) := by
  unfold b_X11_weeksOn_2 at hf
  refine sm_iload_n F dX11_weeksOn_2 rfl 2 rfl ?_
  refine sm_iload_n F dX11_weeksOn_3 rfl 1 rfl ?_
  refine sm_icmp_ge (tgt := 17) F dX11_weeksOn_4 (by decide) (fun c4 => ?_) (fun c4 => ?_)
  · replace hf := if_t c4 hf
    exact sm_vret F dX11_weeksOn_17 (congrArg (fun z => (wI cI cZ cO a z)) (Option.some.inj hf))
  · replace hf := if_f c4 hf
    refine sm_aload_n F dX11_weeksOn_7 rfl 0 rfl ?_
    obtain ⟨z8, hz8, hf⟩ := bd_some hf
    refine sm_callS (rest := []) F (ct_X11_week l D cI cZ cO a hz8) (cut_I_id cI cZ cO a u z8) rfl rfl rfl qw5_129 qw5_130 qw1_12 qw5_131 hsX11_week ⟨Nat.le_of_ble_eq_true rfl, Nat.le_of_ble_eq_true rfl⟩ ⟨Nat.zero_le _, Nat.zero_le _⟩ rfl (Nat.le_of_ble_eq_true rfl) E0_b (fun _ _ _ _ _ _ => trivial) rfl dX11_weeksOn_8 [] rfl ?_
    refine sm_iinc F [(0, .ref (a 0)), (1, .int x1), (2, .int (x2 + 1))] 2 [1, 2, 0] dX11_weeksOn_11 rfl kc_i_1 (by decide) rfl ?_
    refine sm_goto (tgt := 2) F dX11_weeksOn_14 (by decide) ?_
    exact hk2 z8 (x2 + 1) hf
set_option maxRecDepth 100000 in
set_option maxHeartbeats 4000000 in
theorem s_X11_weeksOn_2 {p : Program} {l : Launch} {e : Env} {s : State} {m : MethodId} {args : Array Value} {below : List Frame} {meth : Method} {c : Code} {A : Nat → Prop} {D : va_G} {cI cZ cO : ClassId} {a : Nat → Nat} {o : Nat → Int32} (F : smF p s m args meth c cX11_weeksOn 3 none RX11 D (tyL cI cZ cO) A) (x1 : Int32)  (n : Nat) (u : Nat → Int32) (x2 : Int32) (hf : f_X11_weeksOn_2 x1  n u x2 = some o) : Sm p l e rmX11_weeksOn s m args below meth c D A 3 0 0 (smQ below args s D A none (wI cI cZ cO a o)) 2 [(0, .ref (a 0)), (1, .int x1), (2, .int x2)] [] (wI cI cZ cO a u) :=
  lq2_ind (P := fun (u : Nat → Int32) (x2 : Int32) => Sm p l e rmX11_weeksOn s m args below meth c D A 3 0 0 (smQ below args s D A none (wI cI cZ cO a o)) 2 [(0, .ref (a 0)), (1, .int x1), (2, .int x2)] [] (wI cI cZ cO a u)) (fun k2 hk2 u x2 h9 => s_X11_weeksOn_2_b F x1  k2 hk2 u x2 h9) n u x2 hf
set_option maxRecDepth 100000 in
set_option maxHeartbeats 4000000 in
theorem ct_X11_weeksOn (l : Launch) (D : va_G) (cI cZ cO : ClassId) (a : Nat → Nat) {u : Nat → Int32} {x1 : Int32} {o : Nat → Int32} (hf : f_X11_weeksOn u x1 = some o) : Ct l yX11_weeksOn (uw (Cond.code yX11_weeksOn cX11_weeksOn 3 none)) rmX11_weeksOn D (tyL cI cZ cO) E0 [.ref (a 0), .int x1] (wI cI cZ cO a u) none (wI cI cZ cO a o) := by
  refine sm_start (cc := cX11_weeksOn) (maxL := 3) (ret := none) (own := RX11) (by decide) rfl rfl (Nat.le_of_ble_eq_true rfl) (lv := [(0, .ref (a 0)), (1, .int x1)]) rfl ?_
  intro p e s m below meth c A F hE hA
  unfold f_X11_weeksOn at hf
  refine sm_iconst F dX11_weeksOn_0 kc_i_0 ?_
  refine sm_istore_n F [(0, .ref (a 0)), (1, .int x1), (2, .int (0 : Int32))] [1, 2, 0] dX11_weeksOn_1 rfl (by decide) rfl ?_
  exact s_X11_weeksOn_2 F x1 smN u (0 : Int32) hf
/-! SoManyForgottenModel.hereIn([I)I -/
abbrev rmX11_hereIn : Room := { frames := 1, cells := 0, slots := 0, locals := 21 }
set_option maxRecDepth 100000 in
theorem hsX11_hereIn : yX11_hereIn.cls ≠ "java/lang/invoke/MethodHandle" ∧ yX11_hereIn.cls ≠ "java/lang/invoke/VarHandle" ∧ (parseMethodDescriptor yX11_hereIn.desc).map (fun d => d.parameters.length) = some 1 := by decide +kernel
set_option maxRecDepth 100000 in
set_option maxHeartbeats 4000000 in
theorem s_X11_hereIn_4_b {p : Program} {l : Launch} {e : Env} {s : State} {m : MethodId} {args : Array Value} {below : List Frame} {meth : Method} {c : Code} {A : Nat → Prop} {D : va_G} {cI cZ cO : ClassId} {a : Nat → Nat} {r : Int32} (F : smF p s m args meth c cX11_hereIn 3 (some .int) RX11 D (tyL cI cZ cO) A) (u : Nat → Int32) (k4 : Int32 → Int32 → Option Int32) (hk4 : ∀ (x1' : Int32) (x2' : Int32), k4 x1' x2' = some r → Sm p l e rmX11_hereIn s m args below meth c D A 3 0 0 (smQ below args s D A (some (.int r)) (wI cI cZ cO a u)) 4 [(0, .ref (a 0)), (1, .int x1'), (2, .int x2')] [] (wI cI cZ cO a u)) (x1 : Int32) (x2 : Int32) (hf : b_X11_hereIn_4 u  k4 x1 x2 = some r) : Sm p l e rmX11_hereIn s m args below meth c D A 3 0 0 (smQ below args s D A (some (.int r)) (wI cI cZ cO a u)) 4 [(0, .ref (a 0)), (1, .int x1), (2, .int x2)] [] (wI cI cZ cO a u) := by
  unfold b_X11_hereIn_4 at hf
  refine sm_iload_n F dX11_hereIn_4 rfl 2 rfl ?_
  refine sm_aload_n F dX11_hereIn_5 rfl 0 rfl ?_
  refine sm_iconst F dX11_hereIn_6 kc_i_0 ?_
  obtain ⟨h7, hf⟩ := ck_some hf
  refine sm_iald F 0 0 rfl rfl h7 dX11_hereIn_7 ?_
  refine sm_icmp_ge (tgt := 29) F dX11_hereIn_8 (by decide) (fun c8 => ?_) (fun c8 => ?_)
  · replace hf := if_t c8 hf
    refine sm_iload_n F dX11_hereIn_29 rfl 1 rfl ?_
    exact sm_iret F dX11_hereIn_30 (Option.some.inj hf) rfl
  · replace hf := if_f c8 hf
    refine sm_iload_n F dX11_hereIn_11 rfl 1 rfl ?_
    refine sm_aload_n F dX11_hereIn_12 rfl 0 rfl ?_
    refine sm_iload_n F dX11_hereIn_13 rfl 2 rfl ?_
    refine sm_iconst F dX11_hereIn_14 kc_i_2 ?_
    obtain ⟨z15, hz15, hf⟩ := bd_some hf
    refine sm_callS (rest := [.ref (a 0), .int x1]) F (ct_X11_of l D (tyL cI cZ cO) hz15) (cut_I_none cI cZ cO a u) rfl rfl rfl qw5_100 qw5_101 qw1_12 qw5_102 hsX11_of ⟨Nat.le_of_ble_eq_true rfl, Nat.le_of_ble_eq_true rfl⟩ ⟨Nat.zero_le _, Nat.zero_le _⟩ rfl (Nat.le_of_ble_eq_true rfl) E0_b (fun _ _ _ _ _ _ => trivial) rfl dX11_hereIn_15 [.int z15, .ref (a 0), .int x1] rfl ?_
    obtain ⟨h18, hf⟩ := ck_some hf
    refine sm_iald F 0 0 rfl rfl h18 dX11_hereIn_18 ?_
    refine sm_iload_n F dX11_hereIn_19 rfl 2 rfl ?_
    refine sm_ishl F dX11_hereIn_20 ?_
    refine sm_ior F dX11_hereIn_21 ?_
    refine sm_istore_n F [(0, .ref (a 0)), (1, .int (x1 ||| ((u (Int32.toNatClampNeg z15)) <<< (x2 &&& 31)))), (2, .int x2)] [1, 0, 2] dX11_hereIn_22 rfl (by decide) rfl ?_
    refine sm_iinc F [(0, .ref (a 0)), (1, .int (x1 ||| ((u (Int32.toNatClampNeg z15)) <<< (x2 &&& 31)))), (2, .int (x2 + 1))] 2 [1, 2, 0] dX11_hereIn_23 rfl kc_i_1 (by decide) rfl ?_
    refine sm_goto (tgt := 4) F dX11_hereIn_26 (by decide) ?_
    exact hk4 (x1 ||| ((u (Int32.toNatClampNeg z15)) <<< (x2 &&& 31))) (x2 + 1) hf
set_option maxRecDepth 100000 in
set_option maxHeartbeats 4000000 in
theorem s_X11_hereIn_4 {p : Program} {l : Launch} {e : Env} {s : State} {m : MethodId} {args : Array Value} {below : List Frame} {meth : Method} {c : Code} {A : Nat → Prop} {D : va_G} {cI cZ cO : ClassId} {a : Nat → Nat} {r : Int32} (F : smF p s m args meth c cX11_hereIn 3 (some .int) RX11 D (tyL cI cZ cO) A) (u : Nat → Int32)  (n : Nat) (x1 : Int32) (x2 : Int32) (hf : f_X11_hereIn_4 u  n x1 x2 = some r) : Sm p l e rmX11_hereIn s m args below meth c D A 3 0 0 (smQ below args s D A (some (.int r)) (wI cI cZ cO a u)) 4 [(0, .ref (a 0)), (1, .int x1), (2, .int x2)] [] (wI cI cZ cO a u) :=
  lq2_ind (P := fun (x1 : Int32) (x2 : Int32) => Sm p l e rmX11_hereIn s m args below meth c D A 3 0 0 (smQ below args s D A (some (.int r)) (wI cI cZ cO a u)) 4 [(0, .ref (a 0)), (1, .int x1), (2, .int x2)] [] (wI cI cZ cO a u)) (fun k4 hk4 x1 x2 h9 => s_X11_hereIn_4_b F u  k4 hk4 x1 x2 h9) n x1 x2 hf
set_option maxRecDepth 100000 in
set_option maxHeartbeats 4000000 in
theorem ct_X11_hereIn (l : Launch) (D : va_G) (cI cZ cO : ClassId) (a : Nat → Nat) {u : Nat → Int32} {r : Int32} (hf : f_X11_hereIn u = some r) : Ct l yX11_hereIn (uw (Cond.code yX11_hereIn cX11_hereIn 3 (some .int))) rmX11_hereIn D (tyL cI cZ cO) E0 [.ref (a 0)] (wI cI cZ cO a u) (some (.int r)) (wI cI cZ cO a u) := by
  refine sm_start (cc := cX11_hereIn) (maxL := 3) (ret := (some .int)) (own := RX11) (by decide) rfl rfl (Nat.le_of_ble_eq_true rfl) (lv := [(0, .ref (a 0))]) rfl ?_
  intro p e s m below meth c A F hE hA
  unfold f_X11_hereIn at hf
  refine sm_iconst F dX11_hereIn_0 kc_i_0 ?_
  refine sm_istore_n F [(0, .ref (a 0)), (1, .int (0 : Int32))] [1, 0] dX11_hereIn_1 rfl (by decide) rfl ?_
  refine sm_iconst F dX11_hereIn_2 kc_i_0 ?_
  refine sm_istore_n F [(0, .ref (a 0)), (1, .int (0 : Int32)), (2, .int (0 : Int32))] [1, 2, 0] dX11_hereIn_3 rfl (by decide) rfl ?_
  exact s_X11_hereIn_4 F u smN (0 : Int32) (0 : Int32) hf
/-! SoManyForgottenModel.speaksIn([III)V -/
abbrev rmX11_speaksIn : Room := { frames := 1, cells := 0, slots := 0, locals := 21 }
set_option maxRecDepth 100000 in
theorem hsX11_speaksIn : yX11_speaksIn.cls ≠ "java/lang/invoke/MethodHandle" ∧ yX11_speaksIn.cls ≠ "java/lang/invoke/VarHandle" ∧ (parseMethodDescriptor yX11_speaksIn.desc).map (fun d => d.parameters.length) = some 3 := by decide +kernel
set_option maxRecDepth 100000 in
set_option maxHeartbeats 4000000 in
theorem ct_X11_speaksIn (l : Launch) (D : va_G) (cI cZ cO : ClassId) (a : Nat → Nat) {u : Nat → Int32} {x1 : Int32} {x2 : Int32} {o : Nat → Int32} (hf : f_X11_speaksIn u x1 x2 = some o) : Ct l yX11_speaksIn (uw (Cond.code yX11_speaksIn cX11_speaksIn 3 none)) rmX11_speaksIn D (tyL cI cZ cO) E0 [.ref (a 0), .int x1, .int x2] (wI cI cZ cO a u) none (wI cI cZ cO a o) := by
  refine sm_start (cc := cX11_speaksIn) (maxL := 3) (ret := none) (own := RX11) (by decide) rfl rfl (Nat.le_of_ble_eq_true rfl) (lv := [(0, .ref (a 0)), (1, .int x1), (2, .int x2)]) rfl ?_
  intro p e s m below meth c A F hE hA
  unfold f_X11_speaksIn at hf
  refine sm_aload_n F dX11_speaksIn_0 rfl 0 rfl ?_
  refine sm_iload_n F dX11_speaksIn_1 rfl 1 rfl ?_
  refine sm_iload_n F dX11_speaksIn_2 rfl 2 rfl ?_
  obtain ⟨z3, hz3, hf⟩ := bd_some hf
  refine sm_callS (rest := [.ref (a 0)]) F (ct_X11_by l D (tyL cI cZ cO) hz3) (cut_I_none cI cZ cO a u) rfl rfl rfl qw5_103 qw5_104 qw1_12 qw5_105 hsX11_by ⟨Nat.le_of_ble_eq_true rfl, Nat.le_of_ble_eq_true rfl⟩ ⟨Nat.zero_le _, Nat.zero_le _⟩ rfl (Nat.le_of_ble_eq_true rfl) E0_b (fun _ _ _ _ _ _ => trivial) rfl dX11_speaksIn_3 [.int z3, .ref (a 0)] rfl ?_
  refine sm_aload_n F dX11_speaksIn_6 rfl 0 rfl ?_
  refine sm_iload_n F dX11_speaksIn_7 rfl 1 rfl ?_
  refine sm_iload_n F dX11_speaksIn_8 rfl 2 rfl ?_
  obtain ⟨z9, hz9, hf⟩ := bd_some hf
  refine sm_callS (rest := [.ref (a 0), .int z3, .ref (a 0)]) F (ct_X11_by l D (tyL cI cZ cO) hz9) (cut_I_none cI cZ cO a u) rfl rfl rfl qw5_103 qw5_104 qw1_12 qw5_105 hsX11_by ⟨Nat.le_of_ble_eq_true rfl, Nat.le_of_ble_eq_true rfl⟩ ⟨Nat.zero_le _, Nat.zero_le _⟩ rfl (Nat.le_of_ble_eq_true rfl) E0_b (fun _ _ _ _ _ _ => trivial) rfl dX11_speaksIn_9 [.int z9, .ref (a 0), .int z3, .ref (a 0)] rfl ?_
  obtain ⟨h12, hf⟩ := ck_some hf
  refine sm_iald F 0 0 rfl rfl h12 dX11_speaksIn_12 ?_
  refine sm_bipush F dX11_speaksIn_13 kc_b_10 ?_
  refine sm_iadd F dX11_speaksIn_15 ?_
  obtain ⟨z16, hz16, hf⟩ := bd_some hf
  refine sm_callS (rest := [.int z3, .ref (a 0)]) F (ct_X11_held l D (tyL cI cZ cO) hz16) (cut_I_none cI cZ cO a u) rfl rfl rfl qw5_120 qw5_121 qw1_12 qw5_122 hsX11_held ⟨Nat.le_of_ble_eq_true rfl, Nat.le_of_ble_eq_true rfl⟩ ⟨Nat.zero_le _, Nat.zero_le _⟩ rfl (Nat.le_of_ble_eq_true rfl) E0_b (fun _ _ _ _ _ _ => trivial) rfl dX11_speaksIn_16 [.int z16, .int z3, .ref (a 0)] rfl ?_
  obtain ⟨h19, hf⟩ := ck_some hf
  refine sm_iast F 0 0 rfl rfl h19 (wI cI cZ cO a (upd u (Int32.toNatClampNeg z3) z16)) rfl dX11_speaksIn_19 ?_
  refine sm_aload_n F dX11_speaksIn_20 rfl 0 rfl ?_
  refine sm_iload_n F dX11_speaksIn_21 rfl 2 rfl ?_
  refine sm_iload_n F dX11_speaksIn_22 rfl 1 rfl ?_
  obtain ⟨z23, hz23, hf⟩ := bd_some hf
  refine sm_callS (rest := [.ref (a 0)]) F (ct_X11_by l D (tyL cI cZ cO) hz23) (cut_I_none cI cZ cO a (upd u (Int32.toNatClampNeg z3) z16)) rfl rfl rfl qw5_103 qw5_104 qw1_12 qw5_105 hsX11_by ⟨Nat.le_of_ble_eq_true rfl, Nat.le_of_ble_eq_true rfl⟩ ⟨Nat.zero_le _, Nat.zero_le _⟩ rfl (Nat.le_of_ble_eq_true rfl) E0_b (fun _ _ _ _ _ _ => trivial) rfl dX11_speaksIn_23 [.int z23, .ref (a 0)] rfl ?_
  refine sm_aload_n F dX11_speaksIn_26 rfl 0 rfl ?_
  refine sm_iload_n F dX11_speaksIn_27 rfl 2 rfl ?_
  refine sm_iload_n F dX11_speaksIn_28 rfl 1 rfl ?_
  obtain ⟨z29, hz29, hf⟩ := bd_some hf
  refine sm_callS (rest := [.ref (a 0), .int z23, .ref (a 0)]) F (ct_X11_by l D (tyL cI cZ cO) hz29) (cut_I_none cI cZ cO a (upd u (Int32.toNatClampNeg z3) z16)) rfl rfl rfl qw5_103 qw5_104 qw1_12 qw5_105 hsX11_by ⟨Nat.le_of_ble_eq_true rfl, Nat.le_of_ble_eq_true rfl⟩ ⟨Nat.zero_le _, Nat.zero_le _⟩ rfl (Nat.le_of_ble_eq_true rfl) E0_b (fun _ _ _ _ _ _ => trivial) rfl dX11_speaksIn_29 [.int z29, .ref (a 0), .int z23, .ref (a 0)] rfl ?_
  obtain ⟨h32, hf⟩ := ck_some hf
  refine sm_iald F 0 0 rfl rfl h32 dX11_speaksIn_32 ?_
  refine sm_bipush F dX11_speaksIn_33 kc_b_10 ?_
  refine sm_iadd F dX11_speaksIn_35 ?_
  obtain ⟨z36, hz36, hf⟩ := bd_some hf
  refine sm_callS (rest := [.int z23, .ref (a 0)]) F (ct_X11_held l D (tyL cI cZ cO) hz36) (cut_I_none cI cZ cO a (upd u (Int32.toNatClampNeg z3) z16)) rfl rfl rfl qw5_120 qw5_121 qw1_12 qw5_122 hsX11_held ⟨Nat.le_of_ble_eq_true rfl, Nat.le_of_ble_eq_true rfl⟩ ⟨Nat.zero_le _, Nat.zero_le _⟩ rfl (Nat.le_of_ble_eq_true rfl) E0_b (fun _ _ _ _ _ _ => trivial) rfl dX11_speaksIn_36 [.int z36, .int z23, .ref (a 0)] rfl ?_
  obtain ⟨h39, hf⟩ := ck_some hf
  refine sm_iast F 0 0 rfl rfl h39 (wI cI cZ cO a (upd (upd u (Int32.toNatClampNeg z3) z16) (Int32.toNatClampNeg z23) z36)) rfl dX11_speaksIn_39 ?_
  exact sm_vret F dX11_speaksIn_40 (congrArg (fun z => (wI cI cZ cO a z)) (Option.some.inj hf))
/-! SoManyForgottenModel.comesBack([II)V -/
abbrev rmX11_comesBack : Room := { frames := 2, cells := 0, slots := 0, locals := 42 }
set_option maxRecDepth 100000 in
theorem hsX11_comesBack : yX11_comesBack.cls ≠ "java/lang/invoke/MethodHandle" ∧ yX11_comesBack.cls ≠ "java/lang/invoke/VarHandle" ∧ (parseMethodDescriptor yX11_comesBack.desc).map (fun d => d.parameters.length) = some 2 := by decide +kernel
set_option maxRecDepth 100000 in
set_option maxHeartbeats 4000000 in
theorem s_X11_comesBack_2_b {p : Program} {l : Launch} {e : Env} {s : State} {m : MethodId} {args : Array Value} {below : List Frame} {meth : Method} {c : Code} {A : Nat → Prop} {D : va_G} {cI cZ cO : ClassId} {a : Nat → Nat} {o : Nat → Int32} (F : smF p s m args meth c cX11_comesBack 3 none RX11 D (tyL cI cZ cO) A) (x1 : Int32) (k2 : (Nat → Int32) → Int32 → Option (Nat → Int32)) (hk2 : ∀ (u' : Nat → Int32) (x2' : Int32), k2 u' x2' = some o → Sm p l e rmX11_comesBack s m args below meth c D A 3 0 0 (smQ below args s D A none (wI cI cZ cO a o)) 2 [(0, .ref (a 0)), (1, .int x1), (2, .int x2')] [] (wI cI cZ cO a u')) (u : Nat → Int32) (x2 : Int32) (hf : b_X11_comesBack_2 x1  k2 u x2 = some o) : Sm p l e rmX11_comesBack s m args below meth c D A 3 0 0 (smQ below args s D A none (wI cI cZ cO a o)) 2 [(0, .ref (a 0)), (1, .int x1), (2, .int x2)] [] (wI cI cZ cO a u) := by
  unfold b_X11_comesBack_2 at hf
  refine sm_iload_n F dX11_comesBack_2 rfl 2 rfl ?_
  refine sm_aload_n F dX11_comesBack_3 rfl 0 rfl ?_
  refine sm_iconst F dX11_comesBack_4 kc_i_0 ?_
  obtain ⟨h5, hf⟩ := ck_some hf
  refine sm_iald F 0 0 rfl rfl h5 dX11_comesBack_5 ?_
  refine sm_icmp_ge (tgt := 32) F dX11_comesBack_6 (by decide) (fun c6 => ?_) (fun c6 => ?_)
  · replace hf := if_t c6 hf
    refine sm_aload_n F dX11_comesBack_32 rfl 0 rfl ?_
    refine sm_iload_n F dX11_comesBack_33 rfl 1 rfl ?_
    refine sm_iconst F dX11_comesBack_34 kc_i_2 ?_
    obtain ⟨z35, hz35, hf⟩ := bd_some hf
    refine sm_callS (rest := [.ref (a 0)]) F (ct_X11_of l D (tyL cI cZ cO) hz35) (cut_I_none cI cZ cO a u) rfl rfl rfl qw5_100 qw5_101 qw1_12 qw5_102 hsX11_of ⟨Nat.le_of_ble_eq_true rfl, Nat.le_of_ble_eq_true rfl⟩ ⟨Nat.zero_le _, Nat.zero_le _⟩ rfl (Nat.le_of_ble_eq_true rfl) E0_b (fun _ _ _ _ _ _ => trivial) rfl dX11_comesBack_35 [.int z35, .ref (a 0)] rfl ?_
    refine sm_iconst F dX11_comesBack_38 kc_i_1 ?_
    obtain ⟨h39, hf⟩ := ck_some hf
    refine sm_iast F 0 0 rfl rfl h39 (wI cI cZ cO a (upd u (Int32.toNatClampNeg z35) (1 : Int32))) rfl dX11_comesBack_39 ?_
    exact sm_vret F dX11_comesBack_40 (congrArg (fun z => (wI cI cZ cO a z)) (Option.some.inj hf))
  · replace hf := if_f c6 hf
    refine sm_aload_n F dX11_comesBack_9 rfl 0 rfl ?_
    refine sm_iload_n F dX11_comesBack_10 rfl 2 rfl ?_
    obtain ⟨z11, hz11, hf⟩ := bd_some hf
    refine sm_callS (rest := []) F (ct_X11_isHere l D cI cZ cO a hz11) (cut_I_id cI cZ cO a u u) rfl rfl rfl qw5_114 qw5_115 qw1_12 qw5_116 hsX11_isHere ⟨Nat.le_of_ble_eq_true rfl, Nat.le_of_ble_eq_true rfl⟩ ⟨Nat.zero_le _, Nat.zero_le _⟩ rfl (Nat.le_of_ble_eq_true rfl) E0_b (fun _ _ _ _ _ _ => trivial) rfl dX11_comesBack_11 [.int z11] rfl ?_
    refine sm_if_eq (tgt := 26) F dX11_comesBack_14 (by decide) (fun c14 => ?_) (fun c14 => ?_)
    · replace hf := if_t c14 hf
      refine sm_iinc F [(0, .ref (a 0)), (1, .int x1), (2, .int (x2 + 1))] 2 [1, 2, 0] dX11_comesBack_26 rfl kc_i_1 (by decide) rfl ?_
      refine sm_goto (tgt := 2) F dX11_comesBack_29 (by decide) ?_
      exact hk2 u (x2 + 1) hf
    · replace hf := if_f c14 hf
      refine sm_aload_n F dX11_comesBack_17 rfl 0 rfl ?_
      refine sm_iload_n F dX11_comesBack_18 rfl 2 rfl ?_
      refine sm_iload_n F dX11_comesBack_19 rfl 1 rfl ?_
      obtain ⟨z20, hz20, hf⟩ := bd_some hf
      refine sm_callS (rest := [.ref (a 0)]) F (ct_X11_by l D (tyL cI cZ cO) hz20) (cut_I_none cI cZ cO a u) rfl rfl rfl qw5_103 qw5_104 qw1_12 qw5_105 hsX11_by ⟨Nat.le_of_ble_eq_true rfl, Nat.le_of_ble_eq_true rfl⟩ ⟨Nat.zero_le _, Nat.zero_le _⟩ rfl (Nat.le_of_ble_eq_true rfl) E0_b (fun _ _ _ _ _ _ => trivial) rfl dX11_comesBack_20 [.int z20, .ref (a 0)] rfl ?_
      refine sm_bipush F dX11_comesBack_23 kc_b_20 ?_
      obtain ⟨h25, hf⟩ := ck_some hf
      refine sm_iast F 0 0 rfl rfl h25 (wI cI cZ cO a (upd u (Int32.toNatClampNeg z20) (20 : Int32))) rfl dX11_comesBack_25 ?_
      refine sm_iinc F [(0, .ref (a 0)), (1, .int x1), (2, .int (x2 + 1))] 2 [1, 2, 0] dX11_comesBack_26 rfl kc_i_1 (by decide) rfl ?_
      refine sm_goto (tgt := 2) F dX11_comesBack_29 (by decide) ?_
      exact hk2 (upd u (Int32.toNatClampNeg z20) (20 : Int32)) (x2 + 1) hf
set_option maxRecDepth 100000 in
set_option maxHeartbeats 4000000 in
theorem s_X11_comesBack_2 {p : Program} {l : Launch} {e : Env} {s : State} {m : MethodId} {args : Array Value} {below : List Frame} {meth : Method} {c : Code} {A : Nat → Prop} {D : va_G} {cI cZ cO : ClassId} {a : Nat → Nat} {o : Nat → Int32} (F : smF p s m args meth c cX11_comesBack 3 none RX11 D (tyL cI cZ cO) A) (x1 : Int32)  (n : Nat) (u : Nat → Int32) (x2 : Int32) (hf : f_X11_comesBack_2 x1  n u x2 = some o) : Sm p l e rmX11_comesBack s m args below meth c D A 3 0 0 (smQ below args s D A none (wI cI cZ cO a o)) 2 [(0, .ref (a 0)), (1, .int x1), (2, .int x2)] [] (wI cI cZ cO a u) :=
  lq2_ind (P := fun (u : Nat → Int32) (x2 : Int32) => Sm p l e rmX11_comesBack s m args below meth c D A 3 0 0 (smQ below args s D A none (wI cI cZ cO a o)) 2 [(0, .ref (a 0)), (1, .int x1), (2, .int x2)] [] (wI cI cZ cO a u)) (fun k2 hk2 u x2 h9 => s_X11_comesBack_2_b F x1  k2 hk2 u x2 h9) n u x2 hf
set_option maxRecDepth 100000 in
set_option maxHeartbeats 4000000 in
theorem ct_X11_comesBack (l : Launch) (D : va_G) (cI cZ cO : ClassId) (a : Nat → Nat) {u : Nat → Int32} {x1 : Int32} {o : Nat → Int32} (hf : f_X11_comesBack u x1 = some o) : Ct l yX11_comesBack (uw (Cond.code yX11_comesBack cX11_comesBack 3 none)) rmX11_comesBack D (tyL cI cZ cO) E0 [.ref (a 0), .int x1] (wI cI cZ cO a u) none (wI cI cZ cO a o) := by
  refine sm_start (cc := cX11_comesBack) (maxL := 3) (ret := none) (own := RX11) (by decide) rfl rfl (Nat.le_of_ble_eq_true rfl) (lv := [(0, .ref (a 0)), (1, .int x1)]) rfl ?_
  intro p e s m below meth c A F hE hA
  unfold f_X11_comesBack at hf
  refine sm_iconst F dX11_comesBack_0 kc_i_0 ?_
  refine sm_istore_n F [(0, .ref (a 0)), (1, .int x1), (2, .int (0 : Int32))] [1, 2, 0] dX11_comesBack_1 rfl (by decide) rfl ?_
  exact s_X11_comesBack_2 F x1 smN u (0 : Int32) hf
/-! SoManyForgottenModel.letter(I)I -/
abbrev rmX11_letter : Room := { frames := 1, cells := 0, slots := 0, locals := 21 }
set_option maxRecDepth 100000 in
theorem hvX11_letter : yX11_letter.cls = RX11 ∧ yX11_letter.cls ≠ "java/lang/invoke/MethodHandle" ∧ yX11_letter.cls ≠ "java/lang/invoke/VarHandle" ∧ (parseMethodDescriptor yX11_letter.desc).map (fun d => d.parameters.length) = some 1 := by decide +kernel
set_option maxRecDepth 100000 in
set_option maxHeartbeats 4000000 in
theorem s_X11_letter_27 {p : Program} {l : Launch} {e : Env} {s : State} {m : MethodId} {args : Array Value} {below : List Frame} {meth : Method} {c : Code} {A : Nat → Prop} {D : va_G} {cI cZ cO : ClassId} {a : Nat → Nat} {r : Int32} {o : DS} (F : smF p s m args meth c cX11_letter 2 (some .int) RX11 D (tyL cI cZ cO) A)   (u : DS) (hf : f_X11_letter_27    u = some (r, o)) : Sm p l e rmX11_letter s m args below meth c D A 2 0 0 (smQ below args s D A (some (.int r)) (wD cI cZ cO a o)) 27 [(0, .ref (a 0))] [] (wD cI cZ cO a u) := by
  unfold f_X11_letter_27 at hf
  refine sm_aload_n F dX11_letter_27 rfl 0 rfl ?_
  refine sm_bipush F dX11_letter_28 kc_b_m6 ?_
  obtain ⟨z30, hz30, hf⟩ := bd_some hf
  refine sm_callV (rest := []) F (ct_X11_no l D cI cZ cO a hz30) (cut_D_id cI cZ cO a u z30.2) rfl rfl rfl qw5_59 qw5_61 qw0_29 qw1_12 qw5_62 hvX11_no ⟨Nat.le_of_ble_eq_true rfl, Nat.le_of_ble_eq_true rfl⟩ ⟨Nat.zero_le _, Nat.zero_le _⟩ 0 11 rfl rfl rfl rfl (Nat.le_of_ble_eq_true rfl) E0_b (fun _ _ _ _ _ _ => trivial) rfl dX11_letter_30 [.int z30.1] rfl ?_
  exact sm_iret F dX11_letter_33 (Prod.mk.inj (Option.some.inj hf)).1 (congrArg (fun z => (wD cI cZ cO a z)) (Prod.mk.inj (Option.some.inj hf)).2)
set_option maxRecDepth 100000 in
set_option maxHeartbeats 4000000 in
theorem ct_X11_letter (l : Launch) (D : va_G) (cI cZ cO : ClassId) (a : Nat → Nat) {u : DS} {x1 : Int32} {r : Int32} {o : DS} (hf : f_X11_letter u x1 = some (r, o)) : Ct l yX11_letter (uw (Cond.code yX11_letter cX11_letter 2 (some .int))) rmX11_letter D (tyL cI cZ cO) E0 [.ref (a 0), .int x1] (wD cI cZ cO a u) (some (.int r)) (wD cI cZ cO a o) := by
  refine sm_start (cc := cX11_letter) (maxL := 2) (ret := (some .int)) (own := RX11) (by decide) rfl rfl (Nat.le_of_ble_eq_true rfl) (lv := [(0, .ref (a 0)), (1, .int x1)]) rfl ?_
  intro p e s m below meth c A F hE hA
  unfold f_X11_letter at hf
  refine sm_iload_n F dX11_letter_0 rfl 1 rfl ?_
  refine sm_if_ge (tgt := 11) F dX11_letter_1 (by decide) (fun c1 => ?_) (fun c1 => ?_)
  · replace hf := if_t c1 hf
    refine sm_iload_n F dX11_letter_11 rfl 1 rfl ?_
    refine sm_sipush F dX11_letter_12 kc_s_255 ?_
    refine sm_icmp_gt (tgt := 27) F dX11_letter_15 (by decide) (fun c15 => ?_) (fun c15 => ?_)
    · replace hf := if_t c15 hf
      refine sm_sub (lv' := [(0, .ref (a 0))]) [0] rfl ?_
      exact s_X11_letter_27 F  u hf
    · replace hf := if_f c15 hf
      refine sm_aload_n F dX11_letter_18 rfl 0 rfl ?_
      refine sm_get (v := .int (gD_letN u)) F inX11 0 rfl rfl 8 (by decide) qw5_23 rfl rfl dX11_letter_19 ?_
      refine sm_bipush F dX11_letter_22 kc_b_96 ?_
      refine sm_icmp_ne (tgt := 34) F dX11_letter_24 (by decide) (fun c24 => ?_) (fun c24 => ?_)
      · replace hf := if_f c24 hf
        refine sm_aload_n F dX11_letter_34 rfl 0 rfl ?_
        refine sm_get (v := .ref (a 5)) F inX11 0 rfl rfl 5 (by decide) qw5_20 rfl rfl dX11_letter_35 ?_
        refine sm_aload_n F dX11_letter_38 rfl 0 rfl ?_
        refine sm_get (v := .int (gD_letN u)) F inX11 0 rfl rfl 8 (by decide) qw5_23 rfl rfl dX11_letter_39 ?_
        refine sm_iload_n F dX11_letter_42 rfl 1 rfl ?_
        obtain ⟨h43, hf⟩ := ck_some hf
        refine sm_iast F 5 0 rfl rfl h43 (wD cI cZ cO a (sD_let u (upd (gD_let u) (Int32.toNatClampNeg (gD_letN u)) x1))) rfl dX11_letter_43 ?_
        refine sm_aload_n F dX11_letter_44 rfl 0 rfl ?_
        refine sm_dup F dX11_letter_45 rfl ?_
        refine sm_get (v := .int (gD_letN (sD_let u (upd (gD_let u) (Int32.toNatClampNeg (gD_letN u)) x1)))) F inX11 0 rfl rfl 8 (by decide) qw5_23 rfl rfl dX11_letter_46 ?_
        refine sm_iconst F dX11_letter_49 kc_i_1 ?_
        refine sm_iadd F dX11_letter_50 ?_
        obtain ⟨v51, hv51, hf⟩ := bd_some hf
        refine sm_topi (Option.some.inj hv51) ?_
        refine sm_put F inX11 tyX11 tyX11_ok nmX11 0 rfl rfl 8 (by decide) qw5_23 rfl rfl rfl rfl (Nat.le_of_ble_eq_true rfl) (wD cI cZ cO a (sD_letN (sD_let u (upd (gD_let u) (Int32.toNatClampNeg (gD_letN u)) x1)) v51)) rfl dX11_letter_51 ?_
        refine sm_aload_n F dX11_letter_54 rfl 0 rfl ?_
        refine sm_get (v := .int (gD_letN (sD_letN (sD_let u (upd (gD_let u) (Int32.toNatClampNeg (gD_letN u)) x1)) v51))) F inX11 0 rfl rfl 8 (by decide) qw5_23 rfl rfl dX11_letter_55 ?_
        exact sm_iret F dX11_letter_58 (Prod.mk.inj (Option.some.inj hf)).1 (congrArg (fun z => (wD cI cZ cO a z)) (Prod.mk.inj (Option.some.inj hf)).2)
      · replace hf := if_t c24 hf
        refine sm_sub (lv' := [(0, .ref (a 0))]) [0] rfl ?_
        exact s_X11_letter_27 F  u hf
  · replace hf := if_f c1 hf
    refine sm_aload_n F dX11_letter_4 rfl 0 rfl ?_
    refine sm_bipush F dX11_letter_5 kc_b_m4 ?_
    obtain ⟨z7, hz7, hf⟩ := bd_some hf
    refine sm_callV (rest := []) F (ct_X11_no l D cI cZ cO a hz7) (cut_D_id cI cZ cO a u z7.2) rfl rfl rfl qw5_59 qw5_61 qw0_29 qw1_12 qw5_62 hvX11_no ⟨Nat.le_of_ble_eq_true rfl, Nat.le_of_ble_eq_true rfl⟩ ⟨Nat.zero_le _, Nat.zero_le _⟩ 0 11 rfl rfl rfl rfl (Nat.le_of_ble_eq_true rfl) E0_b (fun _ _ _ _ _ _ => trivial) rfl dX11_letter_7 [.int z7.1] rfl ?_
    exact sm_iret F dX11_letter_10 (Prod.mk.inj (Option.some.inj hf)).1 (congrArg (fun z => (wD cI cZ cO a z)) (Prod.mk.inj (Option.some.inj hf)).2)
/-! SoManyForgottenModel.here()I -/
abbrev rmX11_here : Room := { frames := 0, cells := 0, slots := 0, locals := 0 }
set_option maxRecDepth 100000 in
theorem hvX11_here : yX11_here.cls = RX11 ∧ yX11_here.cls ≠ "java/lang/invoke/MethodHandle" ∧ yX11_here.cls ≠ "java/lang/invoke/VarHandle" ∧ (parseMethodDescriptor yX11_here.desc).map (fun d => d.parameters.length) = some 0 := by decide +kernel
set_option maxRecDepth 100000 in
set_option maxHeartbeats 4000000 in
theorem ct_X11_here (l : Launch) (D : va_G) (cI cZ cO : ClassId) (a : Nat → Nat) {u : DS} {r : Int32} (hf : f_X11_here u = some r) : Ct l yX11_here (uw (Cond.code yX11_here cX11_here 1 (some .int))) rmX11_here D (tyL cI cZ cO) E0 [.ref (a 0)] (wD cI cZ cO a u) (some (.int r)) (wD cI cZ cO a u) := by
  refine sm_start (cc := cX11_here) (maxL := 1) (ret := (some .int)) (own := RX11) (by decide) rfl rfl (Nat.le_of_ble_eq_true rfl) (lv := [(0, .ref (a 0))]) rfl ?_
  intro p e s m below meth c A F hE hA
  unfold f_X11_here at hf
  refine sm_aload_n F dX11_here_0 rfl 0 rfl ?_
  refine sm_get (v := .int (gD_place u)) F inX11 0 rfl rfl 10 (by decide) qw5_25 rfl rfl dX11_here_1 ?_
  refine sm_aload_n F dX11_here_4 rfl 0 rfl ?_
  refine sm_get (v := .int (gD_letN u)) F inX11 0 rfl rfl 8 (by decide) qw5_23 rfl rfl dX11_here_5 ?_
  refine sm_icmp_ge (tgt := 23) F dX11_here_8 (by decide) (fun c8 => ?_) (fun c8 => ?_)
  · replace hf := if_t c8 hf
    refine sm_iconst F dX11_here_23 kc_i_m1 ?_
    exact sm_iret F dX11_here_24 (Option.some.inj hf) rfl
  · replace hf := if_f c8 hf
    refine sm_aload_n F dX11_here_11 rfl 0 rfl ?_
    refine sm_get (v := .ref (a 5)) F inX11 0 rfl rfl 5 (by decide) qw5_20 rfl rfl dX11_here_12 ?_
    refine sm_aload_n F dX11_here_15 rfl 0 rfl ?_
    refine sm_get (v := .int (gD_place u)) F inX11 0 rfl rfl 10 (by decide) qw5_25 rfl rfl dX11_here_16 ?_
    obtain ⟨h19, hf⟩ := ck_some hf
    refine sm_iald F 5 0 rfl rfl h19 dX11_here_19 ?_
    refine sm_goto (tgt := 24) F dX11_here_20 (by decide) ?_
    exact sm_iret F dX11_here_24 (Option.some.inj hf) rfl
/-! SoManyForgottenModel.readsNumber(II)Z -/
abbrev rmX11_readsNumber : Room := { frames := 1, cells := 0, slots := 0, locals := 22 }
set_option maxRecDepth 100000 in
theorem hvX11_readsNumber : yX11_readsNumber.cls = RX11 ∧ yX11_readsNumber.cls ≠ "java/lang/invoke/MethodHandle" ∧ yX11_readsNumber.cls ≠ "java/lang/invoke/VarHandle" ∧ (parseMethodDescriptor yX11_readsNumber.desc).map (fun d => d.parameters.length) = some 2 := by decide +kernel
set_option maxRecDepth 100000 in
set_option maxHeartbeats 4000000 in
theorem s_X11_readsNumber_9_b {p : Program} {l : Launch} {e : Env} {s : State} {m : MethodId} {args : Array Value} {below : List Frame} {meth : Method} {c : Code} {A : Nat → Prop} {D : va_G} {cI cZ cO : ClassId} {a : Nat → Nat} {r : Int32} {o : DS} (F : smF p s m args meth c cX11_readsNumber 4 (some .boolean) RX11 D (tyL cI cZ cO) A) (x1 : Int32) (x2 : Int32) (k9 : DS → Int32 → Option (Int32 × (DS))) (hk9 : ∀ (u' : DS) (x3' : Int32), k9 u' x3' = some (r, o) → Sm p l e rmX11_readsNumber s m args below meth c D A 4 0 0 (smQ below args s D A (some (.int r)) (wD cI cZ cO a o)) 9 [(0, .ref (a 0)), (1, .int x1), (2, .int x2), (3, .int x3')] [] (wD cI cZ cO a u')) (u : DS) (x3 : Int32) (hf : b_X11_readsNumber_9 x1 x2  k9 u x3 = some (r, o)) : Sm p l e rmX11_readsNumber s m args below meth c D A 4 0 0 (smQ below args s D A (some (.int r)) (wD cI cZ cO a o)) 9 [(0, .ref (a 0)), (1, .int x1), (2, .int x2), (3, .int x3)] [] (wD cI cZ cO a u) := by
  unfold b_X11_readsNumber_9 at hf
  refine sm_iload_n F dX11_readsNumber_9 rfl 3 rfl ?_
  refine sm_iload_n F dX11_readsNumber_10 rfl 2 rfl ?_
  refine sm_icmp_ge (tgt := 69) F dX11_readsNumber_11 (by decide) (fun c11 => ?_) (fun c11 => ?_)
  · replace hf := if_t c11 hf
    refine sm_iconst F dX11_readsNumber_69 kc_i_1 ?_
    exact sm_zret F dX11_readsNumber_70 rfl (Prod.mk.inj (Option.some.inj hf)).1 (congrArg (fun z => (wD cI cZ cO a z)) (Prod.mk.inj (Option.some.inj hf)).2)
  · replace hf := if_f c11 hf
    refine sm_aload_n F dX11_readsNumber_14 rfl 0 rfl ?_
    obtain ⟨z15, hz15, hf⟩ := bd_some hf
    refine sm_callV (rest := []) F (ct_X11_here l D cI cZ cO a hz15) (cut_D_id cI cZ cO a u u) rfl rfl rfl qw5_71 qw5_73 qw0_31 qw1_12 qw5_74 hvX11_here ⟨Nat.le_of_ble_eq_true rfl, Nat.le_of_ble_eq_true rfl⟩ ⟨Nat.zero_le _, Nat.zero_le _⟩ 0 11 rfl rfl rfl rfl (Nat.le_of_ble_eq_true rfl) E0_b (fun _ _ _ _ _ _ => trivial) rfl dX11_readsNumber_15 [.int z15] rfl ?_
    refine sm_bipush F dX11_readsNumber_18 kc_b_48 ?_
    refine sm_bipush F dX11_readsNumber_20 kc_b_57 ?_
    obtain ⟨z22, hz22, hf⟩ := bd_some hf
    refine sm_callS (rest := []) F (ct_X11_isIn l D (tyL cI cZ cO) hz22) (cut_D_none cI cZ cO a u) rfl rfl rfl qw5_86 qw5_87 qw1_12 qw5_88 hsX11_isIn ⟨Nat.le_of_ble_eq_true rfl, Nat.le_of_ble_eq_true rfl⟩ ⟨Nat.zero_le _, Nat.zero_le _⟩ rfl (Nat.le_of_ble_eq_true rfl) E0_b (fun _ _ _ _ _ _ => trivial) rfl dX11_readsNumber_22 [.int z22] rfl ?_
    refine sm_if_ne (tgt := 30) F dX11_readsNumber_25 (by decide) (fun c25 => ?_) (fun c25 => ?_)
    · replace hf := if_f c25 hf
      refine sm_aload_n F dX11_readsNumber_30 rfl 0 rfl ?_
      refine sm_get (v := .ref (a 8)) F inX11 0 rfl rfl 11 (by decide) qw5_26 rfl rfl dX11_readsNumber_31 ?_
      refine sm_iload_n F dX11_readsNumber_34 rfl 1 rfl ?_
      refine sm_bipush F dX11_readsNumber_35 kc_b_10 ?_
      refine sm_aload_n F dX11_readsNumber_37 rfl 0 rfl ?_
      refine sm_get (v := .ref (a 8)) F inX11 0 rfl rfl 11 (by decide) qw5_26 rfl rfl dX11_readsNumber_38 ?_
      refine sm_iload_n F dX11_readsNumber_41 rfl 1 rfl ?_
      obtain ⟨h42, hf⟩ := ck_some hf
      refine sm_iald F 8 0 rfl rfl h42 dX11_readsNumber_42 ?_
      refine sm_imul F dX11_readsNumber_43 ?_
      refine sm_aload_n F dX11_readsNumber_44 rfl 0 rfl ?_
      obtain ⟨z45, hz45, hf⟩ := bd_some hf
      refine sm_callV (rest := [.int ((10 : Int32) * ((gD_num u) (Int32.toNatClampNeg x1))), .int x1, .ref (a 8)]) F (ct_X11_here l D cI cZ cO a hz45) (cut_D_id cI cZ cO a u u) rfl rfl rfl qw5_71 qw5_73 qw0_31 qw1_12 qw5_74 hvX11_here ⟨Nat.le_of_ble_eq_true rfl, Nat.le_of_ble_eq_true rfl⟩ ⟨Nat.zero_le _, Nat.zero_le _⟩ 0 11 rfl rfl rfl rfl (Nat.le_of_ble_eq_true rfl) E0_b (fun _ _ _ _ _ _ => trivial) rfl dX11_readsNumber_45 [.int z45, .int ((10 : Int32) * ((gD_num u) (Int32.toNatClampNeg x1))), .int x1, .ref (a 8)] rfl ?_
      refine sm_iadd F dX11_readsNumber_48 ?_
      refine sm_bipush F dX11_readsNumber_49 kc_b_48 ?_
      refine sm_isub F dX11_readsNumber_51 ?_
      obtain ⟨v52, hv52, hf⟩ := bd_some hf
      refine sm_topi (Option.some.inj hv52) ?_
      obtain ⟨h52, hf⟩ := ck_some hf
      refine sm_iast F 8 0 rfl rfl h52 (wD cI cZ cO a (sD_num u (upd (gD_num u) (Int32.toNatClampNeg x1) v52))) rfl dX11_readsNumber_52 ?_
      refine sm_aload_n F dX11_readsNumber_53 rfl 0 rfl ?_
      refine sm_dup F dX11_readsNumber_54 rfl ?_
      refine sm_get (v := .int (gD_place (sD_num u (upd (gD_num u) (Int32.toNatClampNeg x1) v52)))) F inX11 0 rfl rfl 10 (by decide) qw5_25 rfl rfl dX11_readsNumber_55 ?_
      refine sm_iconst F dX11_readsNumber_58 kc_i_1 ?_
      refine sm_iadd F dX11_readsNumber_59 ?_
      obtain ⟨v60, hv60, hf⟩ := bd_some hf
      refine sm_topi (Option.some.inj hv60) ?_
      refine sm_put F inX11 tyX11 tyX11_ok nmX11 0 rfl rfl 10 (by decide) qw5_25 rfl rfl rfl rfl (Nat.le_of_ble_eq_true rfl) (wD cI cZ cO a (sD_place (sD_num u (upd (gD_num u) (Int32.toNatClampNeg x1) v52)) v60)) rfl dX11_readsNumber_60 ?_
      refine sm_iinc F [(0, .ref (a 0)), (1, .int x1), (2, .int x2), (3, .int (x3 + 1))] 3 [1, 2, 3, 0] dX11_readsNumber_63 rfl kc_i_1 (by decide) rfl ?_
      refine sm_goto (tgt := 9) F dX11_readsNumber_66 (by decide) ?_
      exact hk9 (sD_place (sD_num u (upd (gD_num u) (Int32.toNatClampNeg x1) v52)) v60) (x3 + 1) hf
    · replace hf := if_t c25 hf
      refine sm_iconst F dX11_readsNumber_28 kc_i_0 ?_
      exact sm_zret F dX11_readsNumber_29 rfl (Prod.mk.inj (Option.some.inj hf)).1 (congrArg (fun z => (wD cI cZ cO a z)) (Prod.mk.inj (Option.some.inj hf)).2)
set_option maxRecDepth 100000 in
set_option maxHeartbeats 4000000 in
theorem s_X11_readsNumber_9 {p : Program} {l : Launch} {e : Env} {s : State} {m : MethodId} {args : Array Value} {below : List Frame} {meth : Method} {c : Code} {A : Nat → Prop} {D : va_G} {cI cZ cO : ClassId} {a : Nat → Nat} {r : Int32} {o : DS} (F : smF p s m args meth c cX11_readsNumber 4 (some .boolean) RX11 D (tyL cI cZ cO) A) (x1 : Int32) (x2 : Int32)  (n : Nat) (u : DS) (x3 : Int32) (hf : f_X11_readsNumber_9 x1 x2  n u x3 = some (r, o)) : Sm p l e rmX11_readsNumber s m args below meth c D A 4 0 0 (smQ below args s D A (some (.int r)) (wD cI cZ cO a o)) 9 [(0, .ref (a 0)), (1, .int x1), (2, .int x2), (3, .int x3)] [] (wD cI cZ cO a u) :=
  lq2_ind (P := fun (u : DS) (x3 : Int32) => Sm p l e rmX11_readsNumber s m args below meth c D A 4 0 0 (smQ below args s D A (some (.int r)) (wD cI cZ cO a o)) 9 [(0, .ref (a 0)), (1, .int x1), (2, .int x2), (3, .int x3)] [] (wD cI cZ cO a u)) (fun k9 hk9 u x3 h9 => s_X11_readsNumber_9_b F x1 x2  k9 hk9 u x3 h9) n u x3 hf
set_option maxRecDepth 100000 in
set_option maxHeartbeats 4000000 in
theorem ct_X11_readsNumber (l : Launch) (D : va_G) (cI cZ cO : ClassId) (a : Nat → Nat) {u : DS} {x1 : Int32} {x2 : Int32} {r : Int32} {o : DS} (hf : f_X11_readsNumber u x1 x2 = some (r, o)) : Ct l yX11_readsNumber (uw (Cond.code yX11_readsNumber cX11_readsNumber 4 (some .boolean))) rmX11_readsNumber D (tyL cI cZ cO) E0 [.ref (a 0), .int x1, .int x2] (wD cI cZ cO a u) (some (.int r)) (wD cI cZ cO a o) := by
  refine sm_start (cc := cX11_readsNumber) (maxL := 4) (ret := (some .boolean)) (own := RX11) (by decide) rfl rfl (Nat.le_of_ble_eq_true rfl) (lv := [(0, .ref (a 0)), (1, .int x1), (2, .int x2)]) rfl ?_
  intro p e s m below meth c A F hE hA
  unfold f_X11_readsNumber at hf
  refine sm_aload_n F dX11_readsNumber_0 rfl 0 rfl ?_
  refine sm_get (v := .ref (a 8)) F inX11 0 rfl rfl 11 (by decide) qw5_26 rfl rfl dX11_readsNumber_1 ?_
  refine sm_iload_n F dX11_readsNumber_4 rfl 1 rfl ?_
  refine sm_iconst F dX11_readsNumber_5 kc_i_0 ?_
  obtain ⟨h6, hf⟩ := ck_some hf
  refine sm_iast F 8 0 rfl rfl h6 (wD cI cZ cO a (sD_num u (upd (gD_num u) (Int32.toNatClampNeg x1) (0 : Int32)))) rfl dX11_readsNumber_6 ?_
  refine sm_iconst F dX11_readsNumber_7 kc_i_0 ?_
  refine sm_istore_n F [(0, .ref (a 0)), (1, .int x1), (2, .int x2), (3, .int (0 : Int32))] [1, 2, 3, 0] dX11_readsNumber_8 rfl (by decide) rfl ?_
  exact s_X11_readsNumber_9 F x1 x2 smN (sD_num u (upd (gD_num u) (Int32.toNatClampNeg x1) (0 : Int32))) (0 : Int32) hf
/-! SoManyForgottenModel.kindBy(I)I -/
abbrev rmX11_kindBy : Room := { frames := 0, cells := 0, slots := 0, locals := 0 }
set_option maxRecDepth 100000 in
theorem hsX11_kindBy : yX11_kindBy.cls ≠ "java/lang/invoke/MethodHandle" ∧ yX11_kindBy.cls ≠ "java/lang/invoke/VarHandle" ∧ (parseMethodDescriptor yX11_kindBy.desc).map (fun d => d.parameters.length) = some 1 := by decide +kernel
set_option maxRecDepth 100000 in
set_option maxHeartbeats 4000000 in
theorem ct_X11_kindBy (l : Launch) (D : va_G) (tys : List (ClassId × FieldType)) {x0 : Int32} {r : Int32} (hf : f_X11_kindBy x0 = some r) : Ct l yX11_kindBy (uw (Cond.code yX11_kindBy cX11_kindBy 1 (some .int))) rmX11_kindBy D tys E0 [.int x0] [] (some (.int r)) [] := by
  refine sm_start (cc := cX11_kindBy) (maxL := 1) (ret := (some .int)) (own := RX11) (by decide) rfl rfl (Nat.le_of_ble_eq_true rfl) (lv := [(0, .int x0)]) rfl ?_
  intro p e s m below meth c A F hE hA
  unfold f_X11_kindBy at hf
  refine sm_iload_n F dX11_kindBy_0 rfl 0 rfl ?_
  by_cases w1_100 : x0 = 100
  · replace hf := if_t w1_100 hf
    refine sm_lookup (off := 61) (tgt := 62) F dX11_kindBy_1 (by decide) (by rw [w1_100]; rfl) (by decide) ?_
    refine sm_iconst F dX11_kindBy_62 kc_i_1 ?_
    exact sm_iret F dX11_kindBy_63 (Option.some.inj hf) rfl
  replace hf := if_f w1_100 hf
  by_cases w1_107 : x0 = 107
  · replace hf := if_t w1_107 hf
    refine sm_lookup (off := 63) (tgt := 64) F dX11_kindBy_1 (by decide) (by rw [w1_107]; rfl) (by decide) ?_
    refine sm_iconst F dX11_kindBy_64 kc_i_2 ?_
    exact sm_iret F dX11_kindBy_65 (Option.some.inj hf) rfl
  replace hf := if_f w1_107 hf
  by_cases w1_112 : x0 = 112
  · replace hf := if_t w1_112 hf
    refine sm_lookup (off := 59) (tgt := 60) F dX11_kindBy_1 (by decide) (by rw [w1_112]; rfl) (by decide) ?_
    refine sm_iconst F dX11_kindBy_60 kc_i_0 ?_
    exact sm_iret F dX11_kindBy_61 (Option.some.inj hf) rfl
  replace hf := if_f w1_112 hf
  by_cases w1_113 : x0 = 113
  · replace hf := if_t w1_113 hf
    refine sm_lookup (off := 65) (tgt := 66) F dX11_kindBy_1 (by decide) (by rw [w1_113]; rfl) (by decide) ?_
    refine sm_iconst F dX11_kindBy_66 kc_i_3 ?_
    exact sm_iret F dX11_kindBy_67 (Option.some.inj hf) rfl
  replace hf := if_f w1_113 hf
  by_cases w1_119 : x0 = 119
  · replace hf := if_t w1_119 hf
    refine sm_lookup (off := 69) (tgt := 70) F dX11_kindBy_1 (by decide) (by rw [w1_119]; rfl) (by decide) ?_
    refine sm_iconst F dX11_kindBy_70 kc_i_5 ?_
    exact sm_iret F dX11_kindBy_71 (Option.some.inj hf) rfl
  replace hf := if_f w1_119 hf
  by_cases w1_120 : x0 = 120
  · replace hf := if_t w1_120 hf
    refine sm_lookup (off := 67) (tgt := 68) F dX11_kindBy_1 (by decide) (by rw [w1_120]; rfl) (by decide) ?_
    refine sm_iconst F dX11_kindBy_68 kc_i_4 ?_
    exact sm_iret F dX11_kindBy_69 (Option.some.inj hf) rfl
  replace hf := if_f w1_120 hf
  refine sm_lookup (off := 71) (tgt := 72) F dX11_kindBy_1 (by decide) ((lv_osw w1_100 (by decide)).trans ((lv_osw w1_107 (by decide)).trans ((lv_osw w1_112 (by decide)).trans ((lv_osw w1_113 (by decide)).trans ((lv_osw w1_119 (by decide)).trans ((lv_osw w1_120 (by decide)).trans (rfl))))))) (by decide) ?_
  refine sm_bipush F dX11_kindBy_72 kc_b_m9 ?_
  exact sm_iret F dX11_kindBy_74 (Option.some.inj hf) rfl
/-! SoManyForgottenModel.readsKind()Z -/
abbrev rmX11_readsKind : Room := { frames := 1, cells := 0, slots := 0, locals := 20 }
set_option maxRecDepth 100000 in
theorem hvX11_readsKind : yX11_readsKind.cls = RX11 ∧ yX11_readsKind.cls ≠ "java/lang/invoke/MethodHandle" ∧ yX11_readsKind.cls ≠ "java/lang/invoke/VarHandle" ∧ (parseMethodDescriptor yX11_readsKind.desc).map (fun d => d.parameters.length) = some 0 := by decide +kernel
set_option maxRecDepth 100000 in
set_option maxHeartbeats 4000000 in
theorem s_X11_readsKind_32 {p : Program} {l : Launch} {e : Env} {s : State} {m : MethodId} {args : Array Value} {below : List Frame} {meth : Method} {c : Code} {A : Nat → Prop} {D : va_G} {cI cZ cO : ClassId} {a : Nat → Nat} {r : Int32} {o : DS} (F : smF p s m args meth c cX11_readsKind 1 (some .boolean) RX11 D (tyL cI cZ cO) A)   (u : DS) (y0 : Int32) (y1 : Int32) (hf : f_X11_readsKind_32    u y0 y1 = some (r, o)) : Sm p l e rmX11_readsKind s m args below meth c D A 1 0 0 (smQ below args s D A (some (.int r)) (wD cI cZ cO a o)) 32 [(0, .ref (a 0))] [.int y0, .int y1, .ref (a 0)] (wD cI cZ cO a u) := by
  unfold f_X11_readsKind_32 at hf
  refine sm_iadd F dX11_readsKind_32 ?_
  refine sm_put F inX11 tyX11 tyX11_ok nmX11 0 rfl rfl 10 (by decide) qw5_25 rfl rfl rfl rfl (Nat.le_of_ble_eq_true rfl) (wD cI cZ cO a (sD_place u (y1 + y0))) rfl dX11_readsKind_33 ?_
  refine sm_aload_n F dX11_readsKind_36 rfl 0 rfl ?_
  refine sm_get (v := .ref (a 8)) F inX11 0 rfl rfl 11 (by decide) qw5_26 rfl rfl dX11_readsKind_37 ?_
  refine sm_iconst F dX11_readsKind_40 kc_i_0 ?_
  obtain ⟨h41, hf⟩ := ck_some hf
  refine sm_iald F 8 0 rfl rfl h41 dX11_readsKind_41 ?_
  refine sm_if_lt (tgt := 49) F dX11_readsKind_42 (by decide) (fun c42 => ?_) (fun c42 => ?_)
  · replace hf := if_t c42 hf
    refine sm_iconst F dX11_readsKind_49 kc_i_0 ?_
    exact sm_zret F dX11_readsKind_50 rfl (Prod.mk.inj (Option.some.inj hf)).1 (congrArg (fun z => (wD cI cZ cO a z)) (Prod.mk.inj (Option.some.inj hf)).2)
  · replace hf := if_f c42 hf
    refine sm_iconst F dX11_readsKind_45 kc_i_1 ?_
    refine sm_goto (tgt := 50) F dX11_readsKind_46 (by decide) ?_
    exact sm_zret F dX11_readsKind_50 rfl (Prod.mk.inj (Option.some.inj hf)).1 (congrArg (fun z => (wD cI cZ cO a z)) (Prod.mk.inj (Option.some.inj hf)).2)
set_option maxRecDepth 100000 in
set_option maxHeartbeats 4000000 in
theorem ct_X11_readsKind (l : Launch) (D : va_G) (cI cZ cO : ClassId) (a : Nat → Nat) {u : DS} {r : Int32} {o : DS} (hf : f_X11_readsKind u = some (r, o)) : Ct l yX11_readsKind (uw (Cond.code yX11_readsKind cX11_readsKind 1 (some .boolean))) rmX11_readsKind D (tyL cI cZ cO) E0 [.ref (a 0)] (wD cI cZ cO a u) (some (.int r)) (wD cI cZ cO a o) := by
  refine sm_start (cc := cX11_readsKind) (maxL := 1) (ret := (some .boolean)) (own := RX11) (by decide) rfl rfl (Nat.le_of_ble_eq_true rfl) (lv := [(0, .ref (a 0))]) rfl ?_
  intro p e s m below meth c A F hE hA
  unfold f_X11_readsKind at hf
  refine sm_aload_n F dX11_readsKind_0 rfl 0 rfl ?_
  refine sm_get (v := .ref (a 8)) F inX11 0 rfl rfl 11 (by decide) qw5_26 rfl rfl dX11_readsKind_1 ?_
  refine sm_iconst F dX11_readsKind_4 kc_i_0 ?_
  refine sm_aload_n F dX11_readsKind_5 rfl 0 rfl ?_
  obtain ⟨z6, hz6, hf⟩ := bd_some hf
  refine sm_callV (rest := [.int (0 : Int32), .ref (a 8)]) F (ct_X11_here l D cI cZ cO a hz6) (cut_D_id cI cZ cO a u u) rfl rfl rfl qw5_71 qw5_73 qw0_31 qw1_12 qw5_74 hvX11_here ⟨Nat.le_of_ble_eq_true rfl, Nat.le_of_ble_eq_true rfl⟩ ⟨Nat.zero_le _, Nat.zero_le _⟩ 0 11 rfl rfl rfl rfl (Nat.le_of_ble_eq_true rfl) E0_b (fun _ _ _ _ _ _ => trivial) rfl dX11_readsKind_6 [.int z6, .int (0 : Int32), .ref (a 8)] rfl ?_
  obtain ⟨z9, hz9, hf⟩ := bd_some hf
  refine sm_callS (rest := [.int (0 : Int32), .ref (a 8)]) F (ct_X11_kindBy l D (tyL cI cZ cO) hz9) (cut_D_none cI cZ cO a u) rfl rfl rfl qw5_79 qw5_80 qw1_12 qw5_81 hsX11_kindBy ⟨Nat.le_of_ble_eq_true rfl, Nat.le_of_ble_eq_true rfl⟩ ⟨Nat.zero_le _, Nat.zero_le _⟩ rfl (Nat.le_of_ble_eq_true rfl) E0_b (fun _ _ _ _ _ _ => trivial) rfl dX11_readsKind_9 [.int z9, .int (0 : Int32), .ref (a 8)] rfl ?_
  obtain ⟨h12, hf⟩ := ck_some hf
  refine sm_iast F 8 0 rfl rfl h12 (wD cI cZ cO a (sD_num u (upd (gD_num u) (Int32.toNatClampNeg (0 : Int32)) z9))) rfl dX11_readsKind_12 ?_
  refine sm_aload_n F dX11_readsKind_13 rfl 0 rfl ?_
  refine sm_dup F dX11_readsKind_14 rfl ?_
  refine sm_get (v := .int (gD_place (sD_num u (upd (gD_num u) (Int32.toNatClampNeg (0 : Int32)) z9)))) F inX11 0 rfl rfl 10 (by decide) qw5_25 rfl rfl dX11_readsKind_15 ?_
  refine sm_aload_n F dX11_readsKind_18 rfl 0 rfl ?_
  refine sm_get (v := .ref (a 8)) F inX11 0 rfl rfl 11 (by decide) qw5_26 rfl rfl dX11_readsKind_19 ?_
  refine sm_iconst F dX11_readsKind_22 kc_i_0 ?_
  obtain ⟨h23, hf⟩ := ck_some hf
  refine sm_iald F 8 0 rfl rfl h23 dX11_readsKind_23 ?_
  refine sm_if_ge (tgt := 31) F dX11_readsKind_24 (by decide) (fun c24 => ?_) (fun c24 => ?_)
  · replace hf := if_t c24 hf
    refine sm_iconst F dX11_readsKind_31 kc_i_1 ?_
    exact s_X11_readsKind_32 F  (sD_num u (upd (gD_num u) (Int32.toNatClampNeg (0 : Int32)) z9)) (1 : Int32) (gD_place (sD_num u (upd (gD_num u) (Int32.toNatClampNeg (0 : Int32)) z9))) hf
  · replace hf := if_f c24 hf
    refine sm_iconst F dX11_readsKind_27 kc_i_0 ?_
    refine sm_goto (tgt := 32) F dX11_readsKind_28 (by decide) ?_
    exact s_X11_readsKind_32 F  (sD_num u (upd (gD_num u) (Int32.toNatClampNeg (0 : Int32)) z9)) (0 : Int32) (gD_place (sD_num u (upd (gD_num u) (Int32.toNatClampNeg (0 : Int32)) z9))) hf
/-! SoManyForgottenModel.readsStatement()Z -/
abbrev rmX11_readsStatement : Room := { frames := 2, cells := 0, slots := 0, locals := 45 }
set_option maxRecDepth 100000 in
theorem hvX11_readsStatement : yX11_readsStatement.cls = RX11 ∧ yX11_readsStatement.cls ≠ "java/lang/invoke/MethodHandle" ∧ yX11_readsStatement.cls ≠ "java/lang/invoke/VarHandle" ∧ (parseMethodDescriptor yX11_readsStatement.desc).map (fun d => d.parameters.length) = some 0 := by decide +kernel
set_option maxRecDepth 100000 in
set_option maxHeartbeats 4000000 in
theorem s_X11_readsStatement_267 {p : Program} {l : Launch} {e : Env} {s : State} {m : MethodId} {args : Array Value} {below : List Frame} {meth : Method} {c : Code} {A : Nat → Prop} {D : va_G} {cI cZ cO : ClassId} {a : Nat → Nat} {r : Int32} {o : DS} (F : smF p s m args meth c cX11_readsStatement 3 (some .boolean) RX11 D (tyL cI cZ cO) A)   (u : DS) (x2 : Int32) (hf : f_X11_readsStatement_267    u x2 = some (r, o)) : Sm p l e rmX11_readsStatement s m args below meth c D A 3 0 0 (smQ below args s D A (some (.int r)) (wD cI cZ cO a o)) 267 [(0, .ref (a 0)), (2, .int x2)] [] (wD cI cZ cO a u) := by
  unfold f_X11_readsStatement_267 at hf
  refine sm_iload_n F dX11_readsStatement_267 rfl 1 rfl ?_
  refine sm_if_eq (tgt := 280) F dX11_readsStatement_268 (by decide) (fun c268 => ?_) (fun c268 => ?_)
  · replace hf := if_t c268 hf
    refine sm_iconst F dX11_readsStatement_280 kc_i_0 ?_
    exact sm_zret F dX11_readsStatement_281 rfl (Prod.mk.inj (Option.some.inj hf)).1 (congrArg (fun z => (wD cI cZ cO a z)) (Prod.mk.inj (Option.some.inj hf)).2)
  · replace hf := if_f c268 hf
    refine sm_aload_n F dX11_readsStatement_271 rfl 0 rfl ?_
    obtain ⟨z272, hz272, hf⟩ := bd_some hf
    refine sm_callV (rest := []) F (ct_X11_here l D cI cZ cO a hz272) (cut_D_id cI cZ cO a u u) rfl rfl rfl qw5_71 qw5_73 qw0_31 qw1_12 qw5_74 hvX11_here ⟨Nat.le_of_ble_eq_true rfl, Nat.le_of_ble_eq_true rfl⟩ ⟨Nat.zero_le _, Nat.zero_le _⟩ 0 11 rfl rfl rfl rfl (Nat.le_of_ble_eq_true rfl) E0_b (fun _ _ _ _ _ _ => trivial) rfl dX11_readsStatement_272 [.int z272] rfl ?_
    refine sm_bipush F dX11_readsStatement_275 kc_b_59 ?_
    refine sm_icmp_eq (tgt := 282) F dX11_readsStatement_277 (by decide) (fun c277 => ?_) (fun c277 => ?_)
    · replace hf := if_t c277 hf
      refine sm_aload_n F dX11_readsStatement_282 rfl 0 rfl ?_
      refine sm_dup F dX11_readsStatement_283 rfl ?_
      refine sm_get (v := .int (gD_place u)) F inX11 0 rfl rfl 10 (by decide) qw5_25 rfl rfl dX11_readsStatement_284 ?_
      refine sm_iconst F dX11_readsStatement_287 kc_i_1 ?_
      refine sm_iadd F dX11_readsStatement_288 ?_
      refine sm_put F inX11 tyX11 tyX11_ok nmX11 0 rfl rfl 10 (by decide) qw5_25 rfl rfl rfl rfl (Nat.le_of_ble_eq_true rfl) (wD cI cZ cO a (sD_place u ((gD_place u) + (1 : Int32)))) rfl dX11_readsStatement_289 ?_
      refine sm_iconst F dX11_readsStatement_292 kc_i_1 ?_
      exact sm_zret F dX11_readsStatement_293 rfl (Prod.mk.inj (Option.some.inj hf)).1 (congrArg (fun z => (wD cI cZ cO a z)) (Prod.mk.inj (Option.some.inj hf)).2)
    · replace hf := if_f c277 hf
      refine sm_iconst F dX11_readsStatement_280 kc_i_0 ?_
      exact sm_zret F dX11_readsStatement_281 rfl (Prod.mk.inj (Option.some.inj hf)).1 (congrArg (fun z => (wD cI cZ cO a z)) (Prod.mk.inj (Option.some.inj hf)).2)
set_option maxRecDepth 100000 in
set_option maxHeartbeats 4000000 in
theorem ct_X11_readsStatement (l : Launch) (D : va_G) (cI cZ cO : ClassId) (a : Nat → Nat) {u : DS} {r : Int32} {o : DS} (hf : f_X11_readsStatement u = some (r, o)) : Ct l yX11_readsStatement (uw (Cond.code yX11_readsStatement cX11_readsStatement 3 (some .boolean))) rmX11_readsStatement D (tyL cI cZ cO) E0 [.ref (a 0)] (wD cI cZ cO a u) (some (.int r)) (wD cI cZ cO a o) := by
  refine sm_start (cc := cX11_readsStatement) (maxL := 3) (ret := (some .boolean)) (own := RX11) (by decide) rfl rfl (Nat.le_of_ble_eq_true rfl) (lv := [(0, .ref (a 0))]) rfl ?_
  intro p e s m below meth c A F hE hA
  unfold f_X11_readsStatement at hf
  refine sm_aload_n F dX11_readsStatement_0 rfl 0 rfl ?_
  obtain ⟨z1, hz1, hf⟩ := bd_some hf
  refine sm_callV (rest := []) F (ct_X11_here l D cI cZ cO a hz1) (cut_D_id cI cZ cO a u u) rfl rfl rfl qw5_71 qw5_73 qw0_31 qw1_12 qw5_74 hvX11_here ⟨Nat.le_of_ble_eq_true rfl, Nat.le_of_ble_eq_true rfl⟩ ⟨Nat.zero_le _, Nat.zero_le _⟩ 0 11 rfl rfl rfl rfl (Nat.le_of_ble_eq_true rfl) E0_b (fun _ _ _ _ _ _ => trivial) rfl dX11_readsStatement_1 [.int z1] rfl ?_
  refine sm_istore_n F [(0, .ref (a 0)), (1, .int z1)] [1, 0] dX11_readsStatement_4 rfl (by decide) rfl ?_
  refine sm_aload_n F dX11_readsStatement_5 rfl 0 rfl ?_
  refine sm_dup F dX11_readsStatement_6 rfl ?_
  refine sm_get (v := .int (gD_place u)) F inX11 0 rfl rfl 10 (by decide) qw5_25 rfl rfl dX11_readsStatement_7 ?_
  refine sm_iconst F dX11_readsStatement_10 kc_i_1 ?_
  refine sm_iadd F dX11_readsStatement_11 ?_
  refine sm_put F inX11 tyX11 tyX11_ok nmX11 0 rfl rfl 10 (by decide) qw5_25 rfl rfl rfl rfl (Nat.le_of_ble_eq_true rfl) (wD cI cZ cO a (sD_place u ((gD_place u) + (1 : Int32)))) rfl dX11_readsStatement_12 ?_
  refine sm_iload_n F dX11_readsStatement_15 rfl 1 rfl ?_
  by_cases w16_98 : z1 = 98
  · replace hf := if_t w16_98 hf
    refine sm_tableIn (off := 219) (tgt := 235) F dX11_readsStatement_16 (by rw [w16_98]; decide) (by rw [w16_98]; decide) (by rw [w16_98]; rfl) (by decide) ?_
    refine sm_aload_n F dX11_readsStatement_235 rfl 0 rfl ?_
    refine sm_iconst F dX11_readsStatement_236 kc_i_0 ?_
    refine sm_iconst F dX11_readsStatement_237 kc_i_1 ?_
    obtain ⟨z238, hz238, hf⟩ := bd_some hf
    refine sm_callV (rest := []) F (ct_X11_readsNumber l D cI cZ cO a hz238) (cut_D_id cI cZ cO a (sD_place u ((gD_place u) + (1 : Int32))) z238.2) rfl rfl rfl qw5_82 qw5_84 qw0_33 qw1_12 qw5_85 hvX11_readsNumber ⟨Nat.le_of_ble_eq_true rfl, Nat.le_of_ble_eq_true rfl⟩ ⟨Nat.zero_le _, Nat.zero_le _⟩ 0 11 rfl rfl rfl rfl (Nat.le_of_ble_eq_true rfl) E0_b (fun _ _ _ _ _ _ => trivial) rfl dX11_readsStatement_238 [.int z238.1] rfl ?_
    refine sm_istore_n F [(0, .ref (a 0)), (2, .int z238.1)] [1, 0] dX11_readsStatement_241 rfl (by decide) rfl ?_
    refine sm_goto (tgt := 267) F dX11_readsStatement_242 (by decide) ?_
    exact s_X11_readsStatement_267 F  z238.2 z238.1 hf
  replace hf := if_f w16_98 hf
  by_cases w16_110 : z1 = 110
  · replace hf := if_t w16_110 hf
    refine sm_tableIn (off := 219) (tgt := 235) F dX11_readsStatement_16 (by rw [w16_110]; decide) (by rw [w16_110]; decide) (by rw [w16_110]; rfl) (by decide) ?_
    refine sm_aload_n F dX11_readsStatement_235 rfl 0 rfl ?_
    refine sm_iconst F dX11_readsStatement_236 kc_i_0 ?_
    refine sm_iconst F dX11_readsStatement_237 kc_i_1 ?_
    obtain ⟨z238, hz238, hf⟩ := bd_some hf
    refine sm_callV (rest := []) F (ct_X11_readsNumber l D cI cZ cO a hz238) (cut_D_id cI cZ cO a (sD_place u ((gD_place u) + (1 : Int32))) z238.2) rfl rfl rfl qw5_82 qw5_84 qw0_33 qw1_12 qw5_85 hvX11_readsNumber ⟨Nat.le_of_ble_eq_true rfl, Nat.le_of_ble_eq_true rfl⟩ ⟨Nat.zero_le _, Nat.zero_le _⟩ 0 11 rfl rfl rfl rfl (Nat.le_of_ble_eq_true rfl) E0_b (fun _ _ _ _ _ _ => trivial) rfl dX11_readsStatement_238 [.int z238.1] rfl ?_
    refine sm_istore_n F [(0, .ref (a 0)), (2, .int z238.1)] [1, 0] dX11_readsStatement_241 rfl (by decide) rfl ?_
    refine sm_goto (tgt := 267) F dX11_readsStatement_242 (by decide) ?_
    exact s_X11_readsStatement_267 F  z238.2 z238.1 hf
  replace hf := if_f w16_110 hf
  by_cases w16_111 : z1 = 111
  · replace hf := if_t w16_111 hf
    refine sm_tableIn (off := 165) (tgt := 181) F dX11_readsStatement_16 (by rw [w16_111]; decide) (by rw [w16_111]; decide) (by rw [w16_111]; rfl) (by decide) ?_
    refine sm_aload_n F dX11_readsStatement_181 rfl 0 rfl ?_
    refine sm_iconst F dX11_readsStatement_182 kc_i_0 ?_
    refine sm_iconst F dX11_readsStatement_183 kc_i_1 ?_
    obtain ⟨z184, hz184, hf⟩ := bd_some hf
    refine sm_callV (rest := []) F (ct_X11_readsNumber l D cI cZ cO a hz184) (cut_D_id cI cZ cO a (sD_place u ((gD_place u) + (1 : Int32))) z184.2) rfl rfl rfl qw5_82 qw5_84 qw0_33 qw1_12 qw5_85 hvX11_readsNumber ⟨Nat.le_of_ble_eq_true rfl, Nat.le_of_ble_eq_true rfl⟩ ⟨Nat.zero_le _, Nat.zero_le _⟩ 0 11 rfl rfl rfl rfl (Nat.le_of_ble_eq_true rfl) E0_b (fun _ _ _ _ _ _ => trivial) rfl dX11_readsStatement_184 [.int z184.1] rfl ?_
    refine sm_if_eq (tgt := 203) F dX11_readsStatement_187 (by decide) (fun c187 => ?_) (fun c187 => ?_)
    · replace hf := if_t c187 hf
      refine sm_iconst F dX11_readsStatement_203 kc_i_0 ?_
      refine sm_istore_n F [(0, .ref (a 0)), (2, .int (0 : Int32))] [1, 0] dX11_readsStatement_204 rfl (by decide) rfl ?_
      refine sm_goto (tgt := 267) F dX11_readsStatement_205 (by decide) ?_
      exact s_X11_readsStatement_267 F  z184.2 (0 : Int32) hf
    · replace hf := if_f c187 hf
      refine sm_aload_n F dX11_readsStatement_190 rfl 0 rfl ?_
      refine sm_iconst F dX11_readsStatement_191 kc_i_1 ?_
      refine sm_iconst F dX11_readsStatement_192 kc_i_2 ?_
      obtain ⟨z193, hz193, hf⟩ := bd_some hf
      refine sm_callV (rest := []) F (ct_X11_readsNumber l D cI cZ cO a hz193) (cut_D_id cI cZ cO a z184.2 z193.2) rfl rfl rfl qw5_82 qw5_84 qw0_33 qw1_12 qw5_85 hvX11_readsNumber ⟨Nat.le_of_ble_eq_true rfl, Nat.le_of_ble_eq_true rfl⟩ ⟨Nat.zero_le _, Nat.zero_le _⟩ 0 11 rfl rfl rfl rfl (Nat.le_of_ble_eq_true rfl) E0_b (fun _ _ _ _ _ _ => trivial) rfl dX11_readsStatement_193 [.int z193.1] rfl ?_
      refine sm_if_eq (tgt := 203) F dX11_readsStatement_196 (by decide) (fun c196 => ?_) (fun c196 => ?_)
      · replace hf := if_t c196 hf
        refine sm_iconst F dX11_readsStatement_203 kc_i_0 ?_
        refine sm_istore_n F [(0, .ref (a 0)), (2, .int (0 : Int32))] [1, 0] dX11_readsStatement_204 rfl (by decide) rfl ?_
        refine sm_goto (tgt := 267) F dX11_readsStatement_205 (by decide) ?_
        exact s_X11_readsStatement_267 F  z193.2 (0 : Int32) hf
      · replace hf := if_f c196 hf
        refine sm_iconst F dX11_readsStatement_199 kc_i_1 ?_
        refine sm_goto (tgt := 204) F dX11_readsStatement_200 (by decide) ?_
        refine sm_istore_n F [(0, .ref (a 0)), (2, .int (1 : Int32))] [1, 0] dX11_readsStatement_204 rfl (by decide) rfl ?_
        refine sm_goto (tgt := 267) F dX11_readsStatement_205 (by decide) ?_
        exact s_X11_readsStatement_267 F  z193.2 (1 : Int32) hf
  replace hf := if_f w16_111 hf
  by_cases w16_112 : z1 = 112
  · replace hf := if_t w16_112 hf
    refine sm_tableIn (off := 104) (tgt := 120) F dX11_readsStatement_16 (by rw [w16_112]; decide) (by rw [w16_112]; decide) (by rw [w16_112]; rfl) (by decide) ?_
    refine sm_aload_n F dX11_readsStatement_120 rfl 0 rfl ?_
    obtain ⟨z121, hz121, hf⟩ := bd_some hf
    refine sm_callV (rest := []) F (ct_X11_readsKind l D cI cZ cO a hz121) (cut_D_id cI cZ cO a (sD_place u ((gD_place u) + (1 : Int32))) z121.2) rfl rfl rfl qw5_75 qw5_77 qw0_32 qw1_12 qw5_78 hvX11_readsKind ⟨Nat.le_of_ble_eq_true rfl, Nat.le_of_ble_eq_true rfl⟩ ⟨Nat.zero_le _, Nat.zero_le _⟩ 0 11 rfl rfl rfl rfl (Nat.le_of_ble_eq_true rfl) E0_b (fun _ _ _ _ _ _ => trivial) rfl dX11_readsStatement_121 [.int z121.1] rfl ?_
    refine sm_if_eq (tgt := 140) F dX11_readsStatement_124 (by decide) (fun c124 => ?_) (fun c124 => ?_)
    · replace hf := if_t c124 hf
      refine sm_iconst F dX11_readsStatement_140 kc_i_0 ?_
      refine sm_istore_n F [(0, .ref (a 0)), (2, .int (0 : Int32))] [1, 0] dX11_readsStatement_141 rfl (by decide) rfl ?_
      refine sm_goto (tgt := 267) F dX11_readsStatement_142 (by decide) ?_
      exact s_X11_readsStatement_267 F  z121.2 (0 : Int32) hf
    · replace hf := if_f c124 hf
      refine sm_aload_n F dX11_readsStatement_127 rfl 0 rfl ?_
      refine sm_iconst F dX11_readsStatement_128 kc_i_1 ?_
      refine sm_iconst F dX11_readsStatement_129 kc_i_1 ?_
      obtain ⟨z130, hz130, hf⟩ := bd_some hf
      refine sm_callV (rest := []) F (ct_X11_readsNumber l D cI cZ cO a hz130) (cut_D_id cI cZ cO a z121.2 z130.2) rfl rfl rfl qw5_82 qw5_84 qw0_33 qw1_12 qw5_85 hvX11_readsNumber ⟨Nat.le_of_ble_eq_true rfl, Nat.le_of_ble_eq_true rfl⟩ ⟨Nat.zero_le _, Nat.zero_le _⟩ 0 11 rfl rfl rfl rfl (Nat.le_of_ble_eq_true rfl) E0_b (fun _ _ _ _ _ _ => trivial) rfl dX11_readsStatement_130 [.int z130.1] rfl ?_
      refine sm_if_eq (tgt := 140) F dX11_readsStatement_133 (by decide) (fun c133 => ?_) (fun c133 => ?_)
      · replace hf := if_t c133 hf
        refine sm_iconst F dX11_readsStatement_140 kc_i_0 ?_
        refine sm_istore_n F [(0, .ref (a 0)), (2, .int (0 : Int32))] [1, 0] dX11_readsStatement_141 rfl (by decide) rfl ?_
        refine sm_goto (tgt := 267) F dX11_readsStatement_142 (by decide) ?_
        exact s_X11_readsStatement_267 F  z130.2 (0 : Int32) hf
      · replace hf := if_f c133 hf
        refine sm_iconst F dX11_readsStatement_136 kc_i_1 ?_
        refine sm_goto (tgt := 141) F dX11_readsStatement_137 (by decide) ?_
        refine sm_istore_n F [(0, .ref (a 0)), (2, .int (1 : Int32))] [1, 0] dX11_readsStatement_141 rfl (by decide) rfl ?_
        refine sm_goto (tgt := 267) F dX11_readsStatement_142 (by decide) ?_
        exact s_X11_readsStatement_267 F  z130.2 (1 : Int32) hf
  replace hf := if_f w16_112 hf
  by_cases w16_114 : z1 = 114
  · replace hf := if_t w16_114 hf
    refine sm_tableIn (off := 129) (tgt := 145) F dX11_readsStatement_16 (by rw [w16_114]; decide) (by rw [w16_114]; decide) (by rw [w16_114]; rfl) (by decide) ?_
    refine sm_aload_n F dX11_readsStatement_145 rfl 0 rfl ?_
    refine sm_iconst F dX11_readsStatement_146 kc_i_0 ?_
    refine sm_iconst F dX11_readsStatement_147 kc_i_1 ?_
    obtain ⟨z148, hz148, hf⟩ := bd_some hf
    refine sm_callV (rest := []) F (ct_X11_readsNumber l D cI cZ cO a hz148) (cut_D_id cI cZ cO a (sD_place u ((gD_place u) + (1 : Int32))) z148.2) rfl rfl rfl qw5_82 qw5_84 qw0_33 qw1_12 qw5_85 hvX11_readsNumber ⟨Nat.le_of_ble_eq_true rfl, Nat.le_of_ble_eq_true rfl⟩ ⟨Nat.zero_le _, Nat.zero_le _⟩ 0 11 rfl rfl rfl rfl (Nat.le_of_ble_eq_true rfl) E0_b (fun _ _ _ _ _ _ => trivial) rfl dX11_readsStatement_148 [.int z148.1] rfl ?_
    refine sm_if_eq (tgt := 176) F dX11_readsStatement_151 (by decide) (fun c151 => ?_) (fun c151 => ?_)
    · replace hf := if_t c151 hf
      refine sm_iconst F dX11_readsStatement_176 kc_i_0 ?_
      refine sm_istore_n F [(0, .ref (a 0)), (2, .int (0 : Int32))] [1, 0] dX11_readsStatement_177 rfl (by decide) rfl ?_
      refine sm_goto (tgt := 267) F dX11_readsStatement_178 (by decide) ?_
      exact s_X11_readsStatement_267 F  z148.2 (0 : Int32) hf
    · replace hf := if_f c151 hf
      refine sm_aload_n F dX11_readsStatement_154 rfl 0 rfl ?_
      refine sm_iconst F dX11_readsStatement_155 kc_i_1 ?_
      refine sm_iconst F dX11_readsStatement_156 kc_i_1 ?_
      obtain ⟨z157, hz157, hf⟩ := bd_some hf
      refine sm_callV (rest := []) F (ct_X11_readsNumber l D cI cZ cO a hz157) (cut_D_id cI cZ cO a z148.2 z157.2) rfl rfl rfl qw5_82 qw5_84 qw0_33 qw1_12 qw5_85 hvX11_readsNumber ⟨Nat.le_of_ble_eq_true rfl, Nat.le_of_ble_eq_true rfl⟩ ⟨Nat.zero_le _, Nat.zero_le _⟩ 0 11 rfl rfl rfl rfl (Nat.le_of_ble_eq_true rfl) E0_b (fun _ _ _ _ _ _ => trivial) rfl dX11_readsStatement_157 [.int z157.1] rfl ?_
      refine sm_if_eq (tgt := 176) F dX11_readsStatement_160 (by decide) (fun c160 => ?_) (fun c160 => ?_)
      · replace hf := if_t c160 hf
        refine sm_iconst F dX11_readsStatement_176 kc_i_0 ?_
        refine sm_istore_n F [(0, .ref (a 0)), (2, .int (0 : Int32))] [1, 0] dX11_readsStatement_177 rfl (by decide) rfl ?_
        refine sm_goto (tgt := 267) F dX11_readsStatement_178 (by decide) ?_
        exact s_X11_readsStatement_267 F  z157.2 (0 : Int32) hf
      · replace hf := if_f c160 hf
        refine sm_aload_n F dX11_readsStatement_163 rfl 0 rfl ?_
        refine sm_iconst F dX11_readsStatement_164 kc_i_2 ?_
        refine sm_iconst F dX11_readsStatement_165 kc_i_2 ?_
        obtain ⟨z166, hz166, hf⟩ := bd_some hf
        refine sm_callV (rest := []) F (ct_X11_readsNumber l D cI cZ cO a hz166) (cut_D_id cI cZ cO a z157.2 z166.2) rfl rfl rfl qw5_82 qw5_84 qw0_33 qw1_12 qw5_85 hvX11_readsNumber ⟨Nat.le_of_ble_eq_true rfl, Nat.le_of_ble_eq_true rfl⟩ ⟨Nat.zero_le _, Nat.zero_le _⟩ 0 11 rfl rfl rfl rfl (Nat.le_of_ble_eq_true rfl) E0_b (fun _ _ _ _ _ _ => trivial) rfl dX11_readsStatement_166 [.int z166.1] rfl ?_
        refine sm_if_eq (tgt := 176) F dX11_readsStatement_169 (by decide) (fun c169 => ?_) (fun c169 => ?_)
        · replace hf := if_t c169 hf
          refine sm_iconst F dX11_readsStatement_176 kc_i_0 ?_
          refine sm_istore_n F [(0, .ref (a 0)), (2, .int (0 : Int32))] [1, 0] dX11_readsStatement_177 rfl (by decide) rfl ?_
          refine sm_goto (tgt := 267) F dX11_readsStatement_178 (by decide) ?_
          exact s_X11_readsStatement_267 F  z166.2 (0 : Int32) hf
        · replace hf := if_f c169 hf
          refine sm_iconst F dX11_readsStatement_172 kc_i_1 ?_
          refine sm_goto (tgt := 177) F dX11_readsStatement_173 (by decide) ?_
          refine sm_istore_n F [(0, .ref (a 0)), (2, .int (1 : Int32))] [1, 0] dX11_readsStatement_177 rfl (by decide) rfl ?_
          refine sm_goto (tgt := 267) F dX11_readsStatement_178 (by decide) ?_
          exact s_X11_readsStatement_267 F  z166.2 (1 : Int32) hf
  replace hf := if_f w16_114 hf
  by_cases w16_115 : z1 = 115
  · replace hf := if_t w16_115 hf
    refine sm_tableIn (off := 192) (tgt := 208) F dX11_readsStatement_16 (by rw [w16_115]; decide) (by rw [w16_115]; decide) (by rw [w16_115]; rfl) (by decide) ?_
    refine sm_aload_n F dX11_readsStatement_208 rfl 0 rfl ?_
    refine sm_iconst F dX11_readsStatement_209 kc_i_0 ?_
    refine sm_iconst F dX11_readsStatement_210 kc_i_1 ?_
    obtain ⟨z211, hz211, hf⟩ := bd_some hf
    refine sm_callV (rest := []) F (ct_X11_readsNumber l D cI cZ cO a hz211) (cut_D_id cI cZ cO a (sD_place u ((gD_place u) + (1 : Int32))) z211.2) rfl rfl rfl qw5_82 qw5_84 qw0_33 qw1_12 qw5_85 hvX11_readsNumber ⟨Nat.le_of_ble_eq_true rfl, Nat.le_of_ble_eq_true rfl⟩ ⟨Nat.zero_le _, Nat.zero_le _⟩ 0 11 rfl rfl rfl rfl (Nat.le_of_ble_eq_true rfl) E0_b (fun _ _ _ _ _ _ => trivial) rfl dX11_readsStatement_211 [.int z211.1] rfl ?_
    refine sm_if_eq (tgt := 230) F dX11_readsStatement_214 (by decide) (fun c214 => ?_) (fun c214 => ?_)
    · replace hf := if_t c214 hf
      refine sm_iconst F dX11_readsStatement_230 kc_i_0 ?_
      refine sm_istore_n F [(0, .ref (a 0)), (2, .int (0 : Int32))] [1, 0] dX11_readsStatement_231 rfl (by decide) rfl ?_
      refine sm_goto (tgt := 267) F dX11_readsStatement_232 (by decide) ?_
      exact s_X11_readsStatement_267 F  z211.2 (0 : Int32) hf
    · replace hf := if_f c214 hf
      refine sm_aload_n F dX11_readsStatement_217 rfl 0 rfl ?_
      refine sm_iconst F dX11_readsStatement_218 kc_i_1 ?_
      refine sm_iconst F dX11_readsStatement_219 kc_i_1 ?_
      obtain ⟨z220, hz220, hf⟩ := bd_some hf
      refine sm_callV (rest := []) F (ct_X11_readsNumber l D cI cZ cO a hz220) (cut_D_id cI cZ cO a z211.2 z220.2) rfl rfl rfl qw5_82 qw5_84 qw0_33 qw1_12 qw5_85 hvX11_readsNumber ⟨Nat.le_of_ble_eq_true rfl, Nat.le_of_ble_eq_true rfl⟩ ⟨Nat.zero_le _, Nat.zero_le _⟩ 0 11 rfl rfl rfl rfl (Nat.le_of_ble_eq_true rfl) E0_b (fun _ _ _ _ _ _ => trivial) rfl dX11_readsStatement_220 [.int z220.1] rfl ?_
      refine sm_if_eq (tgt := 230) F dX11_readsStatement_223 (by decide) (fun c223 => ?_) (fun c223 => ?_)
      · replace hf := if_t c223 hf
        refine sm_iconst F dX11_readsStatement_230 kc_i_0 ?_
        refine sm_istore_n F [(0, .ref (a 0)), (2, .int (0 : Int32))] [1, 0] dX11_readsStatement_231 rfl (by decide) rfl ?_
        refine sm_goto (tgt := 267) F dX11_readsStatement_232 (by decide) ?_
        exact s_X11_readsStatement_267 F  z220.2 (0 : Int32) hf
      · replace hf := if_f c223 hf
        refine sm_iconst F dX11_readsStatement_226 kc_i_1 ?_
        refine sm_goto (tgt := 231) F dX11_readsStatement_227 (by decide) ?_
        refine sm_istore_n F [(0, .ref (a 0)), (2, .int (1 : Int32))] [1, 0] dX11_readsStatement_231 rfl (by decide) rfl ?_
        refine sm_goto (tgt := 267) F dX11_readsStatement_232 (by decide) ?_
        exact s_X11_readsStatement_267 F  z220.2 (1 : Int32) hf
  replace hf := if_f w16_115 hf
  by_cases w16_119 : z1 = 119
  · replace hf := if_t w16_119 hf
    refine sm_tableIn (off := 229) (tgt := 245) F dX11_readsStatement_16 (by rw [w16_119]; decide) (by rw [w16_119]; decide) (by rw [w16_119]; rfl) (by decide) ?_
    refine sm_aload_n F dX11_readsStatement_245 rfl 0 rfl ?_
    refine sm_iconst F dX11_readsStatement_246 kc_i_0 ?_
    refine sm_iconst F dX11_readsStatement_247 kc_i_2 ?_
    obtain ⟨z248, hz248, hf⟩ := bd_some hf
    refine sm_callV (rest := []) F (ct_X11_readsNumber l D cI cZ cO a hz248) (cut_D_id cI cZ cO a (sD_place u ((gD_place u) + (1 : Int32))) z248.2) rfl rfl rfl qw5_82 qw5_84 qw0_33 qw1_12 qw5_85 hvX11_readsNumber ⟨Nat.le_of_ble_eq_true rfl, Nat.le_of_ble_eq_true rfl⟩ ⟨Nat.zero_le _, Nat.zero_le _⟩ 0 11 rfl rfl rfl rfl (Nat.le_of_ble_eq_true rfl) E0_b (fun _ _ _ _ _ _ => trivial) rfl dX11_readsStatement_248 [.int z248.1] rfl ?_
    refine sm_istore_n F [(0, .ref (a 0)), (2, .int z248.1)] [1, 0] dX11_readsStatement_251 rfl (by decide) rfl ?_
    refine sm_goto (tgt := 267) F dX11_readsStatement_252 (by decide) ?_
    exact s_X11_readsStatement_267 F  z248.2 z248.1 hf
  replace hf := if_f w16_119 hf
  have e16_98 := lv_neT w16_98 (a := 98) rfl
  have e16_110 := lv_neT w16_110 (a := 110) rfl
  have e16_111 := lv_neT w16_111 (a := 111) rfl
  have e16_112 := lv_neT w16_112 (a := 112) rfl
  have e16_114 := lv_neT w16_114 (a := 114) rfl
  have e16_115 := lv_neT w16_115 (a := 115) rfl
  have e16_119 := lv_neT w16_119 (a := 119) rfl
  have T16 : ∀ i : Nat, i < 22 → (#[219, 239, 239, 239, 239, 239, 239, 239, 239, 239, 239, 239, 219, 165, 104, 239, 129, 192, 239, 239, 239, 229] : Array Int)[i]? = some 239 ∨ i ∈ ([0, 12, 13, 14, 16, 17, 21] : List Nat) := by decide
  refine sm_tableX (tgt := 255) F dX11_readsStatement_16 (by decide) (fun i hi hx => (T16 i hi).elim id (fun q => by simp only [List.mem_cons, List.not_mem_nil, or_false] at q; exfalso; omega)) (by decide) ?_
  refine sm_aload_n F dX11_readsStatement_255 rfl 0 rfl ?_
  refine sm_dup F dX11_readsStatement_256 rfl ?_
  refine sm_get (v := .int (gD_place (sD_place u ((gD_place u) + (1 : Int32))))) F inX11 0 rfl rfl 10 (by decide) qw5_25 rfl rfl dX11_readsStatement_257 ?_
  refine sm_iconst F dX11_readsStatement_260 kc_i_1 ?_
  refine sm_isub F dX11_readsStatement_261 ?_
  obtain ⟨v262, hv262, hf⟩ := bd_some hf
  refine sm_topi (Option.some.inj hv262) ?_
  refine sm_put F inX11 tyX11 tyX11_ok nmX11 0 rfl rfl 10 (by decide) qw5_25 rfl rfl rfl rfl (Nat.le_of_ble_eq_true rfl) (wD cI cZ cO a (sD_place (sD_place u ((gD_place u) + (1 : Int32))) v262)) rfl dX11_readsStatement_262 ?_
  refine sm_iconst F dX11_readsStatement_265 kc_i_0 ?_
  exact sm_zret F dX11_readsStatement_266 rfl (Prod.mk.inj (Option.some.inj hf)).1 (congrArg (fun z => (wD cI cZ cO a z)) (Prod.mk.inj (Option.some.inj hf)).2)
/-! SoManyForgottenModel.adds(II)Z -/
abbrev rmX11_adds : Room := { frames := 1, cells := 0, slots := 0, locals := 21 }
set_option maxRecDepth 100000 in
theorem hvX11_adds : yX11_adds.cls = RX11 ∧ yX11_adds.cls ≠ "java/lang/invoke/MethodHandle" ∧ yX11_adds.cls ≠ "java/lang/invoke/VarHandle" ∧ (parseMethodDescriptor yX11_adds.desc).map (fun d => d.parameters.length) = some 2 := by decide +kernel
set_option maxRecDepth 100000 in
set_option maxHeartbeats 4000000 in
theorem s_X11_adds_67_b {p : Program} {l : Launch} {e : Env} {s : State} {m : MethodId} {args : Array Value} {below : List Frame} {meth : Method} {c : Code} {A : Nat → Prop} {D : va_G} {cI cZ cO : ClassId} {a : Nat → Nat} {r : Int32} {o : DS} (F : smF p s m args meth c cX11_adds 5 (some .boolean) RX11 D (tyL cI cZ cO) A)  (k67 : DS → Int32 → Int32 → Option (Int32 × (DS))) (hk67 : ∀ (u' : DS) (x3' : Int32) (x4' : Int32), k67 u' x3' x4' = some (r, o) → Sm p l e rmX11_adds s m args below meth c D A 5 0 0 (smQ below args s D A (some (.int r)) (wD cI cZ cO a o)) 67 [(0, .ref (a 0)), (3, .int x3'), (4, .int x4')] [] (wD cI cZ cO a u')) (u : DS) (x3 : Int32) (x4 : Int32) (hf : b_X11_adds_67   k67 u x3 x4 = some (r, o)) : Sm p l e rmX11_adds s m args below meth c D A 5 0 0 (smQ below args s D A (some (.int r)) (wD cI cZ cO a o)) 67 [(0, .ref (a 0)), (3, .int x3), (4, .int x4)] [] (wD cI cZ cO a u) := by
  unfold b_X11_adds_67 at hf
  refine sm_iload F dX11_adds_67 2 rfl ?_
  refine sm_iload_n F dX11_adds_69 rfl 1 rfl ?_
  refine sm_icmp_ge (tgt := 105) F dX11_adds_70 (by decide) (fun c70 => ?_) (fun c70 => ?_)
  · replace hf := if_t c70 hf
    refine sm_aload_n F dX11_adds_105 rfl 0 rfl ?_
    refine sm_get (v := .ref (a 1)) F inX11 0 rfl rfl 0 (by decide) qw5_15 rfl rfl dX11_adds_106 ?_
    refine sm_iconst F dX11_adds_109 kc_i_0 ?_
    refine sm_dup2 F dX11_adds_110 rfl rfl ?_
    obtain ⟨h111, hf⟩ := ck_some hf
    refine sm_iald F 1 0 rfl rfl h111 dX11_adds_111 ?_
    refine sm_iconst F dX11_adds_112 kc_i_1 ?_
    refine sm_iadd F dX11_adds_113 ?_
    obtain ⟨h114, hf⟩ := ck_some hf
    refine sm_iast F 1 0 rfl rfl h114 (wD cI cZ cO a (sD_s u (upd (gD_s u) (Int32.toNatClampNeg (0 : Int32)) (((gD_s u) (Int32.toNatClampNeg (0 : Int32))) + (1 : Int32))))) rfl dX11_adds_114 ?_
    obtain ⟨u114, hu114, hf⟩ := bd_some hf
    refine sm_ws (ws' := (wD cI cZ cO a u114)) (congrArg (fun z => (wD cI cZ cO a z)) (Option.some.inj hu114)) ?_
    refine sm_iconst F dX11_adds_115 kc_i_1 ?_
    exact sm_zret F dX11_adds_116 rfl (Prod.mk.inj (Option.some.inj hf)).1 (congrArg (fun z => (wD cI cZ cO a z)) (Prod.mk.inj (Option.some.inj hf)).2)
  · replace hf := if_f c70 hf
    refine sm_aload_n F dX11_adds_73 rfl 0 rfl ?_
    refine sm_get (v := .ref (a 1)) F inX11 0 rfl rfl 0 (by decide) qw5_15 rfl rfl dX11_adds_74 ?_
    refine sm_iload F dX11_adds_77 2 rfl ?_
    refine sm_iload_n F dX11_adds_79 rfl 1 rfl ?_
    obtain ⟨z80, hz80, hf⟩ := bd_some hf
    refine sm_callS (rest := [.ref (a 1)]) F (ct_X11_by l D (tyL cI cZ cO) hz80) (cut_D_none cI cZ cO a u) rfl rfl rfl qw5_103 qw5_104 qw1_12 qw5_105 hsX11_by ⟨Nat.le_of_ble_eq_true rfl, Nat.le_of_ble_eq_true rfl⟩ ⟨Nat.zero_le _, Nat.zero_le _⟩ rfl (Nat.le_of_ble_eq_true rfl) E0_b (fun _ _ _ _ _ _ => trivial) rfl dX11_adds_80 [.int z80, .ref (a 1)] rfl ?_
    refine sm_bipush F dX11_adds_83 kc_b_50 ?_
    obtain ⟨h85, hf⟩ := ck_some hf
    refine sm_iast F 1 0 rfl rfl h85 (wD cI cZ cO a (sD_s u (upd (gD_s u) (Int32.toNatClampNeg z80) (50 : Int32)))) rfl dX11_adds_85 ?_
    refine sm_aload_n F dX11_adds_86 rfl 0 rfl ?_
    refine sm_get (v := .ref (a 1)) F inX11 0 rfl rfl 0 (by decide) qw5_15 rfl rfl dX11_adds_87 ?_
    refine sm_iload_n F dX11_adds_90 rfl 1 rfl ?_
    refine sm_iload F dX11_adds_91 2 rfl ?_
    obtain ⟨z93, hz93, hf⟩ := bd_some hf
    refine sm_callS (rest := [.ref (a 1)]) F (ct_X11_by l D (tyL cI cZ cO) hz93) (cut_D_none cI cZ cO a (sD_s u (upd (gD_s u) (Int32.toNatClampNeg z80) (50 : Int32)))) rfl rfl rfl qw5_103 qw5_104 qw1_12 qw5_105 hsX11_by ⟨Nat.le_of_ble_eq_true rfl, Nat.le_of_ble_eq_true rfl⟩ ⟨Nat.zero_le _, Nat.zero_le _⟩ rfl (Nat.le_of_ble_eq_true rfl) E0_b (fun _ _ _ _ _ _ => trivial) rfl dX11_adds_93 [.int z93, .ref (a 1)] rfl ?_
    refine sm_bipush F dX11_adds_96 kc_b_50 ?_
    obtain ⟨h98, hf⟩ := ck_some hf
    refine sm_iast F 1 0 rfl rfl h98 (wD cI cZ cO a (sD_s (sD_s u (upd (gD_s u) (Int32.toNatClampNeg z80) (50 : Int32))) (upd (gD_s (sD_s u (upd (gD_s u) (Int32.toNatClampNeg z80) (50 : Int32)))) (Int32.toNatClampNeg z93) (50 : Int32)))) rfl dX11_adds_98 ?_
    obtain ⟨u98, hu98, hf⟩ := bd_some hf
    refine sm_ws (ws' := (wD cI cZ cO a u98)) (congrArg (fun z => (wD cI cZ cO a z)) (Option.some.inj hu98)) ?_
    refine sm_iinc F [(0, .ref (a 0)), (3, .int x3), (4, .int (x4 + 1))] 2 [1, 2, 0] dX11_adds_99 rfl kc_i_1 (by decide) rfl ?_
    refine sm_goto (tgt := 67) F dX11_adds_102 (by decide) ?_
    exact hk67 u98 x3 (x4 + 1) hf
set_option maxRecDepth 100000 in
set_option maxHeartbeats 4000000 in
theorem s_X11_adds_67 {p : Program} {l : Launch} {e : Env} {s : State} {m : MethodId} {args : Array Value} {below : List Frame} {meth : Method} {c : Code} {A : Nat → Prop} {D : va_G} {cI cZ cO : ClassId} {a : Nat → Nat} {r : Int32} {o : DS} (F : smF p s m args meth c cX11_adds 5 (some .boolean) RX11 D (tyL cI cZ cO) A)   (n : Nat) (u : DS) (x3 : Int32) (x4 : Int32) (hf : f_X11_adds_67   n u x3 x4 = some (r, o)) : Sm p l e rmX11_adds s m args below meth c D A 5 0 0 (smQ below args s D A (some (.int r)) (wD cI cZ cO a o)) 67 [(0, .ref (a 0)), (3, .int x3), (4, .int x4)] [] (wD cI cZ cO a u) :=
  lq3_ind (P := fun (u : DS) (x3 : Int32) (x4 : Int32) => Sm p l e rmX11_adds s m args below meth c D A 5 0 0 (smQ below args s D A (some (.int r)) (wD cI cZ cO a o)) 67 [(0, .ref (a 0)), (3, .int x3), (4, .int x4)] [] (wD cI cZ cO a u)) (fun k67 hk67 u x3 x4 h9 => s_X11_adds_67_b F   k67 hk67 u x3 x4 h9) n u x3 x4 hf
set_option maxRecDepth 100000 in
set_option maxHeartbeats 4000000 in
theorem ct_X11_adds (l : Launch) (D : va_G) (cI cZ cO : ClassId) (a : Nat → Nat) {u : DS} {x1 : Int32} {x2 : Int32} {r : Int32} {o : DS} (hf : f_X11_adds u x1 x2 = some (r, o)) : Ct l yX11_adds (uw (Cond.code yX11_adds cX11_adds 5 (some .boolean))) rmX11_adds D (tyL cI cZ cO) E0 [.ref (a 0), .int x1, .int x2] (wD cI cZ cO a u) (some (.int r)) (wD cI cZ cO a o) := by
  refine sm_start (cc := cX11_adds) (maxL := 5) (ret := (some .boolean)) (own := RX11) (by decide) rfl rfl (Nat.le_of_ble_eq_true rfl) (lv := [(0, .ref (a 0)), (1, .int x1), (2, .int x2)]) rfl ?_
  intro p e s m below meth c A F hE hA
  unfold f_X11_adds at hf
  refine sm_aload_n F dX11_adds_0 rfl 0 rfl ?_
  refine sm_get (v := .ref (a 1)) F inX11 0 rfl rfl 0 (by decide) qw5_15 rfl rfl dX11_adds_1 ?_
  refine sm_iconst F dX11_adds_4 kc_i_0 ?_
  obtain ⟨h5, hf⟩ := ck_some hf
  refine sm_iald F 1 0 rfl rfl h5 dX11_adds_5 ?_
  refine sm_bipush F dX11_adds_6 kc_b_8 ?_
  refine sm_icmp_ne (tgt := 13) F dX11_adds_8 (by decide) (fun c8 => ?_) (fun c8 => ?_)
  · replace hf := if_f c8 hf
    refine sm_aload_n F dX11_adds_13 rfl 0 rfl ?_
    refine sm_get (v := .ref (a 1)) F inX11 0 rfl rfl 0 (by decide) qw5_15 rfl rfl dX11_adds_14 ?_
    refine sm_iconst F dX11_adds_17 kc_i_0 ?_
    obtain ⟨h18, hf⟩ := ck_some hf
    refine sm_iald F 1 0 rfl rfl h18 dX11_adds_18 ?_
    refine sm_istore_n F [(0, .ref (a 0)), (1, .int x1), (2, .int x2), (3, .int ((gD_s u) (Int32.toNatClampNeg (0 : Int32))))] [1, 2, 3, 0] dX11_adds_19 rfl (by decide) rfl ?_
    refine sm_aload_n F dX11_adds_20 rfl 0 rfl ?_
    refine sm_get (v := .ref (a 1)) F inX11 0 rfl rfl 0 (by decide) qw5_15 rfl rfl dX11_adds_21 ?_
    refine sm_iload_n F dX11_adds_24 rfl 3 rfl ?_
    refine sm_iconst F dX11_adds_25 kc_i_0 ?_
    obtain ⟨z26, hz26, hf⟩ := bd_some hf
    refine sm_callS (rest := [.ref (a 1)]) F (ct_X11_of l D (tyL cI cZ cO) hz26) (cut_D_none cI cZ cO a u) rfl rfl rfl qw5_100 qw5_101 qw1_12 qw5_102 hsX11_of ⟨Nat.le_of_ble_eq_true rfl, Nat.le_of_ble_eq_true rfl⟩ ⟨Nat.zero_le _, Nat.zero_le _⟩ rfl (Nat.le_of_ble_eq_true rfl) E0_b (fun _ _ _ _ _ _ => trivial) rfl dX11_adds_26 [.int z26, .ref (a 1)] rfl ?_
    refine sm_iload_n F dX11_adds_29 rfl 1 rfl ?_
    obtain ⟨h30, hf⟩ := ck_some hf
    refine sm_iast F 1 0 rfl rfl h30 (wD cI cZ cO a (sD_s u (upd (gD_s u) (Int32.toNatClampNeg z26) x1))) rfl dX11_adds_30 ?_
    refine sm_aload_n F dX11_adds_31 rfl 0 rfl ?_
    refine sm_get (v := .ref (a 1)) F inX11 0 rfl rfl 0 (by decide) qw5_15 rfl rfl dX11_adds_32 ?_
    refine sm_iload_n F dX11_adds_35 rfl 3 rfl ?_
    refine sm_iconst F dX11_adds_36 kc_i_1 ?_
    obtain ⟨z37, hz37, hf⟩ := bd_some hf
    refine sm_callS (rest := [.ref (a 1)]) F (ct_X11_of l D (tyL cI cZ cO) hz37) (cut_D_none cI cZ cO a (sD_s u (upd (gD_s u) (Int32.toNatClampNeg z26) x1))) rfl rfl rfl qw5_100 qw5_101 qw1_12 qw5_102 hsX11_of ⟨Nat.le_of_ble_eq_true rfl, Nat.le_of_ble_eq_true rfl⟩ ⟨Nat.zero_le _, Nat.zero_le _⟩ rfl (Nat.le_of_ble_eq_true rfl) E0_b (fun _ _ _ _ _ _ => trivial) rfl dX11_adds_37 [.int z37, .ref (a 1)] rfl ?_
    refine sm_iload_n F dX11_adds_40 rfl 2 rfl ?_
    obtain ⟨h41, hf⟩ := ck_some hf
    refine sm_iast F 1 0 rfl rfl h41 (wD cI cZ cO a (sD_s (sD_s u (upd (gD_s u) (Int32.toNatClampNeg z26) x1)) (upd (gD_s (sD_s u (upd (gD_s u) (Int32.toNatClampNeg z26) x1))) (Int32.toNatClampNeg z37) x2))) rfl dX11_adds_41 ?_
    obtain ⟨u41, hu41, hf⟩ := bd_some hf
    refine sm_ws (ws' := (wD cI cZ cO a u41)) (congrArg (fun z => (wD cI cZ cO a z)) (Option.some.inj hu41)) ?_
    refine sm_aload_n F dX11_adds_42 rfl 0 rfl ?_
    refine sm_get (v := .ref (a 1)) F inX11 0 rfl rfl 0 (by decide) qw5_15 rfl rfl dX11_adds_43 ?_
    refine sm_iload_n F dX11_adds_46 rfl 3 rfl ?_
    refine sm_iconst F dX11_adds_47 kc_i_2 ?_
    obtain ⟨z48, hz48, hf⟩ := bd_some hf
    refine sm_callS (rest := [.ref (a 1)]) F (ct_X11_of l D (tyL cI cZ cO) hz48) (cut_D_none cI cZ cO a u41) rfl rfl rfl qw5_100 qw5_101 qw1_12 qw5_102 hsX11_of ⟨Nat.le_of_ble_eq_true rfl, Nat.le_of_ble_eq_true rfl⟩ ⟨Nat.zero_le _, Nat.zero_le _⟩ rfl (Nat.le_of_ble_eq_true rfl) E0_b (fun _ _ _ _ _ _ => trivial) rfl dX11_adds_48 [.int z48, .ref (a 1)] rfl ?_
    refine sm_iconst F dX11_adds_51 kc_i_1 ?_
    obtain ⟨h52, hf⟩ := ck_some hf
    refine sm_iast F 1 0 rfl rfl h52 (wD cI cZ cO a (sD_s u41 (upd (gD_s u41) (Int32.toNatClampNeg z48) (1 : Int32)))) rfl dX11_adds_52 ?_
    refine sm_aload_n F dX11_adds_53 rfl 0 rfl ?_
    refine sm_get (v := .ref (a 1)) F inX11 0 rfl rfl 0 (by decide) qw5_15 rfl rfl dX11_adds_54 ?_
    refine sm_iload_n F dX11_adds_57 rfl 3 rfl ?_
    refine sm_iconst F dX11_adds_58 kc_i_3 ?_
    obtain ⟨z59, hz59, hf⟩ := bd_some hf
    refine sm_callS (rest := [.ref (a 1)]) F (ct_X11_of l D (tyL cI cZ cO) hz59) (cut_D_none cI cZ cO a (sD_s u41 (upd (gD_s u41) (Int32.toNatClampNeg z48) (1 : Int32)))) rfl rfl rfl qw5_100 qw5_101 qw1_12 qw5_102 hsX11_of ⟨Nat.le_of_ble_eq_true rfl, Nat.le_of_ble_eq_true rfl⟩ ⟨Nat.zero_le _, Nat.zero_le _⟩ rfl (Nat.le_of_ble_eq_true rfl) E0_b (fun _ _ _ _ _ _ => trivial) rfl dX11_adds_59 [.int z59, .ref (a 1)] rfl ?_
    refine sm_iconst F dX11_adds_62 kc_i_0 ?_
    obtain ⟨h63, hf⟩ := ck_some hf
    refine sm_iast F 1 0 rfl rfl h63 (wD cI cZ cO a (sD_s (sD_s u41 (upd (gD_s u41) (Int32.toNatClampNeg z48) (1 : Int32))) (upd (gD_s (sD_s u41 (upd (gD_s u41) (Int32.toNatClampNeg z48) (1 : Int32)))) (Int32.toNatClampNeg z59) (0 : Int32)))) rfl dX11_adds_63 ?_
    obtain ⟨u63, hu63, hf⟩ := bd_some hf
    refine sm_ws (ws' := (wD cI cZ cO a u63)) (congrArg (fun z => (wD cI cZ cO a z)) (Option.some.inj hu63)) ?_
    refine sm_iconst F dX11_adds_64 kc_i_0 ?_
    refine sm_istore F [(0, .ref (a 0)), (3, .int ((gD_s u) (Int32.toNatClampNeg (0 : Int32)))), (4, .int (0 : Int32))] [1, 4, 0] dX11_adds_65 (by decide) rfl ?_
    exact s_X11_adds_67 F  smN u63 ((gD_s u) (Int32.toNatClampNeg (0 : Int32))) (0 : Int32) hf
  · replace hf := if_t c8 hf
    refine sm_iconst F dX11_adds_11 kc_i_0 ?_
    exact sm_zret F dX11_adds_12 rfl (Prod.mk.inj (Option.some.inj hf)).1 (congrArg (fun z => (wD cI cZ cO a z)) (Prod.mk.inj (Option.some.inj hf)).2)
/-! SoManyForgottenModel.isDone(I)Z -/
abbrev rmX11_isDone : Room := { frames := 6, cells := 0, slots := 0, locals := 132 }
set_option maxRecDepth 100000 in
theorem hvX11_isDone : yX11_isDone.cls = RX11 ∧ yX11_isDone.cls ≠ "java/lang/invoke/MethodHandle" ∧ yX11_isDone.cls ≠ "java/lang/invoke/VarHandle" ∧ (parseMethodDescriptor yX11_isDone.desc).map (fun d => d.parameters.length) = some 1 := by decide +kernel
set_option maxRecDepth 100000 in
set_option maxHeartbeats 4000000 in
theorem ct_X11_isDone (l : Launch) (D : va_G) (cI cZ cO : ClassId) (a : Nat → Nat) {u : DS} {x1 : Int32} {r : Int32} {o : DS} (hf : f_X11_isDone u x1 = some (r, o)) : Ct l yX11_isDone (uw (Cond.code yX11_isDone cX11_isDone 4 (some .boolean))) rmX11_isDone D (tyL cI cZ cO) E0 [.ref (a 0), .int x1] (wD cI cZ cO a u) (some (.int r)) (wD cI cZ cO a o) := by
  refine sm_start (cc := cX11_isDone) (maxL := 4) (ret := (some .boolean)) (own := RX11) (by decide) rfl rfl (Nat.le_of_ble_eq_true rfl) (lv := [(0, .ref (a 0)), (1, .int x1)]) rfl ?_
  intro p e s m below meth c A F hE hA
  unfold f_X11_isDone at hf
  refine sm_aload_n F dX11_isDone_0 rfl 0 rfl ?_
  refine sm_get (v := .ref (a 8)) F inX11 0 rfl rfl 11 (by decide) qw5_26 rfl rfl dX11_isDone_1 ?_
  refine sm_iconst F dX11_isDone_4 kc_i_0 ?_
  obtain ⟨h5, hf⟩ := ck_some hf
  refine sm_iald F 8 0 rfl rfl h5 dX11_isDone_5 ?_
  refine sm_istore_n F [(0, .ref (a 0)), (1, .int x1), (2, .int ((gD_num u) (Int32.toNatClampNeg (0 : Int32))))] [1, 2, 0] dX11_isDone_6 rfl (by decide) rfl ?_
  refine sm_aload_n F dX11_isDone_7 rfl 0 rfl ?_
  refine sm_get (v := .ref (a 8)) F inX11 0 rfl rfl 11 (by decide) qw5_26 rfl rfl dX11_isDone_8 ?_
  refine sm_iconst F dX11_isDone_11 kc_i_1 ?_
  obtain ⟨h12, hf⟩ := ck_some hf
  refine sm_iald F 8 0 rfl rfl h12 dX11_isDone_12 ?_
  refine sm_istore_n F [(0, .ref (a 0)), (1, .int x1), (2, .int ((gD_num u) (Int32.toNatClampNeg (0 : Int32)))), (3, .int ((gD_num u) (Int32.toNatClampNeg (1 : Int32))))] [1, 2, 3, 0] dX11_isDone_13 rfl (by decide) rfl ?_
  refine sm_iload_n F dX11_isDone_14 rfl 1 rfl ?_
  by_cases w15_98 : x1 = 98
  · replace hf := if_t w15_98 hf
    refine sm_tableIn (off := 188) (tgt := 203) F dX11_isDone_15 (by rw [w15_98]; decide) (by rw [w15_98]; decide) (by rw [w15_98]; rfl) (by decide) ?_
    refine sm_aload_n F dX11_isDone_203 rfl 0 rfl ?_
    refine sm_iload_n F dX11_isDone_204 rfl 2 rfl ?_
    obtain ⟨z205, hz205, hf⟩ := bd_some hf
    refine sm_callV (rest := []) F (ct_X11_isOne l D cI cZ cO a hz205) (cut_D_id cI cZ cO a u u) rfl rfl rfl qw5_110 qw5_112 qw0_37 qw1_12 qw5_113 hvX11_isOne ⟨Nat.le_of_ble_eq_true rfl, Nat.le_of_ble_eq_true rfl⟩ ⟨Nat.zero_le _, Nat.zero_le _⟩ 0 11 rfl rfl rfl rfl (Nat.le_of_ble_eq_true rfl) E0_b (fun _ _ _ _ _ _ => trivial) rfl dX11_isDone_205 [.int z205] rfl ?_
    refine sm_if_eq (tgt := 222) F dX11_isDone_208 (by decide) (fun c208 => ?_) (fun c208 => ?_)
    · replace hf := if_t c208 hf
      refine sm_iconst F dX11_isDone_222 kc_i_0 ?_
      exact sm_zret F dX11_isDone_223 rfl (Prod.mk.inj (Option.some.inj hf)).1 (congrArg (fun z => (wD cI cZ cO a z)) (Prod.mk.inj (Option.some.inj hf)).2)
    · replace hf := if_f c208 hf
      refine sm_aload_n F dX11_isDone_211 rfl 0 rfl ?_
      refine sm_get (v := .ref (a 1)) F inX11 0 rfl rfl 0 (by decide) qw5_15 rfl rfl dX11_isDone_212 ?_
      refine sm_iload_n F dX11_isDone_215 rfl 2 rfl ?_
      obtain ⟨z216, hz216, hf⟩ := bd_some hf
      refine sm_callS (rest := []) F (ct_X11_isHere l D cI cZ cO (fun i => a (pm_D_i1 i)) hz216) (cut_D_i1_ro cI cZ cO a u) rfl rfl rfl qw5_114 qw5_115 qw1_12 qw5_116 hsX11_isHere ⟨Nat.le_of_ble_eq_true rfl, Nat.le_of_ble_eq_true rfl⟩ ⟨Nat.zero_le _, Nat.zero_le _⟩ rfl (Nat.le_of_ble_eq_true rfl) E0_b (fun _ _ _ _ _ _ => trivial) rfl dX11_isDone_216 [.int z216] rfl ?_
      refine sm_if_eq (tgt := 224) F dX11_isDone_219 (by decide) (fun c219 => ?_) (fun c219 => ?_)
      · replace hf := if_t c219 hf
        refine sm_aload_n F dX11_isDone_224 rfl 0 rfl ?_
        refine sm_get (v := .ref (a 1)) F inX11 0 rfl rfl 0 (by decide) qw5_15 rfl rfl dX11_isDone_225 ?_
        refine sm_iload_n F dX11_isDone_228 rfl 2 rfl ?_
        obtain ⟨z229, hz229, hf⟩ := bd_some hf
        refine sm_callS (rest := []) F (ct_X11_comesBack l D cI cZ cO (fun i => a (pm_D_i1 i)) hz229) (cut_D_i1 cI cZ cO a u z229) rfl rfl rfl qw5_123 qw5_124 qw1_12 qw5_125 hsX11_comesBack ⟨Nat.le_of_ble_eq_true rfl, Nat.le_of_ble_eq_true rfl⟩ ⟨Nat.zero_le _, Nat.zero_le _⟩ rfl (Nat.le_of_ble_eq_true rfl) E0_b (fun _ _ _ _ _ _ => trivial) rfl dX11_isDone_229 [] rfl ?_
        refine sm_iconst F dX11_isDone_232 kc_i_1 ?_
        exact sm_zret F dX11_isDone_233 rfl (Prod.mk.inj (Option.some.inj hf)).1 (congrArg (fun z => (wD cI cZ cO a z)) (Prod.mk.inj (Option.some.inj hf)).2)
      · replace hf := if_f c219 hf
        refine sm_iconst F dX11_isDone_222 kc_i_0 ?_
        exact sm_zret F dX11_isDone_223 rfl (Prod.mk.inj (Option.some.inj hf)).1 (congrArg (fun z => (wD cI cZ cO a z)) (Prod.mk.inj (Option.some.inj hf)).2)
  replace hf := if_f w15_98 hf
  by_cases w15_110 : x1 = 110
  · replace hf := if_t w15_110 hf
    refine sm_tableIn (off := 219) (tgt := 234) F dX11_isDone_15 (by rw [w15_110]; decide) (by rw [w15_110]; decide) (by rw [w15_110]; rfl) (by decide) ?_
    refine sm_aload_n F dX11_isDone_234 rfl 0 rfl ?_
    refine sm_get (v := .ref (a 1)) F inX11 0 rfl rfl 0 (by decide) qw5_15 rfl rfl dX11_isDone_235 ?_
    refine sm_iconst F dX11_isDone_238 kc_i_2 ?_
    refine sm_iload_n F dX11_isDone_239 rfl 2 rfl ?_
    obtain ⟨h240, hf⟩ := ck_some hf
    refine sm_iast F 1 0 rfl rfl h240 (wD cI cZ cO a (sD_s u (upd (gD_s u) (Int32.toNatClampNeg (2 : Int32)) ((gD_num u) (Int32.toNatClampNeg (0 : Int32)))))) rfl dX11_isDone_240 ?_
    refine sm_iload_n F dX11_isDone_241 rfl 2 rfl ?_
    refine sm_iconst F dX11_isDone_242 kc_i_3 ?_
    refine sm_icmp_gt (tgt := 250) F dX11_isDone_243 (by decide) (fun c243 => ?_) (fun c243 => ?_)
    · replace hf := if_t c243 hf
      refine sm_iconst F dX11_isDone_250 kc_i_0 ?_
      exact sm_zret F dX11_isDone_251 rfl (Prod.mk.inj (Option.some.inj hf)).1 (congrArg (fun z => (wD cI cZ cO a z)) (Prod.mk.inj (Option.some.inj hf)).2)
    · replace hf := if_f c243 hf
      refine sm_iconst F dX11_isDone_246 kc_i_1 ?_
      refine sm_goto (tgt := 251) F dX11_isDone_247 (by decide) ?_
      exact sm_zret F dX11_isDone_251 rfl (Prod.mk.inj (Option.some.inj hf)).1 (congrArg (fun z => (wD cI cZ cO a z)) (Prod.mk.inj (Option.some.inj hf)).2)
  replace hf := if_f w15_110 hf
  by_cases w15_111 : x1 = 111
  · replace hf := if_t w15_111 hf
    refine sm_tableIn (off := 121) (tgt := 136) F dX11_isDone_15 (by rw [w15_111]; decide) (by rw [w15_111]; decide) (by rw [w15_111]; rfl) (by decide) ?_
    refine sm_aload_n F dX11_isDone_136 rfl 0 rfl ?_
    refine sm_iload_n F dX11_isDone_137 rfl 2 rfl ?_
    obtain ⟨z138, hz138, hf⟩ := bd_some hf
    refine sm_callV (rest := []) F (ct_X11_isOne l D cI cZ cO a hz138) (cut_D_id cI cZ cO a u u) rfl rfl rfl qw5_110 qw5_112 qw0_37 qw1_12 qw5_113 hvX11_isOne ⟨Nat.le_of_ble_eq_true rfl, Nat.le_of_ble_eq_true rfl⟩ ⟨Nat.zero_le _, Nat.zero_le _⟩ 0 11 rfl rfl rfl rfl (Nat.le_of_ble_eq_true rfl) E0_b (fun _ _ _ _ _ _ => trivial) rfl dX11_isDone_138 [.int z138] rfl ?_
    refine sm_if_ne (tgt := 146) F dX11_isDone_141 (by decide) (fun c141 => ?_) (fun c141 => ?_)
    · replace hf := if_f c141 hf
      refine sm_aload_n F dX11_isDone_146 rfl 0 rfl ?_
      refine sm_get (v := .ref (a 1)) F inX11 0 rfl rfl 0 (by decide) qw5_15 rfl rfl dX11_isDone_147 ?_
      refine sm_iload_n F dX11_isDone_150 rfl 2 rfl ?_
      refine sm_iconst F dX11_isDone_151 kc_i_3 ?_
      obtain ⟨z152, hz152, hf⟩ := bd_some hf
      refine sm_callS (rest := [.ref (a 1)]) F (ct_X11_of l D (tyL cI cZ cO) hz152) (cut_D_none cI cZ cO a u) rfl rfl rfl qw5_100 qw5_101 qw1_12 qw5_102 hsX11_of ⟨Nat.le_of_ble_eq_true rfl, Nat.le_of_ble_eq_true rfl⟩ ⟨Nat.zero_le _, Nat.zero_le _⟩ rfl (Nat.le_of_ble_eq_true rfl) E0_b (fun _ _ _ _ _ _ => trivial) rfl dX11_isDone_152 [.int z152, .ref (a 1)] rfl ?_
      refine sm_iload_n F dX11_isDone_155 rfl 3 rfl ?_
      obtain ⟨h156, hf⟩ := ck_some hf
      refine sm_iast F 1 0 rfl rfl h156 (wD cI cZ cO a (sD_s u (upd (gD_s u) (Int32.toNatClampNeg z152) ((gD_num u) (Int32.toNatClampNeg (1 : Int32)))))) rfl dX11_isDone_156 ?_
      refine sm_iconst F dX11_isDone_157 kc_i_1 ?_
      exact sm_zret F dX11_isDone_158 rfl (Prod.mk.inj (Option.some.inj hf)).1 (congrArg (fun z => (wD cI cZ cO a z)) (Prod.mk.inj (Option.some.inj hf)).2)
    · replace hf := if_t c141 hf
      refine sm_iconst F dX11_isDone_144 kc_i_0 ?_
      exact sm_zret F dX11_isDone_145 rfl (Prod.mk.inj (Option.some.inj hf)).1 (congrArg (fun z => (wD cI cZ cO a z)) (Prod.mk.inj (Option.some.inj hf)).2)
  replace hf := if_f w15_111 hf
  by_cases w15_112 : x1 = 112
  · replace hf := if_t w15_112 hf
    refine sm_tableIn (off := 85) (tgt := 100) F dX11_isDone_15 (by rw [w15_112]; decide) (by rw [w15_112]; decide) (by rw [w15_112]; rfl) (by decide) ?_
    refine sm_aload_n F dX11_isDone_100 rfl 0 rfl ?_
    refine sm_iload_n F dX11_isDone_101 rfl 2 rfl ?_
    refine sm_iload_n F dX11_isDone_102 rfl 3 rfl ?_
    obtain ⟨z103, hz103, hf⟩ := bd_some hf
    refine sm_callV (rest := []) F (ct_X11_adds l D cI cZ cO a hz103) (cut_D_id cI cZ cO a u z103.2) rfl rfl rfl qw5_96 qw5_98 qw0_35 qw1_12 qw5_99 hvX11_adds ⟨Nat.le_of_ble_eq_true rfl, Nat.le_of_ble_eq_true rfl⟩ ⟨Nat.zero_le _, Nat.zero_le _⟩ 0 11 rfl rfl rfl rfl (Nat.le_of_ble_eq_true rfl) E0_b (fun _ _ _ _ _ _ => trivial) rfl dX11_isDone_103 [.int z103.1] rfl ?_
    obtain ⟨h106, hf⟩ := zr_some hf
    exact sm_zret F dX11_isDone_106 h106 (Prod.mk.inj (Option.some.inj hf)).1 (congrArg (fun z => (wD cI cZ cO a z)) (Prod.mk.inj (Option.some.inj hf)).2)
  replace hf := if_f w15_112 hf
  by_cases w15_114 : x1 = 114
  · replace hf := if_t w15_114 hf
    refine sm_tableIn (off := 92) (tgt := 107) F dX11_isDone_15 (by rw [w15_114]; decide) (by rw [w15_114]; decide) (by rw [w15_114]; rfl) (by decide) ?_
    refine sm_aload_n F dX11_isDone_107 rfl 0 rfl ?_
    refine sm_iload_n F dX11_isDone_108 rfl 2 rfl ?_
    refine sm_iload_n F dX11_isDone_109 rfl 3 rfl ?_
    obtain ⟨z110, hz110, hf⟩ := bd_some hf
    refine sm_callV (rest := []) F (ct_X11_areTwo l D cI cZ cO a hz110) (cut_D_id cI cZ cO a u u) rfl rfl rfl qw5_106 qw5_108 qw0_36 qw1_12 qw5_109 hvX11_areTwo ⟨Nat.le_of_ble_eq_true rfl, Nat.le_of_ble_eq_true rfl⟩ ⟨Nat.zero_le _, Nat.zero_le _⟩ 0 11 rfl rfl rfl rfl (Nat.le_of_ble_eq_true rfl) E0_b (fun _ _ _ _ _ _ => trivial) rfl dX11_isDone_110 [.int z110] rfl ?_
    refine sm_if_ne (tgt := 118) F dX11_isDone_113 (by decide) (fun c113 => ?_) (fun c113 => ?_)
    · replace hf := if_f c113 hf
      refine sm_aload_n F dX11_isDone_118 rfl 0 rfl ?_
      refine sm_get (v := .ref (a 1)) F inX11 0 rfl rfl 0 (by decide) qw5_15 rfl rfl dX11_isDone_119 ?_
      refine sm_iload_n F dX11_isDone_122 rfl 2 rfl ?_
      refine sm_iload_n F dX11_isDone_123 rfl 3 rfl ?_
      obtain ⟨z124, hz124, hf⟩ := bd_some hf
      refine sm_callS (rest := [.ref (a 1)]) F (ct_X11_by l D (tyL cI cZ cO) hz124) (cut_D_none cI cZ cO a u) rfl rfl rfl qw5_103 qw5_104 qw1_12 qw5_105 hsX11_by ⟨Nat.le_of_ble_eq_true rfl, Nat.le_of_ble_eq_true rfl⟩ ⟨Nat.zero_le _, Nat.zero_le _⟩ rfl (Nat.le_of_ble_eq_true rfl) E0_b (fun _ _ _ _ _ _ => trivial) rfl dX11_isDone_124 [.int z124, .ref (a 1)] rfl ?_
      refine sm_aload_n F dX11_isDone_127 rfl 0 rfl ?_
      refine sm_get (v := .ref (a 8)) F inX11 0 rfl rfl 11 (by decide) qw5_26 rfl rfl dX11_isDone_128 ?_
      refine sm_iconst F dX11_isDone_131 kc_i_2 ?_
      obtain ⟨h132, hf⟩ := ck_some hf
      refine sm_iald F 8 0 rfl rfl h132 dX11_isDone_132 ?_
      obtain ⟨h133, hf⟩ := ck_some hf
      refine sm_iast F 1 0 rfl rfl h133 (wD cI cZ cO a (sD_s u (upd (gD_s u) (Int32.toNatClampNeg z124) ((gD_num u) (Int32.toNatClampNeg (2 : Int32)))))) rfl dX11_isDone_133 ?_
      refine sm_iconst F dX11_isDone_134 kc_i_1 ?_
      exact sm_zret F dX11_isDone_135 rfl (Prod.mk.inj (Option.some.inj hf)).1 (congrArg (fun z => (wD cI cZ cO a z)) (Prod.mk.inj (Option.some.inj hf)).2)
    · replace hf := if_t c113 hf
      refine sm_iconst F dX11_isDone_116 kc_i_0 ?_
      exact sm_zret F dX11_isDone_117 rfl (Prod.mk.inj (Option.some.inj hf)).1 (congrArg (fun z => (wD cI cZ cO a z)) (Prod.mk.inj (Option.some.inj hf)).2)
  replace hf := if_f w15_114 hf
  by_cases w15_115 : x1 = 115
  · replace hf := if_t w15_115 hf
    refine sm_tableIn (off := 144) (tgt := 159) F dX11_isDone_15 (by rw [w15_115]; decide) (by rw [w15_115]; decide) (by rw [w15_115]; rfl) (by decide) ?_
    refine sm_aload_n F dX11_isDone_159 rfl 0 rfl ?_
    refine sm_iload_n F dX11_isDone_160 rfl 2 rfl ?_
    refine sm_iload_n F dX11_isDone_161 rfl 3 rfl ?_
    obtain ⟨z162, hz162, hf⟩ := bd_some hf
    refine sm_callV (rest := []) F (ct_X11_areTwo l D cI cZ cO a hz162) (cut_D_id cI cZ cO a u u) rfl rfl rfl qw5_106 qw5_108 qw0_36 qw1_12 qw5_109 hvX11_areTwo ⟨Nat.le_of_ble_eq_true rfl, Nat.le_of_ble_eq_true rfl⟩ ⟨Nat.zero_le _, Nat.zero_le _⟩ 0 11 rfl rfl rfl rfl (Nat.le_of_ble_eq_true rfl) E0_b (fun _ _ _ _ _ _ => trivial) rfl dX11_isDone_162 [.int z162] rfl ?_
    refine sm_if_eq (tgt := 190) F dX11_isDone_165 (by decide) (fun c165 => ?_) (fun c165 => ?_)
    · replace hf := if_t c165 hf
      refine sm_iconst F dX11_isDone_190 kc_i_0 ?_
      exact sm_zret F dX11_isDone_191 rfl (Prod.mk.inj (Option.some.inj hf)).1 (congrArg (fun z => (wD cI cZ cO a z)) (Prod.mk.inj (Option.some.inj hf)).2)
    · replace hf := if_f c165 hf
      refine sm_aload_n F dX11_isDone_168 rfl 0 rfl ?_
      refine sm_get (v := .ref (a 1)) F inX11 0 rfl rfl 0 (by decide) qw5_15 rfl rfl dX11_isDone_169 ?_
      refine sm_iload_n F dX11_isDone_172 rfl 2 rfl ?_
      obtain ⟨z173, hz173, hf⟩ := bd_some hf
      refine sm_callS (rest := []) F (ct_X11_isHere l D cI cZ cO (fun i => a (pm_D_i1 i)) hz173) (cut_D_i1_ro cI cZ cO a u) rfl rfl rfl qw5_114 qw5_115 qw1_12 qw5_116 hsX11_isHere ⟨Nat.le_of_ble_eq_true rfl, Nat.le_of_ble_eq_true rfl⟩ ⟨Nat.zero_le _, Nat.zero_le _⟩ rfl (Nat.le_of_ble_eq_true rfl) E0_b (fun _ _ _ _ _ _ => trivial) rfl dX11_isDone_173 [.int z173] rfl ?_
      refine sm_if_eq (tgt := 190) F dX11_isDone_176 (by decide) (fun c176 => ?_) (fun c176 => ?_)
      · replace hf := if_t c176 hf
        refine sm_iconst F dX11_isDone_190 kc_i_0 ?_
        exact sm_zret F dX11_isDone_191 rfl (Prod.mk.inj (Option.some.inj hf)).1 (congrArg (fun z => (wD cI cZ cO a z)) (Prod.mk.inj (Option.some.inj hf)).2)
      · replace hf := if_f c176 hf
        refine sm_aload_n F dX11_isDone_179 rfl 0 rfl ?_
        refine sm_get (v := .ref (a 1)) F inX11 0 rfl rfl 0 (by decide) qw5_15 rfl rfl dX11_isDone_180 ?_
        refine sm_iload_n F dX11_isDone_183 rfl 3 rfl ?_
        obtain ⟨z184, hz184, hf⟩ := bd_some hf
        refine sm_callS (rest := []) F (ct_X11_isHere l D cI cZ cO (fun i => a (pm_D_i1 i)) hz184) (cut_D_i1_ro cI cZ cO a u) rfl rfl rfl qw5_114 qw5_115 qw1_12 qw5_116 hsX11_isHere ⟨Nat.le_of_ble_eq_true rfl, Nat.le_of_ble_eq_true rfl⟩ ⟨Nat.zero_le _, Nat.zero_le _⟩ rfl (Nat.le_of_ble_eq_true rfl) E0_b (fun _ _ _ _ _ _ => trivial) rfl dX11_isDone_184 [.int z184] rfl ?_
        refine sm_if_ne (tgt := 192) F dX11_isDone_187 (by decide) (fun c187 => ?_) (fun c187 => ?_)
        · replace hf := if_f c187 hf
          refine sm_aload_n F dX11_isDone_192 rfl 0 rfl ?_
          refine sm_get (v := .ref (a 1)) F inX11 0 rfl rfl 0 (by decide) qw5_15 rfl rfl dX11_isDone_193 ?_
          refine sm_iload_n F dX11_isDone_196 rfl 2 rfl ?_
          refine sm_iload_n F dX11_isDone_197 rfl 3 rfl ?_
          obtain ⟨z198, hz198, hf⟩ := bd_some hf
          refine sm_callS (rest := []) F (ct_X11_speaksIn l D cI cZ cO (fun i => a (pm_D_i1 i)) hz198) (cut_D_i1 cI cZ cO a u z198) rfl rfl rfl qw5_117 qw5_118 qw1_12 qw5_119 hsX11_speaksIn ⟨Nat.le_of_ble_eq_true rfl, Nat.le_of_ble_eq_true rfl⟩ ⟨Nat.zero_le _, Nat.zero_le _⟩ rfl (Nat.le_of_ble_eq_true rfl) E0_b (fun _ _ _ _ _ _ => trivial) rfl dX11_isDone_198 [] rfl ?_
          refine sm_iconst F dX11_isDone_201 kc_i_1 ?_
          exact sm_zret F dX11_isDone_202 rfl (Prod.mk.inj (Option.some.inj hf)).1 (congrArg (fun z => (wD cI cZ cO a z)) (Prod.mk.inj (Option.some.inj hf)).2)
        · replace hf := if_t c187 hf
          refine sm_iconst F dX11_isDone_190 kc_i_0 ?_
          exact sm_zret F dX11_isDone_191 rfl (Prod.mk.inj (Option.some.inj hf)).1 (congrArg (fun z => (wD cI cZ cO a z)) (Prod.mk.inj (Option.some.inj hf)).2)
  replace hf := if_f w15_115 hf
  have e15_98 := lv_neT w15_98 (a := 98) rfl
  have e15_110 := lv_neT w15_110 (a := 110) rfl
  have e15_111 := lv_neT w15_111 (a := 111) rfl
  have e15_112 := lv_neT w15_112 (a := 112) rfl
  have e15_114 := lv_neT w15_114 (a := 114) rfl
  have e15_115 := lv_neT w15_115 (a := 115) rfl
  have T15 : ∀ i : Nat, i < 18 → (#[188, 237, 237, 237, 237, 237, 237, 237, 237, 237, 237, 237, 219, 121, 85, 237, 92, 144] : Array Int)[i]? = some 237 ∨ i ∈ ([0, 12, 13, 14, 16, 17] : List Nat) := by decide
  refine sm_tableX (tgt := 252) F dX11_isDone_15 (by decide) (fun i hi hx => (T15 i hi).elim id (fun q => by simp only [List.mem_cons, List.not_mem_nil, or_false] at q; exfalso; omega)) (by decide) ?_
  refine sm_iload_n F dX11_isDone_252 rfl 2 rfl ?_
  refine sm_iconst F dX11_isDone_253 kc_i_1 ?_
  refine sm_bipush F dX11_isDone_254 kc_b_60 ?_
  obtain ⟨z256, hz256, hf⟩ := bd_some hf
  refine sm_callS (rest := []) F (ct_X11_isIn l D (tyL cI cZ cO) hz256) (cut_D_none cI cZ cO a u) rfl rfl rfl qw5_86 qw5_87 qw1_12 qw5_88 hsX11_isIn ⟨Nat.le_of_ble_eq_true rfl, Nat.le_of_ble_eq_true rfl⟩ ⟨Nat.zero_le _, Nat.zero_le _⟩ rfl (Nat.le_of_ble_eq_true rfl) E0_b (fun _ _ _ _ _ _ => trivial) rfl dX11_isDone_256 [.int z256] rfl ?_
  refine sm_if_eq (tgt := 276) F dX11_isDone_259 (by decide) (fun c259 => ?_) (fun c259 => ?_)
  · replace hf := if_t c259 hf
    refine sm_iconst F dX11_isDone_276 kc_i_0 ?_
    exact sm_zret F dX11_isDone_277 rfl (Prod.mk.inj (Option.some.inj hf)).1 (congrArg (fun z => (wD cI cZ cO a z)) (Prod.mk.inj (Option.some.inj hf)).2)
  · replace hf := if_f c259 hf
    refine sm_aload_n F dX11_isDone_262 rfl 0 rfl ?_
    refine sm_get (v := .ref (a 1)) F inX11 0 rfl rfl 0 (by decide) qw5_15 rfl rfl dX11_isDone_263 ?_
    refine sm_iconst F dX11_isDone_266 kc_i_1 ?_
    obtain ⟨h267, hf⟩ := ck_some hf
    refine sm_iald F 1 0 rfl rfl h267 dX11_isDone_267 ?_
    refine sm_iload_n F dX11_isDone_268 rfl 2 rfl ?_
    refine sm_iadd F dX11_isDone_269 ?_
    refine sm_sipush F dX11_isDone_270 kc_s_999 ?_
    refine sm_icmp_le (tgt := 278) F dX11_isDone_273 (by decide) (fun c273 => ?_) (fun c273 => ?_)
    · replace hf := if_t c273 hf
      refine sm_aload_n F dX11_isDone_278 rfl 0 rfl ?_
      refine sm_get (v := .ref (a 1)) F inX11 0 rfl rfl 0 (by decide) qw5_15 rfl rfl dX11_isDone_279 ?_
      refine sm_iload_n F dX11_isDone_282 rfl 2 rfl ?_
      obtain ⟨z283, hz283, hf⟩ := bd_some hf
      refine sm_callS (rest := []) F (ct_X11_weeksOn l D cI cZ cO (fun i => a (pm_D_i1 i)) hz283) (cut_D_i1 cI cZ cO a u z283) rfl rfl rfl qw5_126 qw5_127 qw1_12 qw5_128 hsX11_weeksOn ⟨Nat.le_of_ble_eq_true rfl, Nat.le_of_ble_eq_true rfl⟩ ⟨Nat.zero_le _, Nat.zero_le _⟩ rfl (Nat.le_of_ble_eq_true rfl) E0_b (fun _ _ _ _ _ _ => trivial) rfl dX11_isDone_283 [] rfl ?_
      refine sm_iconst F dX11_isDone_286 kc_i_1 ?_
      exact sm_zret F dX11_isDone_287 rfl (Prod.mk.inj (Option.some.inj hf)).1 (congrArg (fun z => (wD cI cZ cO a z)) (Prod.mk.inj (Option.some.inj hf)).2)
    · replace hf := if_f c273 hf
      refine sm_iconst F dX11_isDone_276 kc_i_0 ?_
      exact sm_zret F dX11_isDone_277 rfl (Prod.mk.inj (Option.some.inj hf)).1 (congrArg (fun z => (wD cI cZ cO a z)) (Prod.mk.inj (Option.some.inj hf)).2)
/-! SoManyForgottenModel.valley()I -/
abbrev rmX11_valley : Room := { frames := 7, cells := 0, slots := 0, locals := 155 }
set_option maxRecDepth 100000 in
theorem hvX11_valley : yX11_valley.cls = RX11 ∧ yX11_valley.cls ≠ "java/lang/invoke/MethodHandle" ∧ yX11_valley.cls ≠ "java/lang/invoke/VarHandle" ∧ (parseMethodDescriptor yX11_valley.desc).map (fun d => d.parameters.length) = some 0 := by decide +kernel
set_option maxRecDepth 100000 in
set_option maxHeartbeats 4000000 in
theorem s_X11_valley_128 {p : Program} {l : Launch} {e : Env} {s : State} {m : MethodId} {args : Array Value} {below : List Frame} {meth : Method} {c : Code} {A : Nat → Prop} {D : va_G} {cI cZ cO : ClassId} {a : Nat → Nat} {r : Int32} {o : DS} (F : smF p s m args meth c cX11_valley 6 (some .int) RX11 D (tyL cI cZ cO) A)   (u : DS) (x1 : Int32) (x2 : Int32) (hf : f_X11_valley_128    u x1 x2 = some (r, o)) : Sm p l e rmX11_valley s m args below meth c D A 6 0 0 (smQ below args s D A (some (.int r)) (wD cI cZ cO a o)) 128 [(0, .ref (a 0)), (1, .int x1), (2, .int x2)] [] (wD cI cZ cO a u) := by
  unfold f_X11_valley_128 at hf
  refine sm_aload_n F dX11_valley_128 rfl 0 rfl ?_
  refine sm_iconst F dX11_valley_129 kc_i_0 ?_
  refine sm_put F inX11 tyX11 tyX11_ok nmX11 0 rfl rfl 8 (by decide) qw5_23 rfl rfl rfl rfl (Nat.le_of_ble_eq_true rfl) (wD cI cZ cO a (sD_letN u (0 : Int32))) rfl dX11_valley_130 ?_
  refine sm_iload_n F dX11_valley_133 rfl 2 rfl ?_
  refine sm_bipush F dX11_valley_134 kc_b_m9 ?_
  refine sm_icmp_ne (tgt := 143) F dX11_valley_136 (by decide) (fun c136 => ?_) (fun c136 => ?_)
  · replace hf := if_f c136 hf
    refine sm_iload_n F dX11_valley_143 rfl 2 rfl ?_
    exact sm_iret F dX11_valley_144 (Prod.mk.inj (Option.some.inj hf)).1 (congrArg (fun z => (wD cI cZ cO a z)) (Prod.mk.inj (Option.some.inj hf)).2)
  · replace hf := if_t c136 hf
    refine sm_iload_n F dX11_valley_139 rfl 1 rfl ?_
    refine sm_goto (tgt := 144) F dX11_valley_140 (by decide) ?_
    exact sm_iret F dX11_valley_144 (Prod.mk.inj (Option.some.inj hf)).1 (congrArg (fun z => (wD cI cZ cO a z)) (Prod.mk.inj (Option.some.inj hf)).2)
set_option maxRecDepth 100000 in
set_option maxHeartbeats 4000000 in
theorem s_X11_valley_62_b {p : Program} {l : Launch} {e : Env} {s : State} {m : MethodId} {args : Array Value} {below : List Frame} {meth : Method} {c : Code} {A : Nat → Prop} {D : va_G} {cI cZ cO : ClassId} {a : Nat → Nat} {r : Int32} {o : DS} (F : smF p s m args meth c cX11_valley 6 (some .int) RX11 D (tyL cI cZ cO) A)  (k62 : DS → Int32 → Int32 → Option (Int32 × (DS))) (hk62 : ∀ (u' : DS) (x1' : Int32) (x2' : Int32), k62 u' x1' x2' = some (r, o) → Sm p l e rmX11_valley s m args below meth c D A 6 0 0 (smQ below args s D A (some (.int r)) (wD cI cZ cO a o)) 62 [(0, .ref (a 0)), (1, .int x1'), (2, .int x2')] [] (wD cI cZ cO a u')) (u : DS) (x1 : Int32) (x2 : Int32) (hf : b_X11_valley_62   k62 u x1 x2 = some (r, o)) : Sm p l e rmX11_valley s m args below meth c D A 6 0 0 (smQ below args s D A (some (.int r)) (wD cI cZ cO a o)) 62 [(0, .ref (a 0)), (1, .int x1), (2, .int x2)] [] (wD cI cZ cO a u) := by
  unfold b_X11_valley_62 at hf
  refine sm_iload_n F dX11_valley_62 rfl 2 rfl ?_
  refine sm_bipush F dX11_valley_63 kc_b_m9 ?_
  refine sm_icmp_ne (tgt := 128) F dX11_valley_65 (by decide) (fun c65 => ?_) (fun c65 => ?_)
  · replace hf := if_f c65 hf
    exact s_X11_valley_128 F  u x1 x2 hf
  · replace hf := if_t c65 hf
    refine sm_aload_n F dX11_valley_68 rfl 0 rfl ?_
    refine sm_get (v := .int (gD_place u)) F inX11 0 rfl rfl 10 (by decide) qw5_25 rfl rfl dX11_valley_69 ?_
    refine sm_aload_n F dX11_valley_72 rfl 0 rfl ?_
    refine sm_get (v := .int (gD_letN u)) F inX11 0 rfl rfl 8 (by decide) qw5_23 rfl rfl dX11_valley_73 ?_
    refine sm_icmp_ge (tgt := 128) F dX11_valley_76 (by decide) (fun c76 => ?_) (fun c76 => ?_)
    · replace hf := if_t c76 hf
      exact s_X11_valley_128 F  u x1 x2 hf
    · replace hf := if_f c76 hf
      refine sm_aload_n F dX11_valley_79 rfl 0 rfl ?_
      refine sm_get (v := .int (gD_place u)) F inX11 0 rfl rfl 10 (by decide) qw5_25 rfl rfl dX11_valley_80 ?_
      refine sm_istore_n F [(0, .ref (a 0)), (1, .int x1), (2, .int x2), (3, .int (gD_place u))] [1, 2, 3, 0] dX11_valley_83 rfl (by decide) rfl ?_
      refine sm_aload_n F dX11_valley_84 rfl 0 rfl ?_
      obtain ⟨z85, hz85, hf⟩ := bd_some hf
      refine sm_callV (rest := []) F (ct_X11_here l D cI cZ cO a hz85) (cut_D_id cI cZ cO a u u) rfl rfl rfl qw5_71 qw5_73 qw0_31 qw1_12 qw5_74 hvX11_here ⟨Nat.le_of_ble_eq_true rfl, Nat.le_of_ble_eq_true rfl⟩ ⟨Nat.zero_le _, Nat.zero_le _⟩ 0 11 rfl rfl rfl rfl (Nat.le_of_ble_eq_true rfl) E0_b (fun _ _ _ _ _ _ => trivial) rfl dX11_valley_85 [.int z85] rfl ?_
      refine sm_istore F [(0, .ref (a 0)), (1, .int x1), (2, .int x2), (3, .int (gD_place u)), (4, .int z85)] [1, 2, 3, 4, 0] dX11_valley_88 (by decide) rfl ?_
      refine sm_aload_n F dX11_valley_90 rfl 0 rfl ?_
      obtain ⟨z91, hz91, hf⟩ := bd_some hf
      refine sm_callV (rest := []) F (ct_X11_readsStatement l D cI cZ cO a hz91) (cut_D_id cI cZ cO a u z91.2) rfl rfl rfl qw5_67 qw5_69 qw0_30 qw1_12 qw5_70 hvX11_readsStatement ⟨Nat.le_of_ble_eq_true rfl, Nat.le_of_ble_eq_true rfl⟩ ⟨Nat.zero_le _, Nat.zero_le _⟩ 0 11 rfl rfl rfl rfl (Nat.le_of_ble_eq_true rfl) E0_b (fun _ _ _ _ _ _ => trivial) rfl dX11_valley_91 [.int z91.1] rfl ?_
      refine sm_istore F [(0, .ref (a 0)), (1, .int x1), (2, .int x2), (3, .int (gD_place u)), (4, .int z85)] [1, 2, 3, 4, 5] dX11_valley_94 (by decide) rfl ?_
      refine sm_aload_n F dX11_valley_96 rfl 0 rfl ?_
      refine sm_iload F dX11_valley_97 4 rfl ?_
      obtain ⟨z99, hz99, hf⟩ := bd_some hf
      refine sm_callV (rest := []) F (ct_X11_isDone l D cI cZ cO a hz99) (cut_D_id cI cZ cO a z91.2 z99.2) rfl rfl rfl qw5_92 qw5_94 qw0_34 qw1_12 qw5_95 hvX11_isDone ⟨Nat.le_of_ble_eq_true rfl, Nat.le_of_ble_eq_true rfl⟩ ⟨Nat.zero_le _, Nat.zero_le _⟩ 0 11 rfl rfl rfl rfl (Nat.le_of_ble_eq_true rfl) E0_b (fun _ _ _ _ _ _ => trivial) rfl dX11_valley_99 [.int z99.1] rfl ?_
      refine sm_if_eq (tgt := 108) F dX11_valley_102 (by decide) (fun c102 => ?_) (fun c102 => ?_)
      · replace hf := if_t c102 hf
        refine sm_sipush F dX11_valley_108 kc_s_m2000 ?_
        refine sm_iload_n F dX11_valley_111 rfl 3 rfl ?_
        refine sm_isub F dX11_valley_112 ?_
        refine sm_istore_n F [(0, .ref (a 0)), (1, .int x1), (2, .int (((-2000) : Int32) - (gD_place u)))] [1, 2, 0] dX11_valley_113 rfl (by decide) rfl ?_
        refine sm_aload_n F dX11_valley_114 rfl 0 rfl ?_
        refine sm_get (v := .ref (a 4)) F inX11 0 rfl rfl 3 (by decide) qw5_18 rfl rfl dX11_valley_115 ?_
        refine sm_aload_n F dX11_valley_118 rfl 0 rfl ?_
        refine sm_get (v := .ref (a 1)) F inX11 0 rfl rfl 0 (by decide) qw5_15 rfl rfl dX11_valley_119 ?_
        obtain ⟨z122, hz122, hf⟩ := bd_some hf
        refine sm_callS (rest := []) F (ct_X11_copies l D cI cZ cO (fun i => a (pm_D_ii4_1 i)) hz122) (cut_D_ii4_1 cI cZ cO a z99.2 z122) rfl rfl rfl qw5_89 qw5_90 qw1_12 qw5_91 hsX11_copies ⟨Nat.le_of_ble_eq_true rfl, Nat.le_of_ble_eq_true rfl⟩ ⟨Nat.zero_le _, Nat.zero_le _⟩ rfl (Nat.le_of_ble_eq_true rfl) E0_b (fun _ _ _ _ _ _ => trivial) rfl dX11_valley_122 [] rfl ?_
        refine sm_goto (tgt := 62) F dX11_valley_125 (by decide) ?_
        exact hk62 (sD_s (sD_was z99.2 z122.1) z122.2) x1 (((-2000) : Int32) - (gD_place u)) hf
      · replace hf := if_f c102 hf
        refine sm_goto (tgt := 62) F dX11_valley_105 (by decide) ?_
        refine sm_sub (lv' := [(0, .ref (a 0)), (1, .int x1), (2, .int x2)]) [0, 1, 2] rfl ?_
        exact hk62 z99.2 x1 x2 hf
set_option maxRecDepth 100000 in
set_option maxHeartbeats 4000000 in
theorem s_X11_valley_62 {p : Program} {l : Launch} {e : Env} {s : State} {m : MethodId} {args : Array Value} {below : List Frame} {meth : Method} {c : Code} {A : Nat → Prop} {D : va_G} {cI cZ cO : ClassId} {a : Nat → Nat} {r : Int32} {o : DS} (F : smF p s m args meth c cX11_valley 6 (some .int) RX11 D (tyL cI cZ cO) A)   (n : Nat) (u : DS) (x1 : Int32) (x2 : Int32) (hf : f_X11_valley_62   n u x1 x2 = some (r, o)) : Sm p l e rmX11_valley s m args below meth c D A 6 0 0 (smQ below args s D A (some (.int r)) (wD cI cZ cO a o)) 62 [(0, .ref (a 0)), (1, .int x1), (2, .int x2)] [] (wD cI cZ cO a u) :=
  lq3_ind (P := fun (u : DS) (x1 : Int32) (x2 : Int32) => Sm p l e rmX11_valley s m args below meth c D A 6 0 0 (smQ below args s D A (some (.int r)) (wD cI cZ cO a o)) 62 [(0, .ref (a 0)), (1, .int x1), (2, .int x2)] [] (wD cI cZ cO a u)) (fun k62 hk62 u x1 x2 h9 => s_X11_valley_62_b F   k62 hk62 u x1 x2 h9) n u x1 x2 hf
set_option maxRecDepth 100000 in
set_option maxHeartbeats 4000000 in
theorem s_X11_valley_46 {p : Program} {l : Launch} {e : Env} {s : State} {m : MethodId} {args : Array Value} {below : List Frame} {meth : Method} {c : Code} {A : Nat → Prop} {D : va_G} {cI cZ cO : ClassId} {a : Nat → Nat} {r : Int32} {o : DS} (F : smF p s m args meth c cX11_valley 6 (some .int) RX11 D (tyL cI cZ cO) A)   (u : DS) (x1 : Int32) (x2 : Int32) (hf : f_X11_valley_46    u x1 x2 = some (r, o)) : Sm p l e rmX11_valley s m args below meth c D A 6 0 0 (smQ below args s D A (some (.int r)) (wD cI cZ cO a o)) 46 [(0, .ref (a 0)), (1, .int x1), (2, .int x2)] [] (wD cI cZ cO a u) := by
  unfold f_X11_valley_46 at hf
  refine sm_aload_n F dX11_valley_46 rfl 0 rfl ?_
  refine sm_get (v := .ref (a 1)) F inX11 0 rfl rfl 0 (by decide) qw5_15 rfl rfl dX11_valley_47 ?_
  refine sm_aload_n F dX11_valley_50 rfl 0 rfl ?_
  refine sm_get (v := .ref (a 4)) F inX11 0 rfl rfl 3 (by decide) qw5_18 rfl rfl dX11_valley_51 ?_
  obtain ⟨z54, hz54, hf⟩ := bd_some hf
  refine sm_callS (rest := []) F (ct_X11_copies l D cI cZ cO (fun i => a (pm_D_ii1_4 i)) hz54) (cut_D_ii1_4 cI cZ cO a u z54) rfl rfl rfl qw5_89 qw5_90 qw1_12 qw5_91 hsX11_copies ⟨Nat.le_of_ble_eq_true rfl, Nat.le_of_ble_eq_true rfl⟩ ⟨Nat.zero_le _, Nat.zero_le _⟩ rfl (Nat.le_of_ble_eq_true rfl) E0_b (fun _ _ _ _ _ _ => trivial) rfl dX11_valley_54 [] rfl ?_
  refine sm_aload_n F dX11_valley_57 rfl 0 rfl ?_
  refine sm_iconst F dX11_valley_58 kc_i_0 ?_
  refine sm_put F inX11 tyX11 tyX11_ok nmX11 0 rfl rfl 10 (by decide) qw5_25 rfl rfl rfl rfl (Nat.le_of_ble_eq_true rfl) (wD cI cZ cO a (sD_place (sD_was (sD_s u z54.1) z54.2) (0 : Int32))) rfl dX11_valley_59 ?_
  exact s_X11_valley_62 F  smN (sD_place (sD_was (sD_s u z54.1) z54.2) (0 : Int32)) x1 x2 hf
set_option maxRecDepth 100000 in
set_option maxHeartbeats 4000000 in
theorem s_X11_valley_26 {p : Program} {l : Launch} {e : Env} {s : State} {m : MethodId} {args : Array Value} {below : List Frame} {meth : Method} {c : Code} {A : Nat → Prop} {D : va_G} {cI cZ cO : ClassId} {a : Nat → Nat} {r : Int32} {o : DS} (F : smF p s m args meth c cX11_valley 6 (some .int) RX11 D (tyL cI cZ cO) A)  (k10 : DS → Int32 → Int32 → Option (Int32 × (DS))) (hk10 : ∀ (u' : DS) (x1' : Int32) (x2' : Int32), k10 u' x1' x2' = some (r, o) → Sm p l e rmX11_valley s m args below meth c D A 6 0 0 (smQ below args s D A (some (.int r)) (wD cI cZ cO a o)) 10 [(0, .ref (a 0)), (1, .int x1'), (2, .int x2')] [] (wD cI cZ cO a u')) (u : DS) (x1 : Int32) (x2 : Int32) (hf : f_X11_valley_26  k10  u x1 x2 = some (r, o)) : Sm p l e rmX11_valley s m args below meth c D A 6 0 0 (smQ below args s D A (some (.int r)) (wD cI cZ cO a o)) 26 [(0, .ref (a 0)), (1, .int x1), (2, .int x2)] [] (wD cI cZ cO a u) := by
  unfold f_X11_valley_26 at hf
  refine sm_iinc F [(0, .ref (a 0)), (1, .int (x1 + 1)), (2, .int x2)] 1 [1, 0, 2] dX11_valley_26 rfl kc_i_1 (by decide) rfl ?_
  refine sm_iload_n F dX11_valley_29 rfl 2 rfl ?_
  refine sm_bipush F dX11_valley_30 kc_b_m9 ?_
  refine sm_icmp_ne (tgt := 46) F dX11_valley_32 (by decide) (fun c32 => ?_) (fun c32 => ?_)
  · replace hf := if_f c32 hf
    exact s_X11_valley_46 F  u (x1 + 1) x2 hf
  · replace hf := if_t c32 hf
    refine sm_aload_n F dX11_valley_35 rfl 0 rfl ?_
    refine sm_get (v := .int (gD_place u)) F inX11 0 rfl rfl 10 (by decide) qw5_25 rfl rfl dX11_valley_36 ?_
    refine sm_aload_n F dX11_valley_39 rfl 0 rfl ?_
    refine sm_get (v := .int (gD_letN u)) F inX11 0 rfl rfl 8 (by decide) qw5_23 rfl rfl dX11_valley_40 ?_
    refine sm_icmp_lt (tgt := 10) F dX11_valley_43 (by decide) (fun c43 => ?_) (fun c43 => ?_)
    · replace hf := if_t c43 hf
      exact hk10 u (x1 + 1) x2 hf
    · replace hf := if_f c43 hf
      exact s_X11_valley_46 F  u (x1 + 1) x2 hf
set_option maxRecDepth 100000 in
set_option maxHeartbeats 4000000 in
theorem s_X11_valley_10_b {p : Program} {l : Launch} {e : Env} {s : State} {m : MethodId} {args : Array Value} {below : List Frame} {meth : Method} {c : Code} {A : Nat → Prop} {D : va_G} {cI cZ cO : ClassId} {a : Nat → Nat} {r : Int32} {o : DS} (F : smF p s m args meth c cX11_valley 6 (some .int) RX11 D (tyL cI cZ cO) A)  (k10 : DS → Int32 → Int32 → Option (Int32 × (DS))) (hk10 : ∀ (u' : DS) (x1' : Int32) (x2' : Int32), k10 u' x1' x2' = some (r, o) → Sm p l e rmX11_valley s m args below meth c D A 6 0 0 (smQ below args s D A (some (.int r)) (wD cI cZ cO a o)) 10 [(0, .ref (a 0)), (1, .int x1'), (2, .int x2')] [] (wD cI cZ cO a u')) (u : DS) (x1 : Int32) (x2 : Int32) (hf : b_X11_valley_10   k10 u x1 x2 = some (r, o)) : Sm p l e rmX11_valley s m args below meth c D A 6 0 0 (smQ below args s D A (some (.int r)) (wD cI cZ cO a o)) 10 [(0, .ref (a 0)), (1, .int x1), (2, .int x2)] [] (wD cI cZ cO a u) := by
  unfold b_X11_valley_10 at hf
  refine sm_aload_n F dX11_valley_10 rfl 0 rfl ?_
  obtain ⟨z11, hz11, hf⟩ := bd_some hf
  refine sm_callV (rest := []) F (ct_X11_readsStatement l D cI cZ cO a hz11) (cut_D_id cI cZ cO a u z11.2) rfl rfl rfl qw5_67 qw5_69 qw0_30 qw1_12 qw5_70 hvX11_readsStatement ⟨Nat.le_of_ble_eq_true rfl, Nat.le_of_ble_eq_true rfl⟩ ⟨Nat.zero_le _, Nat.zero_le _⟩ 0 11 rfl rfl rfl rfl (Nat.le_of_ble_eq_true rfl) E0_b (fun _ _ _ _ _ _ => trivial) rfl dX11_valley_11 [.int z11.1] rfl ?_
  refine sm_if_ne (tgt := 26) F dX11_valley_14 (by decide) (fun c14 => ?_) (fun c14 => ?_)
  · replace hf := if_f c14 hf
    exact s_X11_valley_26 F k10 hk10 z11.2 x1 x2 hf
  · replace hf := if_t c14 hf
    refine sm_sipush F dX11_valley_17 kc_s_m1000 ?_
    refine sm_aload_n F dX11_valley_20 rfl 0 rfl ?_
    refine sm_get (v := .int (gD_place z11.2)) F inX11 0 rfl rfl 10 (by decide) qw5_25 rfl rfl dX11_valley_21 ?_
    refine sm_isub F dX11_valley_24 ?_
    refine sm_istore_n F [(0, .ref (a 0)), (1, .int x1), (2, .int (((-1000) : Int32) - (gD_place z11.2)))] [1, 2, 0] dX11_valley_25 rfl (by decide) rfl ?_
    exact s_X11_valley_26 F k10 hk10 z11.2 x1 (((-1000) : Int32) - (gD_place z11.2)) hf
set_option maxRecDepth 100000 in
set_option maxHeartbeats 4000000 in
theorem s_X11_valley_10 {p : Program} {l : Launch} {e : Env} {s : State} {m : MethodId} {args : Array Value} {below : List Frame} {meth : Method} {c : Code} {A : Nat → Prop} {D : va_G} {cI cZ cO : ClassId} {a : Nat → Nat} {r : Int32} {o : DS} (F : smF p s m args meth c cX11_valley 6 (some .int) RX11 D (tyL cI cZ cO) A)   (n : Nat) (u : DS) (x1 : Int32) (x2 : Int32) (hf : f_X11_valley_10   n u x1 x2 = some (r, o)) : Sm p l e rmX11_valley s m args below meth c D A 6 0 0 (smQ below args s D A (some (.int r)) (wD cI cZ cO a o)) 10 [(0, .ref (a 0)), (1, .int x1), (2, .int x2)] [] (wD cI cZ cO a u) :=
  lq3_ind (P := fun (u : DS) (x1 : Int32) (x2 : Int32) => Sm p l e rmX11_valley s m args below meth c D A 6 0 0 (smQ below args s D A (some (.int r)) (wD cI cZ cO a o)) 10 [(0, .ref (a 0)), (1, .int x1), (2, .int x2)] [] (wD cI cZ cO a u)) (fun k10 hk10 u x1 x2 h9 => s_X11_valley_10_b F   k10 hk10 u x1 x2 h9) n u x1 x2 hf
set_option maxRecDepth 100000 in
set_option maxHeartbeats 4000000 in
theorem ct_X11_valley (l : Launch) (D : va_G) (cI cZ cO : ClassId) (a : Nat → Nat) {u : DS} {r : Int32} {o : DS} (hf : f_X11_valley u = some (r, o)) : Ct l yX11_valley (uw (Cond.code yX11_valley cX11_valley 6 (some .int))) rmX11_valley D (tyL cI cZ cO) E0 [.ref (a 0)] (wD cI cZ cO a u) (some (.int r)) (wD cI cZ cO a o) := by
  refine sm_start (cc := cX11_valley) (maxL := 6) (ret := (some .int)) (own := RX11) (by decide) rfl rfl (Nat.le_of_ble_eq_true rfl) (lv := [(0, .ref (a 0))]) rfl ?_
  intro p e s m below meth c A F hE hA
  unfold f_X11_valley at hf
  refine sm_aload_n F dX11_valley_0 rfl 0 rfl ?_
  refine sm_iconst F dX11_valley_1 kc_i_0 ?_
  refine sm_put F inX11 tyX11 tyX11_ok nmX11 0 rfl rfl 10 (by decide) qw5_25 rfl rfl rfl rfl (Nat.le_of_ble_eq_true rfl) (wD cI cZ cO a (sD_place u (0 : Int32))) rfl dX11_valley_2 ?_
  refine sm_iconst F dX11_valley_5 kc_i_0 ?_
  refine sm_istore_n F [(0, .ref (a 0)), (1, .int (0 : Int32))] [1, 0] dX11_valley_6 rfl (by decide) rfl ?_
  refine sm_bipush F dX11_valley_7 kc_b_m9 ?_
  refine sm_istore_n F [(0, .ref (a 0)), (1, .int (0 : Int32)), (2, .int ((-9) : Int32))] [1, 2, 0] dX11_valley_9 rfl (by decide) rfl ?_
  exact s_X11_valley_10 F  smN (sD_place u (0 : Int32)) (0 : Int32) ((-9) : Int32) hf
/-! SoManyForgottenModel.person(II)I -/
abbrev rmX11_person : Room := { frames := 3, cells := 0, slots := 0, locals := 65 }
set_option maxRecDepth 100000 in
theorem hvX11_person : yX11_person.cls = RX11 ∧ yX11_person.cls ≠ "java/lang/invoke/MethodHandle" ∧ yX11_person.cls ≠ "java/lang/invoke/VarHandle" ∧ (parseMethodDescriptor yX11_person.desc).map (fun d => d.parameters.length) = some 2 := by decide +kernel
set_option maxRecDepth 100000 in
set_option maxHeartbeats 4000000 in
theorem ct_X11_person (l : Launch) (D : va_G) (cI cZ cO : ClassId) (a : Nat → Nat) {u : DS} {x1 : Int32} {x2 : Int32} {r : Int32} {o : DS} (hf : f_X11_person u x1 x2 = some (r, o)) : Ct l yX11_person (uw (Cond.code yX11_person cX11_person 3 (some .int))) rmX11_person D (tyL cI cZ cO) E0 [.ref (a 0), .int x1, .int x2] (wD cI cZ cO a u) (some (.int r)) (wD cI cZ cO a o) := by
  refine sm_start (cc := cX11_person) (maxL := 3) (ret := (some .int)) (own := RX11) (by decide) rfl rfl (Nat.le_of_ble_eq_true rfl) (lv := [(0, .ref (a 0)), (1, .int x1), (2, .int x2)]) rfl ?_
  intro p e s m below meth c A F hE hA
  unfold f_X11_person at hf
  refine sm_aload_n F dX11_person_0 rfl 0 rfl ?_
  refine sm_iload_n F dX11_person_1 rfl 1 rfl ?_
  obtain ⟨z2, hz2, hf⟩ := bd_some hf
  refine sm_callV (rest := []) F (ct_X11_isOne l D cI cZ cO a hz2) (cut_D_id cI cZ cO a u u) rfl rfl rfl qw5_110 qw5_112 qw0_37 qw1_12 qw5_113 hvX11_isOne ⟨Nat.le_of_ble_eq_true rfl, Nat.le_of_ble_eq_true rfl⟩ ⟨Nat.zero_le _, Nat.zero_le _⟩ 0 11 rfl rfl rfl rfl (Nat.le_of_ble_eq_true rfl) E0_b (fun _ _ _ _ _ _ => trivial) rfl dX11_person_2 [.int z2] rfl ?_
  refine sm_if_ne (tgt := 14) F dX11_person_5 (by decide) (fun c5 => ?_) (fun c5 => ?_)
  · replace hf := if_f c5 hf
    refine sm_iload_n F dX11_person_14 rfl 2 rfl ?_
    refine sm_iconst F dX11_person_15 kc_i_0 ?_
    refine sm_iconst F dX11_person_16 kc_i_3 ?_
    obtain ⟨z17, hz17, hf⟩ := bd_some hf
    refine sm_callS (rest := []) F (ct_X11_isIn l D (tyL cI cZ cO) hz17) (cut_D_none cI cZ cO a u) rfl rfl rfl qw5_86 qw5_87 qw1_12 qw5_88 hsX11_isIn ⟨Nat.le_of_ble_eq_true rfl, Nat.le_of_ble_eq_true rfl⟩ ⟨Nat.zero_le _, Nat.zero_le _⟩ rfl (Nat.le_of_ble_eq_true rfl) E0_b (fun _ _ _ _ _ _ => trivial) rfl dX11_person_17 [.int z17] rfl ?_
    refine sm_if_eq (tgt := 34) F dX11_person_20 (by decide) (fun c20 => ?_) (fun c20 => ?_)
    · replace hf := if_t c20 hf
      refine sm_iload_n F dX11_person_34 rfl 2 rfl ?_
      refine sm_iconst F dX11_person_35 kc_i_4 ?_
      refine sm_icmp_ne (tgt := 50) F dX11_person_36 (by decide) (fun c36 => ?_) (fun c36 => ?_)
      · replace hf := if_f c36 hf
        refine sm_iload_n F dX11_person_50 rfl 2 rfl ?_
        refine sm_iconst F dX11_person_51 kc_i_5 ?_
        refine sm_icmp_eq (tgt := 64) F dX11_person_52 (by decide) (fun c52 => ?_) (fun c52 => ?_)
        · replace hf := if_t c52 hf
          refine sm_aload_n F dX11_person_64 rfl 0 rfl ?_
          refine sm_get (v := .ref (a 1)) F inX11 0 rfl rfl 0 (by decide) qw5_15 rfl rfl dX11_person_65 ?_
          refine sm_iload_n F dX11_person_68 rfl 1 rfl ?_
          obtain ⟨z69, hz69, hf⟩ := bd_some hf
          refine sm_callS (rest := []) F (ct_X11_mayBeNamed l D cI cZ cO (fun i => a (pm_D_i1 i)) hz69) (cut_D_i1_ro cI cZ cO a u) rfl rfl rfl qw5_138 qw5_139 qw1_12 qw5_140 hsX11_mayBeNamed ⟨Nat.le_of_ble_eq_true rfl, Nat.le_of_ble_eq_true rfl⟩ ⟨Nat.zero_le _, Nat.zero_le _⟩ rfl (Nat.le_of_ble_eq_true rfl) E0_b (fun _ _ _ _ _ _ => trivial) rfl dX11_person_69 [.int z69] rfl ?_
          refine sm_if_eq (tgt := 79) F dX11_person_72 (by decide) (fun c72 => ?_) (fun c72 => ?_)
          · replace hf := if_t c72 hf
            refine sm_iconst F dX11_person_79 kc_i_0 ?_
            exact sm_iret F dX11_person_80 (Prod.mk.inj (Option.some.inj hf)).1 (congrArg (fun z => (wD cI cZ cO a z)) (Prod.mk.inj (Option.some.inj hf)).2)
          · replace hf := if_f c72 hf
            refine sm_iconst F dX11_person_75 kc_i_1 ?_
            refine sm_goto (tgt := 80) F dX11_person_76 (by decide) ?_
            exact sm_iret F dX11_person_80 (Prod.mk.inj (Option.some.inj hf)).1 (congrArg (fun z => (wD cI cZ cO a z)) (Prod.mk.inj (Option.some.inj hf)).2)
        · replace hf := if_f c52 hf
          refine sm_aload_n F dX11_person_55 rfl 0 rfl ?_
          refine sm_bipush F dX11_person_56 kc_b_m2 ?_
          obtain ⟨z58, hz58, hf⟩ := bd_some hf
          refine sm_callV (rest := []) F (ct_X11_no l D cI cZ cO a hz58) (cut_D_id cI cZ cO a u z58.2) rfl rfl rfl qw5_59 qw5_61 qw0_29 qw1_12 qw5_62 hvX11_no ⟨Nat.le_of_ble_eq_true rfl, Nat.le_of_ble_eq_true rfl⟩ ⟨Nat.zero_le _, Nat.zero_le _⟩ 0 11 rfl rfl rfl rfl (Nat.le_of_ble_eq_true rfl) E0_b (fun _ _ _ _ _ _ => trivial) rfl dX11_person_58 [.int z58.1] rfl ?_
          refine sm_goto (tgt := 80) F dX11_person_61 (by decide) ?_
          exact sm_iret F dX11_person_80 (Prod.mk.inj (Option.some.inj hf)).1 (congrArg (fun z => (wD cI cZ cO a z)) (Prod.mk.inj (Option.some.inj hf)).2)
      · replace hf := if_t c36 hf
        refine sm_aload_n F dX11_person_39 rfl 0 rfl ?_
        refine sm_get (v := .ref (a 1)) F inX11 0 rfl rfl 0 (by decide) qw5_15 rfl rfl dX11_person_40 ?_
        refine sm_iload_n F dX11_person_43 rfl 1 rfl ?_
        obtain ⟨z44, hz44, hf⟩ := bd_some hf
        refine sm_callS (rest := []) F (ct_X11_knownIn l D cI cZ cO (fun i => a (pm_D_i1 i)) hz44) (cut_D_i1_ro cI cZ cO a u) rfl rfl rfl qw5_141 qw5_142 qw1_12 qw5_143 hsX11_knownIn ⟨Nat.le_of_ble_eq_true rfl, Nat.le_of_ble_eq_true rfl⟩ ⟨Nat.zero_le _, Nat.zero_le _⟩ rfl (Nat.le_of_ble_eq_true rfl) E0_b (fun _ _ _ _ _ _ => trivial) rfl dX11_person_44 [.int z44] rfl ?_
        refine sm_goto (tgt := 80) F dX11_person_47 (by decide) ?_
        exact sm_iret F dX11_person_80 (Prod.mk.inj (Option.some.inj hf)).1 (congrArg (fun z => (wD cI cZ cO a z)) (Prod.mk.inj (Option.some.inj hf)).2)
    · replace hf := if_f c20 hf
      refine sm_aload_n F dX11_person_23 rfl 0 rfl ?_
      refine sm_get (v := .ref (a 1)) F inX11 0 rfl rfl 0 (by decide) qw5_15 rfl rfl dX11_person_24 ?_
      refine sm_iload_n F dX11_person_27 rfl 1 rfl ?_
      refine sm_iload_n F dX11_person_28 rfl 2 rfl ?_
      obtain ⟨z29, hz29, hf⟩ := bd_some hf
      refine sm_callS (rest := [.ref (a 1)]) F (ct_X11_of l D (tyL cI cZ cO) hz29) (cut_D_none cI cZ cO a u) rfl rfl rfl qw5_100 qw5_101 qw1_12 qw5_102 hsX11_of ⟨Nat.le_of_ble_eq_true rfl, Nat.le_of_ble_eq_true rfl⟩ ⟨Nat.zero_le _, Nat.zero_le _⟩ rfl (Nat.le_of_ble_eq_true rfl) E0_b (fun _ _ _ _ _ _ => trivial) rfl dX11_person_29 [.int z29, .ref (a 1)] rfl ?_
      obtain ⟨h32, hf⟩ := ck_some hf
      refine sm_iald F 1 0 rfl rfl h32 dX11_person_32 ?_
      exact sm_iret F dX11_person_33 (Prod.mk.inj (Option.some.inj hf)).1 (congrArg (fun z => (wD cI cZ cO a z)) (Prod.mk.inj (Option.some.inj hf)).2)
  · replace hf := if_t c5 hf
    refine sm_aload_n F dX11_person_8 rfl 0 rfl ?_
    refine sm_iconst F dX11_person_9 kc_i_m1 ?_
    obtain ⟨z10, hz10, hf⟩ := bd_some hf
    refine sm_callV (rest := []) F (ct_X11_no l D cI cZ cO a hz10) (cut_D_id cI cZ cO a u z10.2) rfl rfl rfl qw5_59 qw5_61 qw0_29 qw1_12 qw5_62 hvX11_no ⟨Nat.le_of_ble_eq_true rfl, Nat.le_of_ble_eq_true rfl⟩ ⟨Nat.zero_le _, Nat.zero_le _⟩ 0 11 rfl rfl rfl rfl (Nat.le_of_ble_eq_true rfl) E0_b (fun _ _ _ _ _ _ => trivial) rfl dX11_person_10 [.int z10.1] rfl ?_
    exact sm_iret F dX11_person_13 (Prod.mk.inj (Option.some.inj hf)).1 (congrArg (fun z => (wD cI cZ cO a z)) (Prod.mk.inj (Option.some.inj hf)).2)
/-! SoManyForgottenModel.memory(II)I -/
abbrev rmX11_memory : Room := { frames := 3, cells := 0, slots := 0, locals := 65 }
set_option maxRecDepth 100000 in
theorem hvX11_memory : yX11_memory.cls = RX11 ∧ yX11_memory.cls ≠ "java/lang/invoke/MethodHandle" ∧ yX11_memory.cls ≠ "java/lang/invoke/VarHandle" ∧ (parseMethodDescriptor yX11_memory.desc).map (fun d => d.parameters.length) = some 2 := by decide +kernel
set_option maxRecDepth 100000 in
set_option maxHeartbeats 4000000 in
theorem ct_X11_memory (l : Launch) (D : va_G) (cI cZ cO : ClassId) (a : Nat → Nat) {u : DS} {x1 : Int32} {x2 : Int32} {r : Int32} {o : DS} (hf : f_X11_memory u x1 x2 = some (r, o)) : Ct l yX11_memory (uw (Cond.code yX11_memory cX11_memory 3 (some .int))) rmX11_memory D (tyL cI cZ cO) E0 [.ref (a 0), .int x1, .int x2] (wD cI cZ cO a u) (some (.int r)) (wD cI cZ cO a o) := by
  refine sm_start (cc := cX11_memory) (maxL := 3) (ret := (some .int)) (own := RX11) (by decide) rfl rfl (Nat.le_of_ble_eq_true rfl) (lv := [(0, .ref (a 0)), (1, .int x1), (2, .int x2)]) rfl ?_
  intro p e s m below meth c A F hE hA
  unfold f_X11_memory at hf
  refine sm_aload_n F dX11_memory_0 rfl 0 rfl ?_
  refine sm_iload_n F dX11_memory_1 rfl 1 rfl ?_
  refine sm_iload_n F dX11_memory_2 rfl 2 rfl ?_
  obtain ⟨z3, hz3, hf⟩ := bd_some hf
  refine sm_callV (rest := []) F (ct_X11_areTwo l D cI cZ cO a hz3) (cut_D_id cI cZ cO a u u) rfl rfl rfl qw5_106 qw5_108 qw0_36 qw1_12 qw5_109 hvX11_areTwo ⟨Nat.le_of_ble_eq_true rfl, Nat.le_of_ble_eq_true rfl⟩ ⟨Nat.zero_le _, Nat.zero_le _⟩ 0 11 rfl rfl rfl rfl (Nat.le_of_ble_eq_true rfl) E0_b (fun _ _ _ _ _ _ => trivial) rfl dX11_memory_3 [.int z3] rfl ?_
  refine sm_if_eq (tgt := 22) F dX11_memory_6 (by decide) (fun c6 => ?_) (fun c6 => ?_)
  · replace hf := if_t c6 hf
    refine sm_aload_n F dX11_memory_22 rfl 0 rfl ?_
    refine sm_iconst F dX11_memory_23 kc_i_m1 ?_
    obtain ⟨z24, hz24, hf⟩ := bd_some hf
    refine sm_callV (rest := []) F (ct_X11_no l D cI cZ cO a hz24) (cut_D_id cI cZ cO a u z24.2) rfl rfl rfl qw5_59 qw5_61 qw0_29 qw1_12 qw5_62 hvX11_no ⟨Nat.le_of_ble_eq_true rfl, Nat.le_of_ble_eq_true rfl⟩ ⟨Nat.zero_le _, Nat.zero_le _⟩ 0 11 rfl rfl rfl rfl (Nat.le_of_ble_eq_true rfl) E0_b (fun _ _ _ _ _ _ => trivial) rfl dX11_memory_24 [.int z24.1] rfl ?_
    exact sm_iret F dX11_memory_27 (Prod.mk.inj (Option.some.inj hf)).1 (congrArg (fun z => (wD cI cZ cO a z)) (Prod.mk.inj (Option.some.inj hf)).2)
  · replace hf := if_f c6 hf
    refine sm_aload_n F dX11_memory_9 rfl 0 rfl ?_
    refine sm_get (v := .ref (a 1)) F inX11 0 rfl rfl 0 (by decide) qw5_15 rfl rfl dX11_memory_10 ?_
    refine sm_iload_n F dX11_memory_13 rfl 1 rfl ?_
    refine sm_iload_n F dX11_memory_14 rfl 2 rfl ?_
    obtain ⟨z15, hz15, hf⟩ := bd_some hf
    refine sm_callS (rest := [.ref (a 1)]) F (ct_X11_by l D (tyL cI cZ cO) hz15) (cut_D_none cI cZ cO a u) rfl rfl rfl qw5_103 qw5_104 qw1_12 qw5_105 hsX11_by ⟨Nat.le_of_ble_eq_true rfl, Nat.le_of_ble_eq_true rfl⟩ ⟨Nat.zero_le _, Nat.zero_le _⟩ rfl (Nat.le_of_ble_eq_true rfl) E0_b (fun _ _ _ _ _ _ => trivial) rfl dX11_memory_15 [.int z15, .ref (a 1)] rfl ?_
    obtain ⟨h18, hf⟩ := ck_some hf
    refine sm_iald F 1 0 rfl rfl h18 dX11_memory_18 ?_
    refine sm_goto (tgt := 27) F dX11_memory_19 (by decide) ?_
    exact sm_iret F dX11_memory_27 (Prod.mk.inj (Option.some.inj hf)).1 (congrArg (fun z => (wD cI cZ cO a z)) (Prod.mk.inj (Option.some.inj hf)).2)
/-! SoManyForgottenModel.wrongBy(III)I -/
abbrev rmX11_wrongBy : Room := { frames := 0, cells := 0, slots := 0, locals := 0 }
set_option maxRecDepth 100000 in
theorem hsX11_wrongBy : yX11_wrongBy.cls ≠ "java/lang/invoke/MethodHandle" ∧ yX11_wrongBy.cls ≠ "java/lang/invoke/VarHandle" ∧ (parseMethodDescriptor yX11_wrongBy.desc).map (fun d => d.parameters.length) = some 3 := by decide +kernel
set_option maxRecDepth 100000 in
set_option maxHeartbeats 4000000 in
theorem ct_X11_wrongBy (l : Launch) (D : va_G) (tys : List (ClassId × FieldType)) {x0 : Int32} {x1 : Int32} {x2 : Int32} {r : Int32} (hf : f_X11_wrongBy x0 x1 x2 = some r) : Ct l yX11_wrongBy (uw (Cond.code yX11_wrongBy cX11_wrongBy 3 (some .int))) rmX11_wrongBy D tys E0 [.int x0, .int x1, .int x2] [] (some (.int r)) [] := by
  refine sm_start (cc := cX11_wrongBy) (maxL := 3) (ret := (some .int)) (own := RX11) (by decide) rfl rfl (Nat.le_of_ble_eq_true rfl) (lv := [(0, .int x0), (1, .int x1), (2, .int x2)]) rfl ?_
  intro p e s m below meth c A F hE hA
  unfold f_X11_wrongBy at hf
  refine sm_iload_n F dX11_wrongBy_0 rfl 0 rfl ?_
  refine sm_iload_n F dX11_wrongBy_1 rfl 1 rfl ?_
  refine sm_icmp_ge (tgt := 10) F dX11_wrongBy_2 (by decide) (fun c2 => ?_) (fun c2 => ?_)
  · replace hf := if_t c2 hf
    refine sm_iload_n F dX11_wrongBy_10 rfl 0 rfl ?_
    refine sm_iload_n F dX11_wrongBy_11 rfl 2 rfl ?_
    refine sm_icmp_le (tgt := 20) F dX11_wrongBy_12 (by decide) (fun c12 => ?_) (fun c12 => ?_)
    · replace hf := if_t c12 hf
      refine sm_iconst F dX11_wrongBy_20 kc_i_0 ?_
      exact sm_iret F dX11_wrongBy_21 (Option.some.inj hf) rfl
    · replace hf := if_f c12 hf
      refine sm_bipush F dX11_wrongBy_15 kc_b_m6 ?_
      refine sm_goto (tgt := 21) F dX11_wrongBy_17 (by decide) ?_
      exact sm_iret F dX11_wrongBy_21 (Option.some.inj hf) rfl
  · replace hf := if_f c2 hf
    refine sm_bipush F dX11_wrongBy_5 kc_b_m4 ?_
    refine sm_goto (tgt := 21) F dX11_wrongBy_7 (by decide) ?_
    exact sm_iret F dX11_wrongBy_21 (Option.some.inj hf) rfl
/-! SoManyForgottenModel.recalls(III)I -/
abbrev rmX11_recalls : Room := { frames := 3, cells := 0, slots := 0, locals := 65 }
set_option maxRecDepth 100000 in
theorem hvX11_recalls : yX11_recalls.cls = RX11 ∧ yX11_recalls.cls ≠ "java/lang/invoke/MethodHandle" ∧ yX11_recalls.cls ≠ "java/lang/invoke/VarHandle" ∧ (parseMethodDescriptor yX11_recalls.desc).map (fun d => d.parameters.length) = some 3 := by decide +kernel
set_option maxRecDepth 100000 in
set_option maxHeartbeats 4000000 in
theorem s_X11_recalls_20 {p : Program} {l : Launch} {e : Env} {s : State} {m : MethodId} {args : Array Value} {below : List Frame} {meth : Method} {c : Code} {A : Nat → Prop} {D : va_G} {cI cZ cO : ClassId} {a : Nat → Nat} {r : Int32} {o : DS} (F : smF p s m args meth c cX11_recalls 6 (some .int) RX11 D (tyL cI cZ cO) A) (x1 : Int32) (x2 : Int32) (x3 : Int32)  (u : DS) (y0 : Int32) (hf : f_X11_recalls_20 x1 x2 x3   u y0 = some (r, o)) : Sm p l e rmX11_recalls s m args below meth c D A 6 0 0 (smQ below args s D A (some (.int r)) (wD cI cZ cO a o)) 20 [(0, .ref (a 0)), (1, .int x1), (2, .int x2), (3, .int x3)] [.int y0] (wD cI cZ cO a u) := by
  unfold f_X11_recalls_20 at hf
  refine sm_istore F [(0, .ref (a 0)), (1, .int x1), (2, .int x2), (3, .int x3), (4, .int y0)] [1, 2, 3, 4, 0] dX11_recalls_20 (by decide) rfl ?_
  refine sm_iload F dX11_recalls_22 4 rfl ?_
  refine sm_if_eq (tgt := 34) F dX11_recalls_24 (by decide) (fun c24 => ?_) (fun c24 => ?_)
  · replace hf := if_t c24 hf
    refine sm_aload_n F dX11_recalls_34 rfl 0 rfl ?_
    refine sm_get (v := .ref (a 1)) F inX11 0 rfl rfl 0 (by decide) qw5_15 rfl rfl dX11_recalls_35 ?_
    refine sm_iload_n F dX11_recalls_38 rfl 1 rfl ?_
    refine sm_iload_n F dX11_recalls_39 rfl 2 rfl ?_
    obtain ⟨z40, hz40, hf⟩ := bd_some hf
    refine sm_callS (rest := [.ref (a 1)]) F (ct_X11_by l D (tyL cI cZ cO) hz40) (cut_D_none cI cZ cO a u) rfl rfl rfl qw5_103 qw5_104 qw1_12 qw5_105 hsX11_by ⟨Nat.le_of_ble_eq_true rfl, Nat.le_of_ble_eq_true rfl⟩ ⟨Nat.zero_le _, Nat.zero_le _⟩ rfl (Nat.le_of_ble_eq_true rfl) E0_b (fun _ _ _ _ _ _ => trivial) rfl dX11_recalls_40 [.int z40, .ref (a 1)] rfl ?_
    obtain ⟨h43, hf⟩ := ck_some hf
    refine sm_iald F 1 0 rfl rfl h43 dX11_recalls_43 ?_
    refine sm_istore F [(0, .ref (a 0)), (1, .int x1), (2, .int x2), (3, .int x3), (5, .int ((gD_s u) (Int32.toNatClampNeg z40)))] [1, 2, 3, 4, 0] dX11_recalls_44 (by decide) rfl ?_
    refine sm_aload_n F dX11_recalls_46 rfl 0 rfl ?_
    refine sm_get (v := .ref (a 1)) F inX11 0 rfl rfl 0 (by decide) qw5_15 rfl rfl dX11_recalls_47 ?_
    refine sm_iload_n F dX11_recalls_50 rfl 1 rfl ?_
    refine sm_iload_n F dX11_recalls_51 rfl 2 rfl ?_
    obtain ⟨z52, hz52, hf⟩ := bd_some hf
    refine sm_callS (rest := [.ref (a 1)]) F (ct_X11_by l D (tyL cI cZ cO) hz52) (cut_D_none cI cZ cO a u) rfl rfl rfl qw5_103 qw5_104 qw1_12 qw5_105 hsX11_by ⟨Nat.le_of_ble_eq_true rfl, Nat.le_of_ble_eq_true rfl⟩ ⟨Nat.zero_le _, Nat.zero_le _⟩ rfl (Nat.le_of_ble_eq_true rfl) E0_b (fun _ _ _ _ _ _ => trivial) rfl dX11_recalls_52 [.int z52, .ref (a 1)] rfl ?_
    refine sm_iload_n F dX11_recalls_55 rfl 3 rfl ?_
    obtain ⟨h56, hf⟩ := ck_some hf
    refine sm_iast F 1 0 rfl rfl h56 (wD cI cZ cO a (sD_s u (upd (gD_s u) (Int32.toNatClampNeg z52) x3))) rfl dX11_recalls_56 ?_
    refine sm_iload F dX11_recalls_57 4 rfl ?_
    exact sm_iret F dX11_recalls_59 (Prod.mk.inj (Option.some.inj hf)).1 (congrArg (fun z => (wD cI cZ cO a z)) (Prod.mk.inj (Option.some.inj hf)).2)
  · replace hf := if_f c24 hf
    refine sm_aload_n F dX11_recalls_27 rfl 0 rfl ?_
    refine sm_iload F dX11_recalls_28 4 rfl ?_
    obtain ⟨z30, hz30, hf⟩ := bd_some hf
    refine sm_callV (rest := []) F (ct_X11_no l D cI cZ cO a hz30) (cut_D_id cI cZ cO a u z30.2) rfl rfl rfl qw5_59 qw5_61 qw0_29 qw1_12 qw5_62 hvX11_no ⟨Nat.le_of_ble_eq_true rfl, Nat.le_of_ble_eq_true rfl⟩ ⟨Nat.zero_le _, Nat.zero_le _⟩ 0 11 rfl rfl rfl rfl (Nat.le_of_ble_eq_true rfl) E0_b (fun _ _ _ _ _ _ => trivial) rfl dX11_recalls_30 [.int z30.1] rfl ?_
    exact sm_iret F dX11_recalls_33 (Prod.mk.inj (Option.some.inj hf)).1 (congrArg (fun z => (wD cI cZ cO a z)) (Prod.mk.inj (Option.some.inj hf)).2)
set_option maxRecDepth 100000 in
set_option maxHeartbeats 4000000 in
theorem ct_X11_recalls (l : Launch) (D : va_G) (cI cZ cO : ClassId) (a : Nat → Nat) {u : DS} {x1 : Int32} {x2 : Int32} {x3 : Int32} {r : Int32} {o : DS} (hf : f_X11_recalls u x1 x2 x3 = some (r, o)) : Ct l yX11_recalls (uw (Cond.code yX11_recalls cX11_recalls 6 (some .int))) rmX11_recalls D (tyL cI cZ cO) E0 [.ref (a 0), .int x1, .int x2, .int x3] (wD cI cZ cO a u) (some (.int r)) (wD cI cZ cO a o) := by
  refine sm_start (cc := cX11_recalls) (maxL := 6) (ret := (some .int)) (own := RX11) (by decide) rfl rfl (Nat.le_of_ble_eq_true rfl) (lv := [(0, .ref (a 0)), (1, .int x1), (2, .int x2), (3, .int x3)]) rfl ?_
  intro p e s m below meth c A F hE hA
  unfold f_X11_recalls at hf
  refine sm_aload_n F dX11_recalls_0 rfl 0 rfl ?_
  refine sm_iload_n F dX11_recalls_1 rfl 1 rfl ?_
  refine sm_iload_n F dX11_recalls_2 rfl 2 rfl ?_
  obtain ⟨z3, hz3, hf⟩ := bd_some hf
  refine sm_callV (rest := []) F (ct_X11_areTwo l D cI cZ cO a hz3) (cut_D_id cI cZ cO a u u) rfl rfl rfl qw5_106 qw5_108 qw0_36 qw1_12 qw5_109 hvX11_areTwo ⟨Nat.le_of_ble_eq_true rfl, Nat.le_of_ble_eq_true rfl⟩ ⟨Nat.zero_le _, Nat.zero_le _⟩ 0 11 rfl rfl rfl rfl (Nat.le_of_ble_eq_true rfl) E0_b (fun _ _ _ _ _ _ => trivial) rfl dX11_recalls_3 [.int z3] rfl ?_
  refine sm_if_eq (tgt := 19) F dX11_recalls_6 (by decide) (fun c6 => ?_) (fun c6 => ?_)
  · replace hf := if_t c6 hf
    refine sm_iconst F dX11_recalls_19 kc_i_m1 ?_
    exact s_X11_recalls_20 F x1 x2 x3 u ((-1) : Int32) hf
  · replace hf := if_f c6 hf
    refine sm_iload_n F dX11_recalls_9 rfl 3 rfl ?_
    refine sm_iconst F dX11_recalls_10 kc_i_0 ?_
    refine sm_bipush F dX11_recalls_11 kc_b_99 ?_
    obtain ⟨z13, hz13, hf⟩ := bd_some hf
    refine sm_callS (rest := []) F (ct_X11_wrongBy l D (tyL cI cZ cO) hz13) (cut_D_none cI cZ cO a u) rfl rfl rfl qw5_159 qw5_160 qw1_12 qw5_161 hsX11_wrongBy ⟨Nat.le_of_ble_eq_true rfl, Nat.le_of_ble_eq_true rfl⟩ ⟨Nat.zero_le _, Nat.zero_le _⟩ rfl (Nat.le_of_ble_eq_true rfl) E0_b (fun _ _ _ _ _ _ => trivial) rfl dX11_recalls_13 [.int z13] rfl ?_
    refine sm_goto (tgt := 20) F dX11_recalls_16 (by decide) ?_
    exact s_X11_recalls_20 F x1 x2 x3 u z13 hf
/-! SoManyForgottenModel.speaks(II)I -/
abbrev rmX11_speaks : Room := { frames := 3, cells := 0, slots := 0, locals := 65 }
set_option maxRecDepth 100000 in
theorem hvX11_speaks : yX11_speaks.cls = RX11 ∧ yX11_speaks.cls ≠ "java/lang/invoke/MethodHandle" ∧ yX11_speaks.cls ≠ "java/lang/invoke/VarHandle" ∧ (parseMethodDescriptor yX11_speaks.desc).map (fun d => d.parameters.length) = some 2 := by decide +kernel
set_option maxRecDepth 100000 in
set_option maxHeartbeats 4000000 in
theorem s_X11_speaks_37 {p : Program} {l : Launch} {e : Env} {s : State} {m : MethodId} {args : Array Value} {below : List Frame} {meth : Method} {c : Code} {A : Nat → Prop} {D : va_G} {cI cZ cO : ClassId} {a : Nat → Nat} {r : Int32} {o : DS} (F : smF p s m args meth c cX11_speaks 3 (some .int) RX11 D (tyL cI cZ cO) A)   (u : DS) (hf : f_X11_speaks_37    u = some (r, o)) : Sm p l e rmX11_speaks s m args below meth c D A 3 0 0 (smQ below args s D A (some (.int r)) (wD cI cZ cO a o)) 37 [(0, .ref (a 0))] [] (wD cI cZ cO a u) := by
  unfold f_X11_speaks_37 at hf
  refine sm_aload_n F dX11_speaks_37 rfl 0 rfl ?_
  refine sm_bipush F dX11_speaks_38 kc_b_m3 ?_
  obtain ⟨z40, hz40, hf⟩ := bd_some hf
  refine sm_callV (rest := []) F (ct_X11_no l D cI cZ cO a hz40) (cut_D_id cI cZ cO a u z40.2) rfl rfl rfl qw5_59 qw5_61 qw0_29 qw1_12 qw5_62 hvX11_no ⟨Nat.le_of_ble_eq_true rfl, Nat.le_of_ble_eq_true rfl⟩ ⟨Nat.zero_le _, Nat.zero_le _⟩ 0 11 rfl rfl rfl rfl (Nat.le_of_ble_eq_true rfl) E0_b (fun _ _ _ _ _ _ => trivial) rfl dX11_speaks_40 [.int z40.1] rfl ?_
  exact sm_iret F dX11_speaks_43 (Prod.mk.inj (Option.some.inj hf)).1 (congrArg (fun z => (wD cI cZ cO a z)) (Prod.mk.inj (Option.some.inj hf)).2)
set_option maxRecDepth 100000 in
set_option maxHeartbeats 4000000 in
theorem ct_X11_speaks (l : Launch) (D : va_G) (cI cZ cO : ClassId) (a : Nat → Nat) {u : DS} {x1 : Int32} {x2 : Int32} {r : Int32} {o : DS} (hf : f_X11_speaks u x1 x2 = some (r, o)) : Ct l yX11_speaks (uw (Cond.code yX11_speaks cX11_speaks 3 (some .int))) rmX11_speaks D (tyL cI cZ cO) E0 [.ref (a 0), .int x1, .int x2] (wD cI cZ cO a u) (some (.int r)) (wD cI cZ cO a o) := by
  refine sm_start (cc := cX11_speaks) (maxL := 3) (ret := (some .int)) (own := RX11) (by decide) rfl rfl (Nat.le_of_ble_eq_true rfl) (lv := [(0, .ref (a 0)), (1, .int x1), (2, .int x2)]) rfl ?_
  intro p e s m below meth c A F hE hA
  unfold f_X11_speaks at hf
  refine sm_aload_n F dX11_speaks_0 rfl 0 rfl ?_
  refine sm_iload_n F dX11_speaks_1 rfl 1 rfl ?_
  refine sm_iload_n F dX11_speaks_2 rfl 2 rfl ?_
  obtain ⟨z3, hz3, hf⟩ := bd_some hf
  refine sm_callV (rest := []) F (ct_X11_areTwo l D cI cZ cO a hz3) (cut_D_id cI cZ cO a u u) rfl rfl rfl qw5_106 qw5_108 qw0_36 qw1_12 qw5_109 hvX11_areTwo ⟨Nat.le_of_ble_eq_true rfl, Nat.le_of_ble_eq_true rfl⟩ ⟨Nat.zero_le _, Nat.zero_le _⟩ 0 11 rfl rfl rfl rfl (Nat.le_of_ble_eq_true rfl) E0_b (fun _ _ _ _ _ _ => trivial) rfl dX11_speaks_3 [.int z3] rfl ?_
  refine sm_if_ne (tgt := 15) F dX11_speaks_6 (by decide) (fun c6 => ?_) (fun c6 => ?_)
  · replace hf := if_f c6 hf
    refine sm_aload_n F dX11_speaks_15 rfl 0 rfl ?_
    refine sm_get (v := .ref (a 1)) F inX11 0 rfl rfl 0 (by decide) qw5_15 rfl rfl dX11_speaks_16 ?_
    refine sm_iload_n F dX11_speaks_19 rfl 1 rfl ?_
    obtain ⟨z20, hz20, hf⟩ := bd_some hf
    refine sm_callS (rest := []) F (ct_X11_isHere l D cI cZ cO (fun i => a (pm_D_i1 i)) hz20) (cut_D_i1_ro cI cZ cO a u) rfl rfl rfl qw5_114 qw5_115 qw1_12 qw5_116 hsX11_isHere ⟨Nat.le_of_ble_eq_true rfl, Nat.le_of_ble_eq_true rfl⟩ ⟨Nat.zero_le _, Nat.zero_le _⟩ rfl (Nat.le_of_ble_eq_true rfl) E0_b (fun _ _ _ _ _ _ => trivial) rfl dX11_speaks_20 [.int z20] rfl ?_
    refine sm_if_eq (tgt := 37) F dX11_speaks_23 (by decide) (fun c23 => ?_) (fun c23 => ?_)
    · replace hf := if_t c23 hf
      refine sm_sub (lv' := [(0, .ref (a 0))]) [0] rfl ?_
      exact s_X11_speaks_37 F  u hf
    · replace hf := if_f c23 hf
      refine sm_aload_n F dX11_speaks_26 rfl 0 rfl ?_
      refine sm_get (v := .ref (a 1)) F inX11 0 rfl rfl 0 (by decide) qw5_15 rfl rfl dX11_speaks_27 ?_
      refine sm_iload_n F dX11_speaks_30 rfl 2 rfl ?_
      obtain ⟨z31, hz31, hf⟩ := bd_some hf
      refine sm_callS (rest := []) F (ct_X11_isHere l D cI cZ cO (fun i => a (pm_D_i1 i)) hz31) (cut_D_i1_ro cI cZ cO a u) rfl rfl rfl qw5_114 qw5_115 qw1_12 qw5_116 hsX11_isHere ⟨Nat.le_of_ble_eq_true rfl, Nat.le_of_ble_eq_true rfl⟩ ⟨Nat.zero_le _, Nat.zero_le _⟩ rfl (Nat.le_of_ble_eq_true rfl) E0_b (fun _ _ _ _ _ _ => trivial) rfl dX11_speaks_31 [.int z31] rfl ?_
      refine sm_if_ne (tgt := 44) F dX11_speaks_34 (by decide) (fun c34 => ?_) (fun c34 => ?_)
      · replace hf := if_f c34 hf
        refine sm_aload_n F dX11_speaks_44 rfl 0 rfl ?_
        refine sm_get (v := .ref (a 1)) F inX11 0 rfl rfl 0 (by decide) qw5_15 rfl rfl dX11_speaks_45 ?_
        refine sm_iload_n F dX11_speaks_48 rfl 1 rfl ?_
        refine sm_iload_n F dX11_speaks_49 rfl 2 rfl ?_
        obtain ⟨z50, hz50, hf⟩ := bd_some hf
        refine sm_callS (rest := []) F (ct_X11_speaksIn l D cI cZ cO (fun i => a (pm_D_i1 i)) hz50) (cut_D_i1 cI cZ cO a u z50) rfl rfl rfl qw5_117 qw5_118 qw1_12 qw5_119 hsX11_speaksIn ⟨Nat.le_of_ble_eq_true rfl, Nat.le_of_ble_eq_true rfl⟩ ⟨Nat.zero_le _, Nat.zero_le _⟩ rfl (Nat.le_of_ble_eq_true rfl) E0_b (fun _ _ _ _ _ _ => trivial) rfl dX11_speaks_50 [] rfl ?_
        refine sm_aload_n F dX11_speaks_53 rfl 0 rfl ?_
        refine sm_get (v := .ref (a 1)) F inX11 0 rfl rfl 0 (by decide) qw5_15 rfl rfl dX11_speaks_54 ?_
        refine sm_iload_n F dX11_speaks_57 rfl 1 rfl ?_
        refine sm_iload_n F dX11_speaks_58 rfl 2 rfl ?_
        obtain ⟨z59, hz59, hf⟩ := bd_some hf
        refine sm_callS (rest := [.ref (a 1)]) F (ct_X11_by l D (tyL cI cZ cO) hz59) (cut_D_none cI cZ cO a (sD_s u z50)) rfl rfl rfl qw5_103 qw5_104 qw1_12 qw5_105 hsX11_by ⟨Nat.le_of_ble_eq_true rfl, Nat.le_of_ble_eq_true rfl⟩ ⟨Nat.zero_le _, Nat.zero_le _⟩ rfl (Nat.le_of_ble_eq_true rfl) E0_b (fun _ _ _ _ _ _ => trivial) rfl dX11_speaks_59 [.int z59, .ref (a 1)] rfl ?_
        obtain ⟨h62, hf⟩ := ck_some hf
        refine sm_iald F 1 0 rfl rfl h62 dX11_speaks_62 ?_
        refine sm_aload_n F dX11_speaks_63 rfl 0 rfl ?_
        refine sm_get (v := .ref (a 1)) F inX11 0 rfl rfl 0 (by decide) qw5_15 rfl rfl dX11_speaks_64 ?_
        refine sm_iload_n F dX11_speaks_67 rfl 2 rfl ?_
        refine sm_iload_n F dX11_speaks_68 rfl 1 rfl ?_
        obtain ⟨z69, hz69, hf⟩ := bd_some hf
        refine sm_callS (rest := [.ref (a 1), .int ((gD_s (sD_s u z50)) (Int32.toNatClampNeg z59))]) F (ct_X11_by l D (tyL cI cZ cO) hz69) (cut_D_none cI cZ cO a (sD_s u z50)) rfl rfl rfl qw5_103 qw5_104 qw1_12 qw5_105 hsX11_by ⟨Nat.le_of_ble_eq_true rfl, Nat.le_of_ble_eq_true rfl⟩ ⟨Nat.zero_le _, Nat.zero_le _⟩ rfl (Nat.le_of_ble_eq_true rfl) E0_b (fun _ _ _ _ _ _ => trivial) rfl dX11_speaks_69 [.int z69, .ref (a 1), .int ((gD_s (sD_s u z50)) (Int32.toNatClampNeg z59))] rfl ?_
        obtain ⟨h72, hf⟩ := ck_some hf
        refine sm_iald F 1 0 rfl rfl h72 dX11_speaks_72 ?_
        refine sm_iadd F dX11_speaks_73 ?_
        exact sm_iret F dX11_speaks_74 (Prod.mk.inj (Option.some.inj hf)).1 (congrArg (fun z => (wD cI cZ cO a z)) (Prod.mk.inj (Option.some.inj hf)).2)
      · replace hf := if_t c34 hf
        refine sm_sub (lv' := [(0, .ref (a 0))]) [0] rfl ?_
        exact s_X11_speaks_37 F  u hf
  · replace hf := if_t c6 hf
    refine sm_aload_n F dX11_speaks_9 rfl 0 rfl ?_
    refine sm_iconst F dX11_speaks_10 kc_i_m1 ?_
    obtain ⟨z11, hz11, hf⟩ := bd_some hf
    refine sm_callV (rest := []) F (ct_X11_no l D cI cZ cO a hz11) (cut_D_id cI cZ cO a u z11.2) rfl rfl rfl qw5_59 qw5_61 qw0_29 qw1_12 qw5_62 hvX11_no ⟨Nat.le_of_ble_eq_true rfl, Nat.le_of_ble_eq_true rfl⟩ ⟨Nat.zero_le _, Nat.zero_le _⟩ 0 11 rfl rfl rfl rfl (Nat.le_of_ble_eq_true rfl) E0_b (fun _ _ _ _ _ _ => trivial) rfl dX11_speaks_11 [.int z11.1] rfl ?_
    exact sm_iret F dX11_speaks_14 (Prod.mk.inj (Option.some.inj hf)).1 (congrArg (fun z => (wD cI cZ cO a z)) (Prod.mk.inj (Option.some.inj hf)).2)
/-! SoManyForgottenModel.owes(II)I -/
abbrev rmX11_owes : Room := { frames := 2, cells := 0, slots := 0, locals := 43 }
set_option maxRecDepth 100000 in
theorem hvX11_owes : yX11_owes.cls = RX11 ∧ yX11_owes.cls ≠ "java/lang/invoke/MethodHandle" ∧ yX11_owes.cls ≠ "java/lang/invoke/VarHandle" ∧ (parseMethodDescriptor yX11_owes.desc).map (fun d => d.parameters.length) = some 2 := by decide +kernel
set_option maxRecDepth 100000 in
set_option maxHeartbeats 4000000 in
theorem s_X11_owes_19 {p : Program} {l : Launch} {e : Env} {s : State} {m : MethodId} {args : Array Value} {below : List Frame} {meth : Method} {c : Code} {A : Nat → Prop} {D : va_G} {cI cZ cO : ClassId} {a : Nat → Nat} {r : Int32} {o : DS} (F : smF p s m args meth c cX11_owes 5 (some .int) RX11 D (tyL cI cZ cO) A) (x1 : Int32) (x2 : Int32)  (u : DS) (y0 : Int32) (hf : f_X11_owes_19 x1 x2   u y0 = some (r, o)) : Sm p l e rmX11_owes s m args below meth c D A 5 0 0 (smQ below args s D A (some (.int r)) (wD cI cZ cO a o)) 19 [(0, .ref (a 0)), (1, .int x1), (2, .int x2)] [.int y0] (wD cI cZ cO a u) := by
  unfold f_X11_owes_19 at hf
  refine sm_istore_n F [(0, .ref (a 0)), (1, .int x1), (2, .int x2), (3, .int y0)] [1, 2, 3, 0] dX11_owes_19 rfl (by decide) rfl ?_
  refine sm_iload_n F dX11_owes_20 rfl 3 rfl ?_
  refine sm_if_eq (tgt := 30) F dX11_owes_21 (by decide) (fun c21 => ?_) (fun c21 => ?_)
  · replace hf := if_t c21 hf
    refine sm_aload_n F dX11_owes_30 rfl 0 rfl ?_
    refine sm_get (v := .ref (a 1)) F inX11 0 rfl rfl 0 (by decide) qw5_15 rfl rfl dX11_owes_31 ?_
    refine sm_iload_n F dX11_owes_34 rfl 1 rfl ?_
    refine sm_iconst F dX11_owes_35 kc_i_3 ?_
    obtain ⟨z36, hz36, hf⟩ := bd_some hf
    refine sm_callS (rest := [.ref (a 1)]) F (ct_X11_of l D (tyL cI cZ cO) hz36) (cut_D_none cI cZ cO a u) rfl rfl rfl qw5_100 qw5_101 qw1_12 qw5_102 hsX11_of ⟨Nat.le_of_ble_eq_true rfl, Nat.le_of_ble_eq_true rfl⟩ ⟨Nat.zero_le _, Nat.zero_le _⟩ rfl (Nat.le_of_ble_eq_true rfl) E0_b (fun _ _ _ _ _ _ => trivial) rfl dX11_owes_36 [.int z36, .ref (a 1)] rfl ?_
    obtain ⟨h39, hf⟩ := ck_some hf
    refine sm_iald F 1 0 rfl rfl h39 dX11_owes_39 ?_
    refine sm_istore F [(0, .ref (a 0)), (1, .int x1), (2, .int x2), (4, .int ((gD_s u) (Int32.toNatClampNeg z36)))] [1, 2, 3, 0] dX11_owes_40 (by decide) rfl ?_
    refine sm_aload_n F dX11_owes_42 rfl 0 rfl ?_
    refine sm_get (v := .ref (a 1)) F inX11 0 rfl rfl 0 (by decide) qw5_15 rfl rfl dX11_owes_43 ?_
    refine sm_iload_n F dX11_owes_46 rfl 1 rfl ?_
    refine sm_iconst F dX11_owes_47 kc_i_3 ?_
    obtain ⟨z48, hz48, hf⟩ := bd_some hf
    refine sm_callS (rest := [.ref (a 1)]) F (ct_X11_of l D (tyL cI cZ cO) hz48) (cut_D_none cI cZ cO a u) rfl rfl rfl qw5_100 qw5_101 qw1_12 qw5_102 hsX11_of ⟨Nat.le_of_ble_eq_true rfl, Nat.le_of_ble_eq_true rfl⟩ ⟨Nat.zero_le _, Nat.zero_le _⟩ rfl (Nat.le_of_ble_eq_true rfl) E0_b (fun _ _ _ _ _ _ => trivial) rfl dX11_owes_48 [.int z48, .ref (a 1)] rfl ?_
    refine sm_iload_n F dX11_owes_51 rfl 2 rfl ?_
    obtain ⟨h52, hf⟩ := ck_some hf
    refine sm_iast F 1 0 rfl rfl h52 (wD cI cZ cO a (sD_s u (upd (gD_s u) (Int32.toNatClampNeg z48) x2))) rfl dX11_owes_52 ?_
    refine sm_iload F dX11_owes_53 3 rfl ?_
    exact sm_iret F dX11_owes_55 (Prod.mk.inj (Option.some.inj hf)).1 (congrArg (fun z => (wD cI cZ cO a z)) (Prod.mk.inj (Option.some.inj hf)).2)
  · replace hf := if_f c21 hf
    refine sm_aload_n F dX11_owes_24 rfl 0 rfl ?_
    refine sm_iload_n F dX11_owes_25 rfl 3 rfl ?_
    obtain ⟨z26, hz26, hf⟩ := bd_some hf
    refine sm_callV (rest := []) F (ct_X11_no l D cI cZ cO a hz26) (cut_D_id cI cZ cO a u z26.2) rfl rfl rfl qw5_59 qw5_61 qw0_29 qw1_12 qw5_62 hvX11_no ⟨Nat.le_of_ble_eq_true rfl, Nat.le_of_ble_eq_true rfl⟩ ⟨Nat.zero_le _, Nat.zero_le _⟩ 0 11 rfl rfl rfl rfl (Nat.le_of_ble_eq_true rfl) E0_b (fun _ _ _ _ _ _ => trivial) rfl dX11_owes_26 [.int z26.1] rfl ?_
    exact sm_iret F dX11_owes_29 (Prod.mk.inj (Option.some.inj hf)).1 (congrArg (fun z => (wD cI cZ cO a z)) (Prod.mk.inj (Option.some.inj hf)).2)
set_option maxRecDepth 100000 in
set_option maxHeartbeats 4000000 in
theorem ct_X11_owes (l : Launch) (D : va_G) (cI cZ cO : ClassId) (a : Nat → Nat) {u : DS} {x1 : Int32} {x2 : Int32} {r : Int32} {o : DS} (hf : f_X11_owes u x1 x2 = some (r, o)) : Ct l yX11_owes (uw (Cond.code yX11_owes cX11_owes 5 (some .int))) rmX11_owes D (tyL cI cZ cO) E0 [.ref (a 0), .int x1, .int x2] (wD cI cZ cO a u) (some (.int r)) (wD cI cZ cO a o) := by
  refine sm_start (cc := cX11_owes) (maxL := 5) (ret := (some .int)) (own := RX11) (by decide) rfl rfl (Nat.le_of_ble_eq_true rfl) (lv := [(0, .ref (a 0)), (1, .int x1), (2, .int x2)]) rfl ?_
  intro p e s m below meth c A F hE hA
  unfold f_X11_owes at hf
  refine sm_aload_n F dX11_owes_0 rfl 0 rfl ?_
  refine sm_iload_n F dX11_owes_1 rfl 1 rfl ?_
  obtain ⟨z2, hz2, hf⟩ := bd_some hf
  refine sm_callV (rest := []) F (ct_X11_isOne l D cI cZ cO a hz2) (cut_D_id cI cZ cO a u u) rfl rfl rfl qw5_110 qw5_112 qw0_37 qw1_12 qw5_113 hvX11_isOne ⟨Nat.le_of_ble_eq_true rfl, Nat.le_of_ble_eq_true rfl⟩ ⟨Nat.zero_le _, Nat.zero_le _⟩ 0 11 rfl rfl rfl rfl (Nat.le_of_ble_eq_true rfl) E0_b (fun _ _ _ _ _ _ => trivial) rfl dX11_owes_2 [.int z2] rfl ?_
  refine sm_if_eq (tgt := 18) F dX11_owes_5 (by decide) (fun c5 => ?_) (fun c5 => ?_)
  · replace hf := if_t c5 hf
    refine sm_iconst F dX11_owes_18 kc_i_m1 ?_
    exact s_X11_owes_19 F x1 x2 u ((-1) : Int32) hf
  · replace hf := if_f c5 hf
    refine sm_iload_n F dX11_owes_8 rfl 2 rfl ?_
    refine sm_iconst F dX11_owes_9 kc_i_0 ?_
    refine sm_bipush F dX11_owes_10 kc_b_99 ?_
    obtain ⟨z12, hz12, hf⟩ := bd_some hf
    refine sm_callS (rest := []) F (ct_X11_wrongBy l D (tyL cI cZ cO) hz12) (cut_D_none cI cZ cO a u) rfl rfl rfl qw5_159 qw5_160 qw1_12 qw5_161 hsX11_wrongBy ⟨Nat.le_of_ble_eq_true rfl, Nat.le_of_ble_eq_true rfl⟩ ⟨Nat.zero_le _, Nat.zero_le _⟩ rfl (Nat.le_of_ble_eq_true rfl) E0_b (fun _ _ _ _ _ _ => trivial) rfl dX11_owes_12 [.int z12] rfl ?_
    refine sm_goto (tgt := 19) F dX11_owes_15 (by decide) ?_
    exact s_X11_owes_19 F x1 x2 u z12 hf
/-! SoManyForgottenModel.back(I)I -/
abbrev rmX11_back : Room := { frames := 3, cells := 0, slots := 0, locals := 64 }
set_option maxRecDepth 100000 in
theorem hvX11_back : yX11_back.cls = RX11 ∧ yX11_back.cls ≠ "java/lang/invoke/MethodHandle" ∧ yX11_back.cls ≠ "java/lang/invoke/VarHandle" ∧ (parseMethodDescriptor yX11_back.desc).map (fun d => d.parameters.length) = some 1 := by decide +kernel
set_option maxRecDepth 100000 in
set_option maxHeartbeats 4000000 in
theorem ct_X11_back (l : Launch) (D : va_G) (cI cZ cO : ClassId) (a : Nat → Nat) {u : DS} {x1 : Int32} {r : Int32} {o : DS} (hf : f_X11_back u x1 = some (r, o)) : Ct l yX11_back (uw (Cond.code yX11_back cX11_back 2 (some .int))) rmX11_back D (tyL cI cZ cO) E0 [.ref (a 0), .int x1] (wD cI cZ cO a u) (some (.int r)) (wD cI cZ cO a o) := by
  refine sm_start (cc := cX11_back) (maxL := 2) (ret := (some .int)) (own := RX11) (by decide) rfl rfl (Nat.le_of_ble_eq_true rfl) (lv := [(0, .ref (a 0)), (1, .int x1)]) rfl ?_
  intro p e s m below meth c A F hE hA
  unfold f_X11_back at hf
  refine sm_aload_n F dX11_back_0 rfl 0 rfl ?_
  refine sm_iload_n F dX11_back_1 rfl 1 rfl ?_
  obtain ⟨z2, hz2, hf⟩ := bd_some hf
  refine sm_callV (rest := []) F (ct_X11_isOne l D cI cZ cO a hz2) (cut_D_id cI cZ cO a u u) rfl rfl rfl qw5_110 qw5_112 qw0_37 qw1_12 qw5_113 hvX11_isOne ⟨Nat.le_of_ble_eq_true rfl, Nat.le_of_ble_eq_true rfl⟩ ⟨Nat.zero_le _, Nat.zero_le _⟩ 0 11 rfl rfl rfl rfl (Nat.le_of_ble_eq_true rfl) E0_b (fun _ _ _ _ _ _ => trivial) rfl dX11_back_2 [.int z2] rfl ?_
  refine sm_if_ne (tgt := 14) F dX11_back_5 (by decide) (fun c5 => ?_) (fun c5 => ?_)
  · replace hf := if_f c5 hf
    refine sm_aload_n F dX11_back_14 rfl 0 rfl ?_
    refine sm_get (v := .ref (a 1)) F inX11 0 rfl rfl 0 (by decide) qw5_15 rfl rfl dX11_back_15 ?_
    refine sm_iload_n F dX11_back_18 rfl 1 rfl ?_
    obtain ⟨z19, hz19, hf⟩ := bd_some hf
    refine sm_callS (rest := []) F (ct_X11_isHere l D cI cZ cO (fun i => a (pm_D_i1 i)) hz19) (cut_D_i1_ro cI cZ cO a u) rfl rfl rfl qw5_114 qw5_115 qw1_12 qw5_116 hsX11_isHere ⟨Nat.le_of_ble_eq_true rfl, Nat.le_of_ble_eq_true rfl⟩ ⟨Nat.zero_le _, Nat.zero_le _⟩ rfl (Nat.le_of_ble_eq_true rfl) E0_b (fun _ _ _ _ _ _ => trivial) rfl dX11_back_19 [.int z19] rfl ?_
    refine sm_if_eq (tgt := 32) F dX11_back_22 (by decide) (fun c22 => ?_) (fun c22 => ?_)
    · replace hf := if_t c22 hf
      refine sm_aload_n F dX11_back_32 rfl 0 rfl ?_
      refine sm_get (v := .ref (a 1)) F inX11 0 rfl rfl 0 (by decide) qw5_15 rfl rfl dX11_back_33 ?_
      refine sm_iload_n F dX11_back_36 rfl 1 rfl ?_
      obtain ⟨z37, hz37, hf⟩ := bd_some hf
      refine sm_callS (rest := []) F (ct_X11_comesBack l D cI cZ cO (fun i => a (pm_D_i1 i)) hz37) (cut_D_i1 cI cZ cO a u z37) rfl rfl rfl qw5_123 qw5_124 qw1_12 qw5_125 hsX11_comesBack ⟨Nat.le_of_ble_eq_true rfl, Nat.le_of_ble_eq_true rfl⟩ ⟨Nat.zero_le _, Nat.zero_le _⟩ rfl (Nat.le_of_ble_eq_true rfl) E0_b (fun _ _ _ _ _ _ => trivial) rfl dX11_back_37 [] rfl ?_
      refine sm_aload_n F dX11_back_40 rfl 0 rfl ?_
      refine sm_get (v := .ref (a 1)) F inX11 0 rfl rfl 0 (by decide) qw5_15 rfl rfl dX11_back_41 ?_
      obtain ⟨z44, hz44, hf⟩ := bd_some hf
      refine sm_callS (rest := []) F (ct_X11_hereIn l D cI cZ cO (fun i => a (pm_D_i1 i)) hz44) (cut_D_i1_ro cI cZ cO a (sD_s u z37)) rfl rfl rfl qw5_174 qw5_175 qw1_12 qw5_176 hsX11_hereIn ⟨Nat.le_of_ble_eq_true rfl, Nat.le_of_ble_eq_true rfl⟩ ⟨Nat.zero_le _, Nat.zero_le _⟩ rfl (Nat.le_of_ble_eq_true rfl) E0_b (fun _ _ _ _ _ _ => trivial) rfl dX11_back_44 [.int z44] rfl ?_
      obtain ⟨z47, hz47, hf⟩ := bd_some hf
      refine sm_callS (rest := []) F (ct_X11_bits l D (tyL cI cZ cO) hz47) (cut_D_none cI cZ cO a (sD_s u z37)) rfl rfl rfl qw5_177 qw5_178 qw1_12 qw5_179 hsX11_bits ⟨Nat.le_of_ble_eq_true rfl, Nat.le_of_ble_eq_true rfl⟩ ⟨Nat.zero_le _, Nat.zero_le _⟩ rfl (Nat.le_of_ble_eq_true rfl) E0_b (fun _ _ _ _ _ _ => trivial) rfl dX11_back_47 [.int z47] rfl ?_
      exact sm_iret F dX11_back_50 (Prod.mk.inj (Option.some.inj hf)).1 (congrArg (fun z => (wD cI cZ cO a z)) (Prod.mk.inj (Option.some.inj hf)).2)
    · replace hf := if_f c22 hf
      refine sm_aload_n F dX11_back_25 rfl 0 rfl ?_
      refine sm_bipush F dX11_back_26 kc_b_m3 ?_
      obtain ⟨z28, hz28, hf⟩ := bd_some hf
      refine sm_callV (rest := []) F (ct_X11_no l D cI cZ cO a hz28) (cut_D_id cI cZ cO a u z28.2) rfl rfl rfl qw5_59 qw5_61 qw0_29 qw1_12 qw5_62 hvX11_no ⟨Nat.le_of_ble_eq_true rfl, Nat.le_of_ble_eq_true rfl⟩ ⟨Nat.zero_le _, Nat.zero_le _⟩ 0 11 rfl rfl rfl rfl (Nat.le_of_ble_eq_true rfl) E0_b (fun _ _ _ _ _ _ => trivial) rfl dX11_back_28 [.int z28.1] rfl ?_
      exact sm_iret F dX11_back_31 (Prod.mk.inj (Option.some.inj hf)).1 (congrArg (fun z => (wD cI cZ cO a z)) (Prod.mk.inj (Option.some.inj hf)).2)
  · replace hf := if_t c5 hf
    refine sm_aload_n F dX11_back_8 rfl 0 rfl ?_
    refine sm_iconst F dX11_back_9 kc_i_m1 ?_
    obtain ⟨z10, hz10, hf⟩ := bd_some hf
    refine sm_callV (rest := []) F (ct_X11_no l D cI cZ cO a hz10) (cut_D_id cI cZ cO a u z10.2) rfl rfl rfl qw5_59 qw5_61 qw0_29 qw1_12 qw5_62 hvX11_no ⟨Nat.le_of_ble_eq_true rfl, Nat.le_of_ble_eq_true rfl⟩ ⟨Nat.zero_le _, Nat.zero_le _⟩ 0 11 rfl rfl rfl rfl (Nat.le_of_ble_eq_true rfl) E0_b (fun _ _ _ _ _ _ => trivial) rfl dX11_back_10 [.int z10.1] rfl ?_
    exact sm_iret F dX11_back_13 (Prod.mk.inj (Option.some.inj hf)).1 (congrArg (fun z => (wD cI cZ cO a z)) (Prod.mk.inj (Option.some.inj hf)).2)
/-! SoManyForgottenModel.names(I)I -/
abbrev rmX11_names : Room := { frames := 1, cells := 0, slots := 0, locals := 22 }
set_option maxRecDepth 100000 in
theorem hvX11_names : yX11_names.cls = RX11 ∧ yX11_names.cls ≠ "java/lang/invoke/MethodHandle" ∧ yX11_names.cls ≠ "java/lang/invoke/VarHandle" ∧ (parseMethodDescriptor yX11_names.desc).map (fun d => d.parameters.length) = some 1 := by decide +kernel
set_option maxRecDepth 100000 in
set_option maxHeartbeats 4000000 in
theorem ct_X11_names (l : Launch) (D : va_G) (cI cZ cO : ClassId) (a : Nat → Nat) {u : DS} {x1 : Int32} {r : Int32} {o : DS} (hf : f_X11_names u x1 = some (r, o)) : Ct l yX11_names (uw (Cond.code yX11_names cX11_names 4 (some .int))) rmX11_names D (tyL cI cZ cO) E0 [.ref (a 0), .int x1] (wD cI cZ cO a u) (some (.int r)) (wD cI cZ cO a o) := by
  refine sm_start (cc := cX11_names) (maxL := 4) (ret := (some .int)) (own := RX11) (by decide) rfl rfl (Nat.le_of_ble_eq_true rfl) (lv := [(0, .ref (a 0)), (1, .int x1)]) rfl ?_
  intro p e s m below meth c A F hE hA
  unfold f_X11_names at hf
  refine sm_iload_n F dX11_names_0 rfl 1 rfl ?_
  refine sm_iconst F dX11_names_1 kc_i_0 ?_
  refine sm_iconst F dX11_names_2 kc_i_3 ?_
  obtain ⟨z3, hz3, hf⟩ := bd_some hf
  refine sm_callS (rest := []) F (ct_X11_wrongBy l D (tyL cI cZ cO) hz3) (cut_D_none cI cZ cO a u) rfl rfl rfl qw5_159 qw5_160 qw1_12 qw5_161 hsX11_wrongBy ⟨Nat.le_of_ble_eq_true rfl, Nat.le_of_ble_eq_true rfl⟩ ⟨Nat.zero_le _, Nat.zero_le _⟩ rfl (Nat.le_of_ble_eq_true rfl) E0_b (fun _ _ _ _ _ _ => trivial) rfl dX11_names_3 [.int z3] rfl ?_
  refine sm_istore_n F [(0, .ref (a 0)), (1, .int x1), (2, .int z3)] [1, 2, 0] dX11_names_6 rfl (by decide) rfl ?_
  refine sm_iload_n F dX11_names_7 rfl 2 rfl ?_
  refine sm_if_eq (tgt := 17) F dX11_names_8 (by decide) (fun c8 => ?_) (fun c8 => ?_)
  · replace hf := if_t c8 hf
    refine sm_aload_n F dX11_names_17 rfl 0 rfl ?_
    refine sm_get (v := .ref (a 1)) F inX11 0 rfl rfl 0 (by decide) qw5_15 rfl rfl dX11_names_18 ?_
    refine sm_iconst F dX11_names_21 kc_i_2 ?_
    obtain ⟨h22, hf⟩ := ck_some hf
    refine sm_iald F 1 0 rfl rfl h22 dX11_names_22 ?_
    refine sm_istore_n F [(0, .ref (a 0)), (1, .int x1), (3, .int ((gD_s u) (Int32.toNatClampNeg (2 : Int32))))] [1, 2, 0] dX11_names_23 rfl (by decide) rfl ?_
    refine sm_aload_n F dX11_names_24 rfl 0 rfl ?_
    refine sm_get (v := .ref (a 1)) F inX11 0 rfl rfl 0 (by decide) qw5_15 rfl rfl dX11_names_25 ?_
    refine sm_iconst F dX11_names_28 kc_i_2 ?_
    refine sm_iload_n F dX11_names_29 rfl 1 rfl ?_
    obtain ⟨h30, hf⟩ := ck_some hf
    refine sm_iast F 1 0 rfl rfl h30 (wD cI cZ cO a (sD_s u (upd (gD_s u) (Int32.toNatClampNeg (2 : Int32)) x1))) rfl dX11_names_30 ?_
    refine sm_iload_n F dX11_names_31 rfl 2 rfl ?_
    exact sm_iret F dX11_names_32 (Prod.mk.inj (Option.some.inj hf)).1 (congrArg (fun z => (wD cI cZ cO a z)) (Prod.mk.inj (Option.some.inj hf)).2)
  · replace hf := if_f c8 hf
    refine sm_aload_n F dX11_names_11 rfl 0 rfl ?_
    refine sm_iload_n F dX11_names_12 rfl 2 rfl ?_
    obtain ⟨z13, hz13, hf⟩ := bd_some hf
    refine sm_callV (rest := []) F (ct_X11_no l D cI cZ cO a hz13) (cut_D_id cI cZ cO a u z13.2) rfl rfl rfl qw5_59 qw5_61 qw0_29 qw1_12 qw5_62 hvX11_no ⟨Nat.le_of_ble_eq_true rfl, Nat.le_of_ble_eq_true rfl⟩ ⟨Nat.zero_le _, Nat.zero_le _⟩ 0 11 rfl rfl rfl rfl (Nat.le_of_ble_eq_true rfl) E0_b (fun _ _ _ _ _ _ => trivial) rfl dX11_names_13 [.int z13.1] rfl ?_
    exact sm_iret F dX11_names_16 (Prod.mk.inj (Option.some.inj hf)).1 (congrArg (fun z => (wD cI cZ cO a z)) (Prod.mk.inj (Option.some.inj hf)).2)
/-! SoManyForgottenModel.turn(III)I -/
abbrev rmX11_turn : Room := { frames := 2, cells := 0, slots := 0, locals := 43 }
set_option maxRecDepth 100000 in
theorem hvX11_turn : yX11_turn.cls = RX11 ∧ yX11_turn.cls ≠ "java/lang/invoke/MethodHandle" ∧ yX11_turn.cls ≠ "java/lang/invoke/VarHandle" ∧ (parseMethodDescriptor yX11_turn.desc).map (fun d => d.parameters.length) = some 3 := by decide +kernel
set_option maxRecDepth 100000 in
set_option maxHeartbeats 4000000 in
theorem s_X11_turn_33 {p : Program} {l : Launch} {e : Env} {s : State} {m : MethodId} {args : Array Value} {below : List Frame} {meth : Method} {c : Code} {A : Nat → Prop} {D : va_G} {cI cZ cO : ClassId} {a : Nat → Nat} {r : Int32} {o : DS} (F : smF p s m args meth c cX11_turn 6 (some .int) RX11 D (tyL cI cZ cO) A) (x1 : Int32) (x2 : Int32) (x3 : Int32)  (u : DS) (y0 : Int32) (hf : f_X11_turn_33 x1 x2 x3   u y0 = some (r, o)) : Sm p l e rmX11_turn s m args below meth c D A 6 0 0 (smQ below args s D A (some (.int r)) (wD cI cZ cO a o)) 33 [(0, .ref (a 0)), (1, .int x1), (2, .int x2), (3, .int x3)] [.int y0] (wD cI cZ cO a u) := by
  unfold f_X11_turn_33 at hf
  refine sm_istore F [(0, .ref (a 0)), (1, .int x1), (2, .int x2), (3, .int x3), (4, .int y0)] [1, 2, 3, 4, 0] dX11_turn_33 (by decide) rfl ?_
  refine sm_iload F dX11_turn_35 4 rfl ?_
  refine sm_if_eq (tgt := 47) F dX11_turn_37 (by decide) (fun c37 => ?_) (fun c37 => ?_)
  · replace hf := if_t c37 hf
    refine sm_bipush F dX11_turn_47 kc_b_10 ?_
    refine sm_aload_n F dX11_turn_49 rfl 0 rfl ?_
    refine sm_get (v := .ref (a 1)) F inX11 0 rfl rfl 0 (by decide) qw5_15 rfl rfl dX11_turn_50 ?_
    refine sm_iload_n F dX11_turn_53 rfl 1 rfl ?_
    refine sm_iconst F dX11_turn_54 kc_i_0 ?_
    obtain ⟨z55, hz55, hf⟩ := bd_some hf
    refine sm_callS (rest := [.ref (a 1), .int (10 : Int32)]) F (ct_X11_of l D (tyL cI cZ cO) hz55) (cut_D_none cI cZ cO a u) rfl rfl rfl qw5_100 qw5_101 qw1_12 qw5_102 hsX11_of ⟨Nat.le_of_ble_eq_true rfl, Nat.le_of_ble_eq_true rfl⟩ ⟨Nat.zero_le _, Nat.zero_le _⟩ rfl (Nat.le_of_ble_eq_true rfl) E0_b (fun _ _ _ _ _ _ => trivial) rfl dX11_turn_55 [.int z55, .ref (a 1), .int (10 : Int32)] rfl ?_
    obtain ⟨h58, hf⟩ := ck_some hf
    refine sm_iald F 1 0 rfl rfl h58 dX11_turn_58 ?_
    refine sm_imul F dX11_turn_59 ?_
    refine sm_aload_n F dX11_turn_60 rfl 0 rfl ?_
    refine sm_get (v := .ref (a 1)) F inX11 0 rfl rfl 0 (by decide) qw5_15 rfl rfl dX11_turn_61 ?_
    refine sm_iload_n F dX11_turn_64 rfl 1 rfl ?_
    refine sm_iconst F dX11_turn_65 kc_i_1 ?_
    obtain ⟨z66, hz66, hf⟩ := bd_some hf
    refine sm_callS (rest := [.ref (a 1), .int ((10 : Int32) * ((gD_s u) (Int32.toNatClampNeg z55)))]) F (ct_X11_of l D (tyL cI cZ cO) hz66) (cut_D_none cI cZ cO a u) rfl rfl rfl qw5_100 qw5_101 qw1_12 qw5_102 hsX11_of ⟨Nat.le_of_ble_eq_true rfl, Nat.le_of_ble_eq_true rfl⟩ ⟨Nat.zero_le _, Nat.zero_le _⟩ rfl (Nat.le_of_ble_eq_true rfl) E0_b (fun _ _ _ _ _ _ => trivial) rfl dX11_turn_66 [.int z66, .ref (a 1), .int ((10 : Int32) * ((gD_s u) (Int32.toNatClampNeg z55)))] rfl ?_
    obtain ⟨h69, hf⟩ := ck_some hf
    refine sm_iald F 1 0 rfl rfl h69 dX11_turn_69 ?_
    refine sm_iadd F dX11_turn_70 ?_
    obtain ⟨v71, hv71, hf⟩ := bd_some hf
    refine sm_topi (Option.some.inj hv71) ?_
    refine sm_istore F [(0, .ref (a 0)), (1, .int x1), (2, .int x2), (3, .int x3), (5, .int v71)] [1, 2, 3, 4, 0] dX11_turn_71 (by decide) rfl ?_
    refine sm_aload_n F dX11_turn_73 rfl 0 rfl ?_
    refine sm_get (v := .ref (a 1)) F inX11 0 rfl rfl 0 (by decide) qw5_15 rfl rfl dX11_turn_74 ?_
    refine sm_iload_n F dX11_turn_77 rfl 1 rfl ?_
    refine sm_iconst F dX11_turn_78 kc_i_0 ?_
    obtain ⟨z79, hz79, hf⟩ := bd_some hf
    refine sm_callS (rest := [.ref (a 1)]) F (ct_X11_of l D (tyL cI cZ cO) hz79) (cut_D_none cI cZ cO a u) rfl rfl rfl qw5_100 qw5_101 qw1_12 qw5_102 hsX11_of ⟨Nat.le_of_ble_eq_true rfl, Nat.le_of_ble_eq_true rfl⟩ ⟨Nat.zero_le _, Nat.zero_le _⟩ rfl (Nat.le_of_ble_eq_true rfl) E0_b (fun _ _ _ _ _ _ => trivial) rfl dX11_turn_79 [.int z79, .ref (a 1)] rfl ?_
    refine sm_iload_n F dX11_turn_82 rfl 2 rfl ?_
    obtain ⟨h83, hf⟩ := ck_some hf
    refine sm_iast F 1 0 rfl rfl h83 (wD cI cZ cO a (sD_s u (upd (gD_s u) (Int32.toNatClampNeg z79) x2))) rfl dX11_turn_83 ?_
    refine sm_aload_n F dX11_turn_84 rfl 0 rfl ?_
    refine sm_get (v := .ref (a 1)) F inX11 0 rfl rfl 0 (by decide) qw5_15 rfl rfl dX11_turn_85 ?_
    refine sm_iload_n F dX11_turn_88 rfl 1 rfl ?_
    refine sm_iconst F dX11_turn_89 kc_i_1 ?_
    obtain ⟨z90, hz90, hf⟩ := bd_some hf
    refine sm_callS (rest := [.ref (a 1)]) F (ct_X11_of l D (tyL cI cZ cO) hz90) (cut_D_none cI cZ cO a (sD_s u (upd (gD_s u) (Int32.toNatClampNeg z79) x2))) rfl rfl rfl qw5_100 qw5_101 qw1_12 qw5_102 hsX11_of ⟨Nat.le_of_ble_eq_true rfl, Nat.le_of_ble_eq_true rfl⟩ ⟨Nat.zero_le _, Nat.zero_le _⟩ rfl (Nat.le_of_ble_eq_true rfl) E0_b (fun _ _ _ _ _ _ => trivial) rfl dX11_turn_90 [.int z90, .ref (a 1)] rfl ?_
    refine sm_iload_n F dX11_turn_93 rfl 3 rfl ?_
    obtain ⟨h94, hf⟩ := ck_some hf
    refine sm_iast F 1 0 rfl rfl h94 (wD cI cZ cO a (sD_s (sD_s u (upd (gD_s u) (Int32.toNatClampNeg z79) x2)) (upd (gD_s (sD_s u (upd (gD_s u) (Int32.toNatClampNeg z79) x2))) (Int32.toNatClampNeg z90) x3))) rfl dX11_turn_94 ?_
    obtain ⟨u94, hu94, hf⟩ := bd_some hf
    refine sm_ws (ws' := (wD cI cZ cO a u94)) (congrArg (fun z => (wD cI cZ cO a z)) (Option.some.inj hu94)) ?_
    refine sm_iload F dX11_turn_95 4 rfl ?_
    exact sm_iret F dX11_turn_97 (Prod.mk.inj (Option.some.inj hf)).1 (congrArg (fun z => (wD cI cZ cO a z)) (Prod.mk.inj (Option.some.inj hf)).2)
  · replace hf := if_f c37 hf
    refine sm_aload_n F dX11_turn_40 rfl 0 rfl ?_
    refine sm_iload F dX11_turn_41 4 rfl ?_
    obtain ⟨z43, hz43, hf⟩ := bd_some hf
    refine sm_callV (rest := []) F (ct_X11_no l D cI cZ cO a hz43) (cut_D_id cI cZ cO a u z43.2) rfl rfl rfl qw5_59 qw5_61 qw0_29 qw1_12 qw5_62 hvX11_no ⟨Nat.le_of_ble_eq_true rfl, Nat.le_of_ble_eq_true rfl⟩ ⟨Nat.zero_le _, Nat.zero_le _⟩ 0 11 rfl rfl rfl rfl (Nat.le_of_ble_eq_true rfl) E0_b (fun _ _ _ _ _ _ => trivial) rfl dX11_turn_43 [.int z43.1] rfl ?_
    exact sm_iret F dX11_turn_46 (Prod.mk.inj (Option.some.inj hf)).1 (congrArg (fun z => (wD cI cZ cO a z)) (Prod.mk.inj (Option.some.inj hf)).2)
set_option maxRecDepth 100000 in
set_option maxHeartbeats 4000000 in
theorem ct_X11_turn (l : Launch) (D : va_G) (cI cZ cO : ClassId) (a : Nat → Nat) {u : DS} {x1 : Int32} {x2 : Int32} {x3 : Int32} {r : Int32} {o : DS} (hf : f_X11_turn u x1 x2 x3 = some (r, o)) : Ct l yX11_turn (uw (Cond.code yX11_turn cX11_turn 6 (some .int))) rmX11_turn D (tyL cI cZ cO) E0 [.ref (a 0), .int x1, .int x2, .int x3] (wD cI cZ cO a u) (some (.int r)) (wD cI cZ cO a o) := by
  refine sm_start (cc := cX11_turn) (maxL := 6) (ret := (some .int)) (own := RX11) (by decide) rfl rfl (Nat.le_of_ble_eq_true rfl) (lv := [(0, .ref (a 0)), (1, .int x1), (2, .int x2), (3, .int x3)]) rfl ?_
  intro p e s m below meth c A F hE hA
  unfold f_X11_turn at hf
  refine sm_aload_n F dX11_turn_0 rfl 0 rfl ?_
  refine sm_iload_n F dX11_turn_1 rfl 1 rfl ?_
  obtain ⟨z2, hz2, hf⟩ := bd_some hf
  refine sm_callV (rest := []) F (ct_X11_isOne l D cI cZ cO a hz2) (cut_D_id cI cZ cO a u u) rfl rfl rfl qw5_110 qw5_112 qw0_37 qw1_12 qw5_113 hvX11_isOne ⟨Nat.le_of_ble_eq_true rfl, Nat.le_of_ble_eq_true rfl⟩ ⟨Nat.zero_le _, Nat.zero_le _⟩ 0 11 rfl rfl rfl rfl (Nat.le_of_ble_eq_true rfl) E0_b (fun _ _ _ _ _ _ => trivial) rfl dX11_turn_2 [.int z2] rfl ?_
  refine sm_if_ne (tgt := 12) F dX11_turn_5 (by decide) (fun c5 => ?_) (fun c5 => ?_)
  · replace hf := if_f c5 hf
    refine sm_iload_n F dX11_turn_12 rfl 2 rfl ?_
    refine sm_iconst F dX11_turn_13 kc_i_0 ?_
    refine sm_iconst F dX11_turn_14 kc_i_5 ?_
    obtain ⟨z15, hz15, hf⟩ := bd_some hf
    refine sm_callS (rest := []) F (ct_X11_isIn l D (tyL cI cZ cO) hz15) (cut_D_none cI cZ cO a u) rfl rfl rfl qw5_86 qw5_87 qw1_12 qw5_88 hsX11_isIn ⟨Nat.le_of_ble_eq_true rfl, Nat.le_of_ble_eq_true rfl⟩ ⟨Nat.zero_le _, Nat.zero_le _⟩ rfl (Nat.le_of_ble_eq_true rfl) E0_b (fun _ _ _ _ _ _ => trivial) rfl dX11_turn_15 [.int z15] rfl ?_
    refine sm_if_ne (tgt := 26) F dX11_turn_18 (by decide) (fun c18 => ?_) (fun c18 => ?_)
    · replace hf := if_f c18 hf
      refine sm_iload_n F dX11_turn_26 rfl 3 rfl ?_
      refine sm_iconst F dX11_turn_27 kc_i_0 ?_
      refine sm_bipush F dX11_turn_28 kc_b_9 ?_
      obtain ⟨z30, hz30, hf⟩ := bd_some hf
      refine sm_callS (rest := []) F (ct_X11_wrongBy l D (tyL cI cZ cO) hz30) (cut_D_none cI cZ cO a u) rfl rfl rfl qw5_159 qw5_160 qw1_12 qw5_161 hsX11_wrongBy ⟨Nat.le_of_ble_eq_true rfl, Nat.le_of_ble_eq_true rfl⟩ ⟨Nat.zero_le _, Nat.zero_le _⟩ rfl (Nat.le_of_ble_eq_true rfl) E0_b (fun _ _ _ _ _ _ => trivial) rfl dX11_turn_30 [.int z30] rfl ?_
      exact s_X11_turn_33 F x1 x2 x3 u z30 hf
    · replace hf := if_t c18 hf
      refine sm_bipush F dX11_turn_21 kc_b_m2 ?_
      refine sm_goto (tgt := 33) F dX11_turn_23 (by decide) ?_
      exact s_X11_turn_33 F x1 x2 x3 u ((-2) : Int32) hf
  · replace hf := if_t c5 hf
    refine sm_iconst F dX11_turn_8 kc_i_m1 ?_
    refine sm_goto (tgt := 33) F dX11_turn_9 (by decide) ?_
    exact s_X11_turn_33 F x1 x2 x3 u ((-1) : Int32) hf
/-! SoManyForgottenModel.weeks(I)I -/
abbrev rmX11_weeks : Room := { frames := 6, cells := 0, slots := 0, locals := 132 }
set_option maxRecDepth 100000 in
theorem hvX11_weeks : yX11_weeks.cls = RX11 ∧ yX11_weeks.cls ≠ "java/lang/invoke/MethodHandle" ∧ yX11_weeks.cls ≠ "java/lang/invoke/VarHandle" ∧ (parseMethodDescriptor yX11_weeks.desc).map (fun d => d.parameters.length) = some 1 := by decide +kernel
set_option maxRecDepth 100000 in
set_option maxHeartbeats 4000000 in
theorem s_X11_weeks_32 {p : Program} {l : Launch} {e : Env} {s : State} {m : MethodId} {args : Array Value} {below : List Frame} {meth : Method} {c : Code} {A : Nat → Prop} {D : va_G} {cI cZ cO : ClassId} {a : Nat → Nat} {r : Int32} {o : DS} (F : smF p s m args meth c cX11_weeks 2 (some .int) RX11 D (tyL cI cZ cO) A)   (u : DS) (hf : f_X11_weeks_32    u = some (r, o)) : Sm p l e rmX11_weeks s m args below meth c D A 2 0 0 (smQ below args s D A (some (.int r)) (wD cI cZ cO a o)) 32 [(0, .ref (a 0))] [] (wD cI cZ cO a u) := by
  unfold f_X11_weeks_32 at hf
  refine sm_aload_n F dX11_weeks_32 rfl 0 rfl ?_
  refine sm_bipush F dX11_weeks_33 kc_b_m6 ?_
  obtain ⟨z35, hz35, hf⟩ := bd_some hf
  refine sm_callV (rest := []) F (ct_X11_no l D cI cZ cO a hz35) (cut_D_id cI cZ cO a u z35.2) rfl rfl rfl qw5_59 qw5_61 qw0_29 qw1_12 qw5_62 hvX11_no ⟨Nat.le_of_ble_eq_true rfl, Nat.le_of_ble_eq_true rfl⟩ ⟨Nat.zero_le _, Nat.zero_le _⟩ 0 11 rfl rfl rfl rfl (Nat.le_of_ble_eq_true rfl) E0_b (fun _ _ _ _ _ _ => trivial) rfl dX11_weeks_35 [.int z35.1] rfl ?_
  exact sm_iret F dX11_weeks_38 (Prod.mk.inj (Option.some.inj hf)).1 (congrArg (fun z => (wD cI cZ cO a z)) (Prod.mk.inj (Option.some.inj hf)).2)
set_option maxRecDepth 100000 in
set_option maxHeartbeats 4000000 in
theorem ct_X11_weeks (l : Launch) (D : va_G) (cI cZ cO : ClassId) (a : Nat → Nat) {u : DS} {x1 : Int32} {r : Int32} {o : DS} (hf : f_X11_weeks u x1 = some (r, o)) : Ct l yX11_weeks (uw (Cond.code yX11_weeks cX11_weeks 2 (some .int))) rmX11_weeks D (tyL cI cZ cO) E0 [.ref (a 0), .int x1] (wD cI cZ cO a u) (some (.int r)) (wD cI cZ cO a o) := by
  refine sm_start (cc := cX11_weeks) (maxL := 2) (ret := (some .int)) (own := RX11) (by decide) rfl rfl (Nat.le_of_ble_eq_true rfl) (lv := [(0, .ref (a 0)), (1, .int x1)]) rfl ?_
  intro p e s m below meth c A F hE hA
  unfold f_X11_weeks at hf
  refine sm_iload_n F dX11_weeks_0 rfl 1 rfl ?_
  refine sm_iconst F dX11_weeks_1 kc_i_1 ?_
  refine sm_icmp_ge (tgt := 12) F dX11_weeks_2 (by decide) (fun c2 => ?_) (fun c2 => ?_)
  · replace hf := if_t c2 hf
    refine sm_iload_n F dX11_weeks_12 rfl 1 rfl ?_
    refine sm_bipush F dX11_weeks_13 kc_b_60 ?_
    refine sm_icmp_gt (tgt := 32) F dX11_weeks_15 (by decide) (fun c15 => ?_) (fun c15 => ?_)
    · replace hf := if_t c15 hf
      refine sm_sub (lv' := [(0, .ref (a 0))]) [0] rfl ?_
      exact s_X11_weeks_32 F  u hf
    · replace hf := if_f c15 hf
      refine sm_aload_n F dX11_weeks_18 rfl 0 rfl ?_
      refine sm_get (v := .ref (a 1)) F inX11 0 rfl rfl 0 (by decide) qw5_15 rfl rfl dX11_weeks_19 ?_
      refine sm_iconst F dX11_weeks_22 kc_i_1 ?_
      obtain ⟨h23, hf⟩ := ck_some hf
      refine sm_iald F 1 0 rfl rfl h23 dX11_weeks_23 ?_
      refine sm_iload_n F dX11_weeks_24 rfl 1 rfl ?_
      refine sm_iadd F dX11_weeks_25 ?_
      refine sm_sipush F dX11_weeks_26 kc_s_999 ?_
      refine sm_icmp_le (tgt := 39) F dX11_weeks_29 (by decide) (fun c29 => ?_) (fun c29 => ?_)
      · replace hf := if_t c29 hf
        refine sm_aload_n F dX11_weeks_39 rfl 0 rfl ?_
        refine sm_get (v := .ref (a 1)) F inX11 0 rfl rfl 0 (by decide) qw5_15 rfl rfl dX11_weeks_40 ?_
        refine sm_iload_n F dX11_weeks_43 rfl 1 rfl ?_
        obtain ⟨z44, hz44, hf⟩ := bd_some hf
        refine sm_callS (rest := []) F (ct_X11_weeksOn l D cI cZ cO (fun i => a (pm_D_i1 i)) hz44) (cut_D_i1 cI cZ cO a u z44) rfl rfl rfl qw5_126 qw5_127 qw1_12 qw5_128 hsX11_weeksOn ⟨Nat.le_of_ble_eq_true rfl, Nat.le_of_ble_eq_true rfl⟩ ⟨Nat.zero_le _, Nat.zero_le _⟩ rfl (Nat.le_of_ble_eq_true rfl) E0_b (fun _ _ _ _ _ _ => trivial) rfl dX11_weeks_44 [] rfl ?_
        refine sm_aload_n F dX11_weeks_47 rfl 0 rfl ?_
        refine sm_get (v := .ref (a 1)) F inX11 0 rfl rfl 0 (by decide) qw5_15 rfl rfl dX11_weeks_48 ?_
        obtain ⟨z51, hz51, hf⟩ := bd_some hf
        refine sm_callS (rest := []) F (ct_X11_hereIn l D cI cZ cO (fun i => a (pm_D_i1 i)) hz51) (cut_D_i1_ro cI cZ cO a (sD_s u z44)) rfl rfl rfl qw5_174 qw5_175 qw1_12 qw5_176 hsX11_hereIn ⟨Nat.le_of_ble_eq_true rfl, Nat.le_of_ble_eq_true rfl⟩ ⟨Nat.zero_le _, Nat.zero_le _⟩ rfl (Nat.le_of_ble_eq_true rfl) E0_b (fun _ _ _ _ _ _ => trivial) rfl dX11_weeks_51 [.int z51] rfl ?_
        obtain ⟨z54, hz54, hf⟩ := bd_some hf
        refine sm_callS (rest := []) F (ct_X11_bits l D (tyL cI cZ cO) hz54) (cut_D_none cI cZ cO a (sD_s u z44)) rfl rfl rfl qw5_177 qw5_178 qw1_12 qw5_179 hsX11_bits ⟨Nat.le_of_ble_eq_true rfl, Nat.le_of_ble_eq_true rfl⟩ ⟨Nat.zero_le _, Nat.zero_le _⟩ rfl (Nat.le_of_ble_eq_true rfl) E0_b (fun _ _ _ _ _ _ => trivial) rfl dX11_weeks_54 [.int z54] rfl ?_
        exact sm_iret F dX11_weeks_57 (Prod.mk.inj (Option.some.inj hf)).1 (congrArg (fun z => (wD cI cZ cO a z)) (Prod.mk.inj (Option.some.inj hf)).2)
      · replace hf := if_f c29 hf
        refine sm_sub (lv' := [(0, .ref (a 0))]) [0] rfl ?_
        exact s_X11_weeks_32 F  u hf
  · replace hf := if_f c2 hf
    refine sm_aload_n F dX11_weeks_5 rfl 0 rfl ?_
    refine sm_bipush F dX11_weeks_6 kc_b_m4 ?_
    obtain ⟨z8, hz8, hf⟩ := bd_some hf
    refine sm_callV (rest := []) F (ct_X11_no l D cI cZ cO a hz8) (cut_D_id cI cZ cO a u z8.2) rfl rfl rfl qw5_59 qw5_61 qw0_29 qw1_12 qw5_62 hvX11_no ⟨Nat.le_of_ble_eq_true rfl, Nat.le_of_ble_eq_true rfl⟩ ⟨Nat.zero_le _, Nat.zero_le _⟩ 0 11 rfl rfl rfl rfl (Nat.le_of_ble_eq_true rfl) E0_b (fun _ _ _ _ _ _ => trivial) rfl dX11_weeks_8 [.int z8.1] rfl ?_
    exact sm_iret F dX11_weeks_11 (Prod.mk.inj (Option.some.inj hf)).1 (congrArg (fun z => (wD cI cZ cO a z)) (Prod.mk.inj (Option.some.inj hf)).2)
/-! SoManyForgottenModel.takes(I)V -/
abbrev rmX11_takes : Room := { frames := 6, cells := 0, slots := 0, locals := 132 }
set_option maxRecDepth 100000 in
theorem hvX11_takes : yX11_takes.cls = RX11 ∧ yX11_takes.cls ≠ "java/lang/invoke/MethodHandle" ∧ yX11_takes.cls ≠ "java/lang/invoke/VarHandle" ∧ (parseMethodDescriptor yX11_takes.desc).map (fun d => d.parameters.length) = some 1 := by decide +kernel
set_option maxRecDepth 100000 in
set_option maxHeartbeats 4000000 in
theorem ct_X11_takes (l : Launch) (D : va_G) (cI cZ cO : ClassId) (a : Nat → Nat) {u : DS} {x1 : Int32} {o : DS} (hf : f_X11_takes u x1 = some o) : Ct l yX11_takes (uw (Cond.code yX11_takes cX11_takes 2 none)) rmX11_takes D (tyL cI cZ cO) E0 [.ref (a 0), .int x1] (wD cI cZ cO a u) none (wD cI cZ cO a o) := by
  refine sm_start (cc := cX11_takes) (maxL := 2) (ret := none) (own := RX11) (by decide) rfl rfl (Nat.le_of_ble_eq_true rfl) (lv := [(0, .ref (a 0)), (1, .int x1)]) rfl ?_
  intro p e s m below meth c A F hE hA
  unfold f_X11_takes at hf
  refine sm_aload_n F dX11_takes_0 rfl 0 rfl ?_
  refine sm_get (v := .ref (a 1)) F inX11 0 rfl rfl 0 (by decide) qw5_15 rfl rfl dX11_takes_1 ?_
  refine sm_aload_n F dX11_takes_4 rfl 0 rfl ?_
  refine sm_get (v := .ref (a 2)) F inX11 0 rfl rfl 1 (by decide) qw5_16 rfl rfl dX11_takes_5 ?_
  obtain ⟨z8, hz8, hf⟩ := bd_some hf
  refine sm_callS (rest := []) F (ct_X11_copies l D cI cZ cO (fun i => a (pm_D_ii1_2 i)) hz8) (cut_D_ii1_2 cI cZ cO a u z8) rfl rfl rfl qw5_89 qw5_90 qw1_12 qw5_91 hsX11_copies ⟨Nat.le_of_ble_eq_true rfl, Nat.le_of_ble_eq_true rfl⟩ ⟨Nat.zero_le _, Nat.zero_le _⟩ rfl (Nat.le_of_ble_eq_true rfl) E0_b (fun _ _ _ _ _ _ => trivial) rfl dX11_takes_8 [] rfl ?_
  refine sm_aload_n F dX11_takes_11 rfl 0 rfl ?_
  refine sm_get (v := .ref (a 2)) F inX11 0 rfl rfl 1 (by decide) qw5_16 rfl rfl dX11_takes_12 ?_
  refine sm_iload_n F dX11_takes_15 rfl 1 rfl ?_
  obtain ⟨z16, hz16, hf⟩ := bd_some hf
  refine sm_callS (rest := []) F (ct_X11_weeksOn l D cI cZ cO (fun i => a (pm_D_i2 i)) hz16) (cut_D_i2 cI cZ cO a (sD_m (sD_s u z8.1) z8.2) z16) rfl rfl rfl qw5_126 qw5_127 qw1_12 qw5_128 hsX11_weeksOn ⟨Nat.le_of_ble_eq_true rfl, Nat.le_of_ble_eq_true rfl⟩ ⟨Nat.zero_le _, Nat.zero_le _⟩ rfl (Nat.le_of_ble_eq_true rfl) E0_b (fun _ _ _ _ _ _ => trivial) rfl dX11_takes_16 [] rfl ?_
  exact sm_vret F dX11_takes_19 (congrArg (fun z => (wD cI cZ cO a z)) (Option.some.inj hf))
