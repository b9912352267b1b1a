/-! SoManyForgotten$Valley.copy(LSoManyForgotten$Valley;)V -/
abbrev rmX8_copy : Room := { frames := 1, cells := 0, slots := 0, locals := 40 }
set_option maxRecDepth 100000 in
theorem hvX8_copy : yX8_copy.cls = RX8 ∧ yX8_copy.cls ≠ "java/lang/invoke/MethodHandle" ∧ yX8_copy.cls ≠ "java/lang/invoke/VarHandle" ∧ (parseMethodDescriptor yX8_copy.desc).map (fun d => d.parameters.length) = some 1 := by decide +kernel
set_option maxRecDepth 100000 in
set_option maxHeartbeats 4000000 in
theorem s_X8_copy_47_b {p : Program} {l : Launch} {e : Env} {s : State} {m : MethodId} {args : Array Value} {below : List Frame} {meth : Method} {c : Code} {A : Nat → Prop} {D : va_G} {cI cZ cO : ClassId} {a : Nat → Nat} {o : VS × VS} (F : smF p s m args meth c cX8_copy 3 none RX8 D (tyL cI cZ cO) A)  (k47 : (VS × VS) → Int32 → Option (VS × VS)) (hk47 : ∀ (u' : VS × VS) (x2' : Int32), k47 u' x2' = some o → Sm p l e rmX8_copy s m args below meth c D A 3 0 0 (smQ below args s D A none (wVV cI cZ cO a o)) 47 [(0, .ref (a 0)), (1, .ref (a 6)), (2, .int x2')] [] (wVV cI cZ cO a u')) (u : VS × VS) (x2 : Int32) (hf : b_X8_copy_47   k47 u x2 = some o) : Sm p l e rmX8_copy s m args below meth c D A 3 0 0 (smQ below args s D A none (wVV cI cZ cO a o)) 47 [(0, .ref (a 0)), (1, .ref (a 6)), (2, .int x2)] [] (wVV cI cZ cO a u) := by
  unfold b_X8_copy_47 at hf
  refine sm_iload_n F dX8_copy_47 rfl 2 rfl ?_
  refine sm_bipush F dX8_copy_48 kc_b_8 ?_
  refine sm_icmp_ge (tgt := 71) F dX8_copy_50 (by decide) (fun c50 => ?_) (fun c50 => ?_)
  · replace hf := if_t c50 hf
    refine sm_aload_n F dX8_copy_71 rfl 1 rfl ?_
    refine sm_get (v := .ref (a 11)) F inX8 6 rfl rfl 5 (by decide) qw1_93 rfl rfl dX8_copy_72 ?_
    refine sm_iconst F dX8_copy_75 kc_i_0 ?_
    refine sm_aload_n F dX8_copy_76 rfl 0 rfl ?_
    refine sm_get (v := .ref (a 5)) F inX8 0 rfl rfl 5 (by decide) qw1_93 rfl rfl dX8_copy_77 ?_
    refine sm_iconst F dX8_copy_80 kc_i_0 ?_
    refine sm_bipush F dX8_copy_81 kc_b_64 ?_
    refine sm_copyi F qw2_4 qw2_6 qw2_5 qw1_13 11 5 0 0 rfl rfl rfl rfl (by decide) (by decide) (by decide) (by decide) (by decide) (Nat.le_of_ble_eq_true rfl) (Nat.le_of_ble_eq_true rfl) (wVV cI cZ cO a (sV_mem u.1 (va_cpy (gV_mem u.2) (gV_mem u.1) (Int32.toNatClampNeg (0 : Int32)) (Int32.toNatClampNeg (0 : Int32)) (Int32.toNatClampNeg (64 : Int32))), u.2)) rfl dX8_copy_83 ?_
    obtain ⟨u83, hu83, hf⟩ := bd_some hf
    refine sm_ws (ws' := (wVV cI cZ cO a u83)) (congrArg (fun z => (wVV cI cZ cO a z)) (Option.some.inj hu83)) ?_
    refine sm_aload_n F dX8_copy_86 rfl 0 rfl ?_
    refine sm_aload_n F dX8_copy_87 rfl 1 rfl ?_
    refine sm_get (v := .int (gV_people u83.2)) F inX8 6 rfl rfl 6 (by decide) qw1_94 rfl rfl dX8_copy_88 ?_
    refine sm_put F inX8 tyX8 tyX8_ok nmX8 0 rfl rfl 6 (by decide) qw1_94 rfl rfl rfl rfl (Nat.le_of_ble_eq_true rfl) (wVV cI cZ cO a (sV_people u83.1 (gV_people u83.2), u83.2)) rfl dX8_copy_91 ?_
    refine sm_aload_n F dX8_copy_94 rfl 0 rfl ?_
    refine sm_aload_n F dX8_copy_95 rfl 1 rfl ?_
    refine sm_get (v := .int (gV_names (sV_people u83.1 (gV_people u83.2), u83.2).2)) F inX8 6 rfl rfl 7 (by decide) qw1_98 rfl rfl dX8_copy_96 ?_
    refine sm_put F inX8 tyX8 tyX8_ok nmX8 0 rfl rfl 7 (by decide) qw1_98 rfl rfl rfl rfl (Nat.le_of_ble_eq_true rfl) (wVV cI cZ cO a (sV_names (sV_people u83.1 (gV_people u83.2), u83.2).1 (gV_names (sV_people u83.1 (gV_people u83.2), u83.2).2), (sV_people u83.1 (gV_people u83.2), u83.2).2)) rfl dX8_copy_99 ?_
    obtain ⟨u99, hu99, hf⟩ := bd_some hf
    refine sm_ws (ws' := (wVV cI cZ cO a u99)) (congrArg (fun z => (wVV cI cZ cO a z)) (Option.some.inj hu99)) ?_
    refine sm_aload_n F dX8_copy_102 rfl 0 rfl ?_
    refine sm_aload_n F dX8_copy_103 rfl 1 rfl ?_
    refine sm_get (v := .int (gV_week u99.2)) F inX8 6 rfl rfl 8 (by decide) qw1_101 rfl rfl dX8_copy_104 ?_
    refine sm_put F inX8 tyX8 tyX8_ok nmX8 0 rfl rfl 8 (by decide) qw1_101 rfl rfl rfl rfl (Nat.le_of_ble_eq_true rfl) (wVV cI cZ cO a (sV_week u99.1 (gV_week u99.2), u99.2)) rfl dX8_copy_107 ?_
    exact sm_vret F dX8_copy_110 (congrArg (fun z => (wVV cI cZ cO a z)) (Option.some.inj hf))
  · replace hf := if_f c50 hf
    refine sm_aload_n F dX8_copy_53 rfl 0 rfl ?_
    refine sm_get (v := .ref (a 4)) F inX8 0 rfl rfl 4 (by decide) qw1_89 rfl rfl dX8_copy_54 ?_
    refine sm_iload_n F dX8_copy_57 rfl 2 rfl ?_
    refine sm_aload_n F dX8_copy_58 rfl 1 rfl ?_
    refine sm_get (v := .ref (a 10)) F inX8 6 rfl rfl 4 (by decide) qw1_89 rfl rfl dX8_copy_59 ?_
    refine sm_iload_n F dX8_copy_62 rfl 2 rfl ?_
    obtain ⟨h63, hf⟩ := ck_some hf
    refine sm_zald F 10 1 rfl rfl h63 dX8_copy_63 ?_
    obtain ⟨h64, hf⟩ := ck_some hf
    refine sm_zast F 4 1 rfl rfl h64 (wVV cI cZ cO a (sV_here u.1 (upd (gV_here u.1) (Int32.toNatClampNeg x2) (vp_nar .boolean ((gV_here u.2) (Int32.toNatClampNeg x2)))), u.2)) rfl dX8_copy_64 ?_
    obtain ⟨u64, hu64, hf⟩ := bd_some hf
    refine sm_ws (ws' := (wVV cI cZ cO a u64)) (congrArg (fun z => (wVV cI cZ cO a z)) (Option.some.inj hu64)) ?_
    refine sm_iinc F [(0, .ref (a 0)), (1, .ref (a 6)), (2, .int (x2 + 1))] 2 [1, 2, 0] dX8_copy_65 rfl kc_i_1 (by decide) rfl ?_
    refine sm_goto (tgt := 47) F dX8_copy_68 (by decide) ?_
    exact hk47 u64 (x2 + 1) hf
set_option maxRecDepth 100000 in
set_option maxHeartbeats 4000000 in
theorem s_X8_copy_47 {p : Program} {l : Launch} {e : Env} {s : State} {m : MethodId} {args : Array Value} {below : List Frame} {meth : Method} {c : Code} {A : Nat → Prop} {D : va_G} {cI cZ cO : ClassId} {a : Nat → Nat} {o : VS × VS} (F : smF p s m args meth c cX8_copy 3 none RX8 D (tyL cI cZ cO) A)   (n : Nat) (u : VS × VS) (x2 : Int32) (hf : f_X8_copy_47   n u x2 = some o) : Sm p l e rmX8_copy s m args below meth c D A 3 0 0 (smQ below args s D A none (wVV cI cZ cO a o)) 47 [(0, .ref (a 0)), (1, .ref (a 6)), (2, .int x2)] [] (wVV cI cZ cO a u) :=
  lq2_ind (P := fun (u : VS × VS) (x2 : Int32) => Sm p l e rmX8_copy s m args below meth c D A 3 0 0 (smQ below args s D A none (wVV cI cZ cO a o)) 47 [(0, .ref (a 0)), (1, .ref (a 6)), (2, .int x2)] [] (wVV cI cZ cO a u)) (fun k47 hk47 u x2 h9 => s_X8_copy_47_b F   k47 hk47 u x2 h9) n u x2 hf
set_option maxRecDepth 100000 in
set_option maxHeartbeats 4000000 in
theorem ct_X8_copy (l : Launch) (D : va_G) (cI cZ cO : ClassId) (a : Nat → Nat) {u : VS × VS} {o : VS × VS} (hf : f_X8_copy u = some o) : Ct l yX8_copy (uw (Cond.code yX8_copy cX8_copy 3 none)) rmX8_copy D (tyL cI cZ cO) E0 [.ref (a 0), .ref (a 6)] (wVV cI cZ cO a u) none (wVV cI cZ cO a o) := by
  refine sm_start (cc := cX8_copy) (maxL := 3) (ret := none) (own := RX8) (by decide) rfl rfl (Nat.le_of_ble_eq_true rfl) (lv := [(0, .ref (a 0)), (1, .ref (a 6))]) rfl ?_
  intro p e s m below meth c A F hE hA
  unfold f_X8_copy at hf
  refine sm_aload_n F dX8_copy_0 rfl 1 rfl ?_
  refine sm_get (v := .ref (a 7)) F inX8 6 rfl rfl 1 (by decide) qw1_79 rfl rfl dX8_copy_1 ?_
  refine sm_iconst F dX8_copy_4 kc_i_0 ?_
  refine sm_aload_n F dX8_copy_5 rfl 0 rfl ?_
  refine sm_get (v := .ref (a 1)) F inX8 0 rfl rfl 1 (by decide) qw1_79 rfl rfl dX8_copy_6 ?_
  refine sm_iconst F dX8_copy_9 kc_i_0 ?_
  refine sm_bipush F dX8_copy_10 kc_b_8 ?_
  refine sm_copyi F qw2_4 qw2_6 qw2_5 qw1_13 7 1 0 0 rfl rfl rfl rfl (by decide) (by decide) (by decide) (by decide) (by decide) (Nat.le_of_ble_eq_true rfl) (Nat.le_of_ble_eq_true rfl) (wVV cI cZ cO a (sV_kind u.1 (va_cpy (gV_kind u.2) (gV_kind u.1) (Int32.toNatClampNeg (0 : Int32)) (Int32.toNatClampNeg (0 : Int32)) (Int32.toNatClampNeg (8 : Int32))), u.2)) rfl dX8_copy_12 ?_
  obtain ⟨u12, hu12, hf⟩ := bd_some hf
  refine sm_ws (ws' := (wVV cI cZ cO a u12)) (congrArg (fun z => (wVV cI cZ cO a z)) (Option.some.inj hu12)) ?_
  refine sm_aload_n F dX8_copy_15 rfl 1 rfl ?_
  refine sm_get (v := .ref (a 8)) F inX8 6 rfl rfl 2 (by decide) qw1_82 rfl rfl dX8_copy_16 ?_
  refine sm_iconst F dX8_copy_19 kc_i_0 ?_
  refine sm_aload_n F dX8_copy_20 rfl 0 rfl ?_
  refine sm_get (v := .ref (a 2)) F inX8 0 rfl rfl 2 (by decide) qw1_82 rfl rfl dX8_copy_21 ?_
  refine sm_iconst F dX8_copy_24 kc_i_0 ?_
  refine sm_bipush F dX8_copy_25 kc_b_8 ?_
  refine sm_copyi F qw2_4 qw2_6 qw2_5 qw1_13 8 2 0 0 rfl rfl rfl rfl (by decide) (by decide) (by decide) (by decide) (by decide) (Nat.le_of_ble_eq_true rfl) (Nat.le_of_ble_eq_true rfl) (wVV cI cZ cO a (sV_fig u12.1 (va_cpy (gV_fig u12.2) (gV_fig u12.1) (Int32.toNatClampNeg (0 : Int32)) (Int32.toNatClampNeg (0 : Int32)) (Int32.toNatClampNeg (8 : Int32))), u12.2)) rfl dX8_copy_27 ?_
  obtain ⟨u27, hu27, hf⟩ := bd_some hf
  refine sm_ws (ws' := (wVV cI cZ cO a u27)) (congrArg (fun z => (wVV cI cZ cO a z)) (Option.some.inj hu27)) ?_
  refine sm_aload_n F dX8_copy_30 rfl 1 rfl ?_
  refine sm_get (v := .ref (a 9)) F inX8 6 rfl rfl 3 (by decide) qw1_85 rfl rfl dX8_copy_31 ?_
  refine sm_iconst F dX8_copy_34 kc_i_0 ?_
  refine sm_aload_n F dX8_copy_35 rfl 0 rfl ?_
  refine sm_get (v := .ref (a 3)) F inX8 0 rfl rfl 3 (by decide) qw1_85 rfl rfl dX8_copy_36 ?_
  refine sm_iconst F dX8_copy_39 kc_i_0 ?_
  refine sm_bipush F dX8_copy_40 kc_b_8 ?_
  refine sm_copyi F qw2_4 qw2_6 qw2_5 qw1_13 9 3 0 0 rfl rfl rfl rfl (by decide) (by decide) (by decide) (by decide) (by decide) (Nat.le_of_ble_eq_true rfl) (Nat.le_of_ble_eq_true rfl) (wVV cI cZ cO a (sV_owed u27.1 (va_cpy (gV_owed u27.2) (gV_owed u27.1) (Int32.toNatClampNeg (0 : Int32)) (Int32.toNatClampNeg (0 : Int32)) (Int32.toNatClampNeg (8 : Int32))), u27.2)) rfl dX8_copy_42 ?_
  obtain ⟨u42, hu42, hf⟩ := bd_some hf
  refine sm_ws (ws' := (wVV cI cZ cO a u42)) (congrArg (fun z => (wVV cI cZ cO a z)) (Option.some.inj hu42)) ?_
  refine sm_iconst F dX8_copy_45 kc_i_0 ?_
  refine sm_istore_n F [(0, .ref (a 0)), (1, .ref (a 6)), (2, .int (0 : Int32))] [1, 2, 0] dX8_copy_46 rfl (by decide) rfl ?_
  exact s_X8_copy_47 F  smN u42 (0 : Int32) hf
/-! SoManyForgotten$Valley.addMemory(III)V -/
abbrev rmX8_addMemory : Room := { frames := 1, cells := 0, slots := 0, locals := 24 }
set_option maxRecDepth 100000 in
theorem hvX8_addMemory : yX8_addMemory.cls = RX8 ∧ yX8_addMemory.cls ≠ "java/lang/invoke/MethodHandle" ∧ yX8_addMemory.cls ≠ "java/lang/invoke/VarHandle" ∧ (parseMethodDescriptor yX8_addMemory.desc).map (fun d => d.parameters.length) = some 3 := by decide +kernel
set_option maxRecDepth 100000 in
set_option maxHeartbeats 4000000 in
theorem ct_X8_addMemory (l : Launch) (D : va_G) (cI cZ cO : ClassId) (a : Nat → Nat) {u : VS} {x1 : Int32} {x2 : Int32} {x3 : Int32} {o : VS} (hf : f_X8_addMemory u x1 x2 x3 = some o) : Ct l yX8_addMemory (uw (Cond.code yX8_addMemory cX8_addMemory 6 none)) rmX8_addMemory D (tyL cI cZ cO) E0 [.ref (a 0), .int x1, .int x2, .int x3] (wV cI cZ cO a u) none (wV cI cZ cO a o) := by
  refine sm_start (cc := cX8_addMemory) (maxL := 6) (ret := none) (own := RX8) (by decide) rfl rfl (Nat.le_of_ble_eq_true rfl) (lv := [(0, .ref (a 0)), (1, .int x1), (2, .int x2), (3, .int x3)]) rfl ?_
  intro p e s m below meth c A F hE hA
  unfold f_X8_addMemory at hf
  refine sm_iload_n F dX8_addMemory_0 rfl 1 rfl ?_
  refine sm_bipush F dX8_addMemory_1 kc_b_8 ?_
  refine sm_imul F dX8_addMemory_3 ?_
  refine sm_iload_n F dX8_addMemory_4 rfl 2 rfl ?_
  refine sm_iadd F dX8_addMemory_5 ?_
  refine sm_istore F [(0, .ref (a 0)), (3, .int x3), (4, .int ((x1 * (8 : Int32)) + x2))] [1, 4, 0] dX8_addMemory_6 (by decide) rfl ?_
  refine sm_aload_n F dX8_addMemory_8 rfl 0 rfl ?_
  refine sm_get (v := .ref (a 5)) F inX8 0 rfl rfl 5 (by decide) qw1_93 rfl rfl dX8_addMemory_9 ?_
  refine sm_iload F dX8_addMemory_12 2 rfl ?_
  obtain ⟨h14, hf⟩ := ck_some hf
  refine sm_iald F 5 0 rfl rfl h14 dX8_addMemory_14 ?_
  refine sm_iload_n F dX8_addMemory_15 rfl 1 rfl ?_
  refine sm_iadd F dX8_addMemory_16 ?_
  refine sm_istore F [(0, .ref (a 0)), (4, .int ((x1 * (8 : Int32)) + x2)), (5, .int (((gV_mem u) (Int32.toNatClampNeg ((x1 * (8 : Int32)) + x2))) + x3))] [1, 3, 0] dX8_addMemory_17 (by decide) rfl ?_
  refine sm_aload_n F dX8_addMemory_19 rfl 0 rfl ?_
  refine sm_get (v := .ref (a 5)) F inX8 0 rfl rfl 5 (by decide) qw1_93 rfl rfl dX8_addMemory_20 ?_
  refine sm_iload F dX8_addMemory_23 1 rfl ?_
  refine sm_iload F dX8_addMemory_25 2 rfl ?_
  refine sm_if_ge (tgt := 34) F dX8_addMemory_27 (by decide) (fun c27 => ?_) (fun c27 => ?_)
  · replace hf := if_t c27 hf
    refine sm_iload F dX8_addMemory_34 2 rfl ?_
    refine sm_bipush F dX8_addMemory_36 kc_b_99 ?_
    refine sm_mmin F qw2_204 qw2_101 qw1_18 qw2_102 (Nat.le_of_ble_eq_true rfl) (Nat.le_of_ble_eq_true rfl) (Nat.zero_le _) (Nat.zero_le _) dX8_addMemory_38 ?_
    obtain ⟨v41, hv41, hf⟩ := bd_some hf
    refine sm_topi (Option.some.inj hv41) ?_
    obtain ⟨h41, hf⟩ := ck_some hf
    refine sm_iast F 5 0 rfl rfl h41 (wV cI cZ cO a (sV_mem u (upd (gV_mem u) (Int32.toNatClampNeg ((x1 * (8 : Int32)) + x2)) v41))) rfl dX8_addMemory_41 ?_
    exact sm_vret F dX8_addMemory_42 (congrArg (fun z => (wV cI cZ cO a z)) (Option.some.inj hf))
  · replace hf := if_f c27 hf
    refine sm_iconst F dX8_addMemory_30 kc_i_0 ?_
    refine sm_goto (tgt := 41) F dX8_addMemory_31 (by decide) ?_
    obtain ⟨h41, hf⟩ := ck_some hf
    refine sm_iast F 5 0 rfl rfl h41 (wV cI cZ cO a (sV_mem u (upd (gV_mem u) (Int32.toNatClampNeg ((x1 * (8 : Int32)) + x2)) (0 : Int32)))) rfl dX8_addMemory_41 ?_
    exact sm_vret F dX8_addMemory_42 (congrArg (fun z => (wV cI cZ cO a z)) (Option.some.inj hf))
/-! SoManyForgotten$Valley.rememberMore(II)V -/
abbrev rmX8_rememberMore : Room := { frames := 2, cells := 0, slots := 0, locals := 49 }
set_option maxRecDepth 100000 in
theorem hvX8_rememberMore : yX8_rememberMore.cls = RX8 ∧ yX8_rememberMore.cls ≠ "java/lang/invoke/MethodHandle" ∧ yX8_rememberMore.cls ≠ "java/lang/invoke/VarHandle" ∧ (parseMethodDescriptor yX8_rememberMore.desc).map (fun d => d.parameters.length) = some 2 := by decide +kernel
set_option maxRecDepth 100000 in
set_option maxHeartbeats 4000000 in
theorem s_X8_rememberMore_2_b {p : Program} {l : Launch} {e : Env} {s : State} {m : MethodId} {args : Array Value} {below : List Frame} {meth : Method} {c : Code} {A : Nat → Prop} {D : va_G} {cI cZ cO : ClassId} {a : Nat → Nat} {o : VS} (F : smF p s m args meth c cX8_rememberMore 4 none RX8 D (tyL cI cZ cO) A) (x1 : Int32) (x2 : Int32) (k2 : VS → Int32 → Option (VS)) (hk2 : ∀ (u' : VS) (x3' : Int32), k2 u' x3' = some o → Sm p l e rmX8_rememberMore s m args below meth c D A 4 0 0 (smQ below args s D A none (wV cI cZ cO a o)) 2 [(0, .ref (a 0)), (1, .int x1), (2, .int x2), (3, .int x3')] [] (wV cI cZ cO a u')) (u : VS) (x3 : Int32) (hf : b_X8_rememberMore_2 x1 x2  k2 u x3 = some o) : Sm p l e rmX8_rememberMore s m args below meth c D A 4 0 0 (smQ below args s D A none (wV cI cZ cO a o)) 2 [(0, .ref (a 0)), (1, .int x1), (2, .int x2), (3, .int x3)] [] (wV cI cZ cO a u) := by
  unfold b_X8_rememberMore_2 at hf
  refine sm_iload_n F dX8_rememberMore_2 rfl 3 rfl ?_
  refine sm_aload_n F dX8_rememberMore_3 rfl 0 rfl ?_
  refine sm_get (v := .int (gV_people u)) F inX8 0 rfl rfl 6 (by decide) qw1_94 rfl rfl dX8_rememberMore_4 ?_
  refine sm_icmp_ge (tgt := 37) F dX8_rememberMore_7 (by decide) (fun c7 => ?_) (fun c7 => ?_)
  · replace hf := if_t c7 hf
    exact sm_vret F dX8_rememberMore_37 (congrArg (fun z => (wV cI cZ cO a z)) (Option.some.inj hf))
  · replace hf := if_f c7 hf
    refine sm_iload_n F dX8_rememberMore_10 rfl 3 rfl ?_
    refine sm_iload_n F dX8_rememberMore_11 rfl 1 rfl ?_
    refine sm_icmp_eq (tgt := 31) F dX8_rememberMore_12 (by decide) (fun c12 => ?_) (fun c12 => ?_)
    · replace hf := if_t c12 hf
      refine sm_iinc F [(0, .ref (a 0)), (1, .int x1), (2, .int x2), (3, .int (x3 + 1))] 3 [1, 2, 3, 0] dX8_rememberMore_31 rfl kc_i_1 (by decide) rfl ?_
      refine sm_goto (tgt := 2) F dX8_rememberMore_34 (by decide) ?_
      exact hk2 u (x3 + 1) hf
    · replace hf := if_f c12 hf
      refine sm_aload_n F dX8_rememberMore_15 rfl 0 rfl ?_
      refine sm_get (v := .ref (a 4)) F inX8 0 rfl rfl 4 (by decide) qw1_89 rfl rfl dX8_rememberMore_16 ?_
      refine sm_iload_n F dX8_rememberMore_19 rfl 3 rfl ?_
      obtain ⟨h20, hf⟩ := ck_some hf
      refine sm_zald F 4 1 rfl rfl h20 dX8_rememberMore_20 ?_
      refine sm_if_eq (tgt := 31) F dX8_rememberMore_21 (by decide) (fun c21 => ?_) (fun c21 => ?_)
      · replace hf := if_t c21 hf
        refine sm_iinc F [(0, .ref (a 0)), (1, .int x1), (2, .int x2), (3, .int (x3 + 1))] 3 [1, 2, 3, 0] dX8_rememberMore_31 rfl kc_i_1 (by decide) rfl ?_
        refine sm_goto (tgt := 2) F dX8_rememberMore_34 (by decide) ?_
        exact hk2 u (x3 + 1) hf
      · replace hf := if_f c21 hf
        refine sm_aload_n F dX8_rememberMore_24 rfl 0 rfl ?_
        refine sm_iload_n F dX8_rememberMore_25 rfl 3 rfl ?_
        refine sm_iload_n F dX8_rememberMore_26 rfl 1 rfl ?_
        refine sm_iload_n F dX8_rememberMore_27 rfl 2 rfl ?_
        obtain ⟨z28, hz28, hf⟩ := bd_some hf
        refine sm_callV (rest := []) F (ct_X8_addMemory l D cI cZ cO a hz28) (cut_V_id cI cZ cO a u z28) rfl rfl rfl qw2_200 qw2_202 qw0_8 qw1_8 qw2_203 hvX8_addMemory ⟨Nat.le_of_ble_eq_true rfl, Nat.le_of_ble_eq_true rfl⟩ ⟨Nat.zero_le _, Nat.zero_le _⟩ 0 8 rfl rfl rfl rfl (Nat.le_of_ble_eq_true rfl) E0_b (fun _ _ _ _ _ _ => trivial) rfl dX8_rememberMore_28 [] rfl ?_
        refine sm_iinc F [(0, .ref (a 0)), (1, .int x1), (2, .int x2), (3, .int (x3 + 1))] 3 [1, 2, 3, 0] dX8_rememberMore_31 rfl kc_i_1 (by decide) rfl ?_
        refine sm_goto (tgt := 2) F dX8_rememberMore_34 (by decide) ?_
        exact hk2 z28 (x3 + 1) hf
set_option maxRecDepth 100000 in
set_option maxHeartbeats 4000000 in
theorem s_X8_rememberMore_2 {p : Program} {l : Launch} {e : Env} {s : State} {m : MethodId} {args : Array Value} {below : List Frame} {meth : Method} {c : Code} {A : Nat → Prop} {D : va_G} {cI cZ cO : ClassId} {a : Nat → Nat} {o : VS} (F : smF p s m args meth c cX8_rememberMore 4 none RX8 D (tyL cI cZ cO) A) (x1 : Int32) (x2 : Int32)  (n : Nat) (u : VS) (x3 : Int32) (hf : f_X8_rememberMore_2 x1 x2  n u x3 = some o) : Sm p l e rmX8_rememberMore s m args below meth c D A 4 0 0 (smQ below args s D A none (wV cI cZ cO a o)) 2 [(0, .ref (a 0)), (1, .int x1), (2, .int x2), (3, .int x3)] [] (wV cI cZ cO a u) :=
  lq2_ind (P := fun (u : VS) (x3 : Int32) => Sm p l e rmX8_rememberMore s m args below meth c D A 4 0 0 (smQ below args s D A none (wV cI cZ cO a o)) 2 [(0, .ref (a 0)), (1, .int x1), (2, .int x2), (3, .int x3)] [] (wV cI cZ cO a u)) (fun k2 hk2 u x3 h9 => s_X8_rememberMore_2_b F x1 x2  k2 hk2 u x3 h9) n u x3 hf
set_option maxRecDepth 100000 in
set_option maxHeartbeats 4000000 in
theorem ct_X8_rememberMore (l : Launch) (D : va_G) (cI cZ cO : ClassId) (a : Nat → Nat) {u : VS} {x1 : Int32} {x2 : Int32} {o : VS} (hf : f_X8_rememberMore u x1 x2 = some o) : Ct l yX8_rememberMore (uw (Cond.code yX8_rememberMore cX8_rememberMore 4 none)) rmX8_rememberMore D (tyL cI cZ cO) E0 [.ref (a 0), .int x1, .int x2] (wV cI cZ cO a u) none (wV cI cZ cO a o) := by
  refine sm_start (cc := cX8_rememberMore) (maxL := 4) (ret := none) (own := RX8) (by decide) rfl rfl (Nat.le_of_ble_eq_true rfl) (lv := [(0, .ref (a 0)), (1, .int x1), (2, .int x2)]) rfl ?_
  intro p e s m below meth c A F hE hA
  unfold f_X8_rememberMore at hf
  refine sm_iconst F dX8_rememberMore_0 kc_i_0 ?_
  refine sm_istore_n F [(0, .ref (a 0)), (1, .int x1), (2, .int x2), (3, .int (0 : Int32))] [1, 2, 3, 0] dX8_rememberMore_1 rfl (by decide) rfl ?_
  exact s_X8_rememberMore_2 F x1 x2 smN u (0 : Int32) hf
/-! SoManyForgotten$Valley.knownOf(I)I -/
abbrev rmX8_knownOf : Room := { frames := 0, cells := 0, slots := 0, locals := 0 }
set_option maxRecDepth 100000 in
theorem hvX8_knownOf : yX8_knownOf.cls = RX8 ∧ yX8_knownOf.cls ≠ "java/lang/invoke/MethodHandle" ∧ yX8_knownOf.cls ≠ "java/lang/invoke/VarHandle" ∧ (parseMethodDescriptor yX8_knownOf.desc).map (fun d => d.parameters.length) = some 1 := by decide +kernel
set_option maxRecDepth 100000 in
set_option maxHeartbeats 4000000 in
theorem s_X8_knownOf_4_b {p : Program} {l : Launch} {e : Env} {s : State} {m : MethodId} {args : Array Value} {below : List Frame} {meth : Method} {c : Code} {A : Nat → Prop} {D : va_G} {cI cZ cO : ClassId} {a : Nat → Nat} {r : Int32} (F : smF p s m args meth c cX8_knownOf 4 (some .int) RX8 D (tyL cI cZ cO) A) (u : VS) (x1 : Int32) (k4 : Int32 → Int32 → Option Int32) (hk4 : ∀ (x2' : Int32) (x3' : Int32), k4 x2' x3' = some r → Sm p l e rmX8_knownOf s m args below meth c D A 4 0 0 (smQ below args s D A (some (.int r)) (wV cI cZ cO a u)) 4 [(0, .ref (a 0)), (1, .int x1), (2, .int x2'), (3, .int x3')] [] (wV cI cZ cO a u)) (x2 : Int32) (x3 : Int32) (hf : b_X8_knownOf_4 u x1  k4 x2 x3 = some r) : Sm p l e rmX8_knownOf s m args below meth c D A 4 0 0 (smQ below args s D A (some (.int r)) (wV cI cZ cO a u)) 4 [(0, .ref (a 0)), (1, .int x1), (2, .int x2), (3, .int x3)] [] (wV cI cZ cO a u) := by
  unfold b_X8_knownOf_4 at hf
  refine sm_iload_n F dX8_knownOf_4 rfl 3 rfl ?_
  refine sm_aload_n F dX8_knownOf_5 rfl 0 rfl ?_
  refine sm_get (v := .int (gV_people u)) F inX8 0 rfl rfl 6 (by decide) qw1_94 rfl rfl dX8_knownOf_6 ?_
  refine sm_icmp_ge (tgt := 46) F dX8_knownOf_9 (by decide) (fun c9 => ?_) (fun c9 => ?_)
  · replace hf := if_t c9 hf
    refine sm_iload_n F dX8_knownOf_46 rfl 2 rfl ?_
    exact sm_iret F dX8_knownOf_47 (Option.some.inj hf) rfl
  · replace hf := if_f c9 hf
    refine sm_iload_n F dX8_knownOf_12 rfl 3 rfl ?_
    refine sm_iload_n F dX8_knownOf_13 rfl 1 rfl ?_
    refine sm_icmp_eq (tgt := 40) F dX8_knownOf_14 (by decide) (fun c14 => ?_) (fun c14 => ?_)
    · replace hf := if_t c14 hf
      refine sm_iinc F [(0, .ref (a 0)), (1, .int x1), (2, .int x2), (3, .int (x3 + 1))] 3 [1, 2, 3, 0] dX8_knownOf_40 rfl kc_i_1 (by decide) rfl ?_
      refine sm_goto (tgt := 4) F dX8_knownOf_43 (by decide) ?_
      exact hk4 x2 (x3 + 1) hf
    · replace hf := if_f c14 hf
      refine sm_aload_n F dX8_knownOf_17 rfl 0 rfl ?_
      refine sm_get (v := .ref (a 4)) F inX8 0 rfl rfl 4 (by decide) qw1_89 rfl rfl dX8_knownOf_18 ?_
      refine sm_iload_n F dX8_knownOf_21 rfl 3 rfl ?_
      obtain ⟨h22, hf⟩ := ck_some hf
      refine sm_zald F 4 1 rfl rfl h22 dX8_knownOf_22 ?_
      refine sm_if_eq (tgt := 40) F dX8_knownOf_23 (by decide) (fun c23 => ?_) (fun c23 => ?_)
      · replace hf := if_t c23 hf
        refine sm_iinc F [(0, .ref (a 0)), (1, .int x1), (2, .int x2), (3, .int (x3 + 1))] 3 [1, 2, 3, 0] dX8_knownOf_40 rfl kc_i_1 (by decide) rfl ?_
        refine sm_goto (tgt := 4) F dX8_knownOf_43 (by decide) ?_
        exact hk4 x2 (x3 + 1) hf
      · replace hf := if_f c23 hf
        refine sm_iload_n F dX8_knownOf_26 rfl 2 rfl ?_
        refine sm_aload_n F dX8_knownOf_27 rfl 0 rfl ?_
        refine sm_get (v := .ref (a 5)) F inX8 0 rfl rfl 5 (by decide) qw1_93 rfl rfl dX8_knownOf_28 ?_
        refine sm_iload_n F dX8_knownOf_31 rfl 3 rfl ?_
        refine sm_bipush F dX8_knownOf_32 kc_b_8 ?_
        refine sm_imul F dX8_knownOf_34 ?_
        refine sm_iload_n F dX8_knownOf_35 rfl 1 rfl ?_
        refine sm_iadd F dX8_knownOf_36 ?_
        obtain ⟨h37, hf⟩ := ck_some hf
        refine sm_iald F 5 0 rfl rfl h37 dX8_knownOf_37 ?_
        refine sm_iadd F dX8_knownOf_38 ?_
        refine sm_istore_n F [(0, .ref (a 0)), (1, .int x1), (2, .int (x2 + ((gV_mem u) (Int32.toNatClampNeg ((x3 * (8 : Int32)) + x1))))), (3, .int x3)] [1, 2, 0, 3] dX8_knownOf_39 rfl (by decide) rfl ?_
        refine sm_iinc F [(0, .ref (a 0)), (1, .int x1), (2, .int (x2 + ((gV_mem u) (Int32.toNatClampNeg ((x3 * (8 : Int32)) + x1))))), (3, .int (x3 + 1))] 3 [1, 2, 3, 0] dX8_knownOf_40 rfl kc_i_1 (by decide) rfl ?_
        refine sm_goto (tgt := 4) F dX8_knownOf_43 (by decide) ?_
        exact hk4 (x2 + ((gV_mem u) (Int32.toNatClampNeg ((x3 * (8 : Int32)) + x1)))) (x3 + 1) hf
set_option maxRecDepth 100000 in
set_option maxHeartbeats 4000000 in
theorem s_X8_knownOf_4 {p : Program} {l : Launch} {e : Env} {s : State} {m : MethodId} {args : Array Value} {below : List Frame} {meth : Method} {c : Code} {A : Nat → Prop} {D : va_G} {cI cZ cO : ClassId} {a : Nat → Nat} {r : Int32} (F : smF p s m args meth c cX8_knownOf 4 (some .int) RX8 D (tyL cI cZ cO) A) (u : VS) (x1 : Int32)  (n : Nat) (x2 : Int32) (x3 : Int32) (hf : f_X8_knownOf_4 u x1  n x2 x3 = some r) : Sm p l e rmX8_knownOf s m args below meth c D A 4 0 0 (smQ below args s D A (some (.int r)) (wV cI cZ cO a u)) 4 [(0, .ref (a 0)), (1, .int x1), (2, .int x2), (3, .int x3)] [] (wV cI cZ cO a u) :=
  lq2_ind (P := fun (x2 : Int32) (x3 : Int32) => Sm p l e rmX8_knownOf s m args below meth c D A 4 0 0 (smQ below args s D A (some (.int r)) (wV cI cZ cO a u)) 4 [(0, .ref (a 0)), (1, .int x1), (2, .int x2), (3, .int x3)] [] (wV cI cZ cO a u)) (fun k4 hk4 x2 x3 h9 => s_X8_knownOf_4_b F u x1  k4 hk4 x2 x3 h9) n x2 x3 hf
set_option maxRecDepth 100000 in
set_option maxHeartbeats 4000000 in
theorem ct_X8_knownOf (l : Launch) (D : va_G) (cI cZ cO : ClassId) (a : Nat → Nat) {u : VS} {x1 : Int32} {r : Int32} (hf : f_X8_knownOf u x1 = some r) : Ct l yX8_knownOf (uw (Cond.code yX8_knownOf cX8_knownOf 4 (some .int))) rmX8_knownOf D (tyL cI cZ cO) E0 [.ref (a 0), .int x1] (wV cI cZ cO a u) (some (.int r)) (wV cI cZ cO a u) := by
  refine sm_start (cc := cX8_knownOf) (maxL := 4) (ret := (some .int)) (own := RX8) (by decide) rfl rfl (Nat.le_of_ble_eq_true rfl) (lv := [(0, .ref (a 0)), (1, .int x1)]) rfl ?_
  intro p e s m below meth c A F hE hA
  unfold f_X8_knownOf at hf
  refine sm_iconst F dX8_knownOf_0 kc_i_0 ?_
  refine sm_istore_n F [(0, .ref (a 0)), (1, .int x1), (2, .int (0 : Int32))] [1, 2, 0] dX8_knownOf_1 rfl (by decide) rfl ?_
  refine sm_iconst F dX8_knownOf_2 kc_i_0 ?_
  refine sm_istore_n F [(0, .ref (a 0)), (1, .int x1), (2, .int (0 : Int32)), (3, .int (0 : Int32))] [1, 2, 3, 0] dX8_knownOf_3 rfl (by decide) rfl ?_
  exact s_X8_knownOf_4 F u x1 smN (0 : Int32) (0 : Int32) hf
/-! SoManyForgotten$Valley.leastKnown()I -/
abbrev rmX8_leastKnown : Room := { frames := 1, cells := 0, slots := 0, locals := 23 }
set_option maxRecDepth 100000 in
theorem hvX8_leastKnown : yX8_leastKnown.cls = RX8 ∧ yX8_leastKnown.cls ≠ "java/lang/invoke/MethodHandle" ∧ yX8_leastKnown.cls ≠ "java/lang/invoke/VarHandle" ∧ (parseMethodDescriptor yX8_leastKnown.desc).map (fun d => d.parameters.length) = some 0 := by decide +kernel
set_option maxRecDepth 100000 in
set_option maxHeartbeats 4000000 in
theorem s_X8_leastKnown_44 {p : Program} {l : Launch} {e : Env} {s : State} {m : MethodId} {args : Array Value} {below : List Frame} {meth : Method} {c : Code} {A : Nat → Prop} {D : va_G} {cI cZ cO : ClassId} {a : Nat → Nat} {r : Int32} (F : smF p s m args meth c cX8_leastKnown 5 (some .int) RX8 D (tyL cI cZ cO) A) (u : VS) (k7 : Int32 → Int32 → Int32 → Option Int32) (hk7 : ∀ (x1' : Int32) (x2' : Int32) (x3' : Int32), k7 x1' x2' x3' = some r → Sm p l e rmX8_leastKnown s m args below meth c D A 5 0 0 (smQ below args s D A (some (.int r)) (wV cI cZ cO a u)) 7 [(0, .ref (a 0)), (1, .int x1'), (2, .int x2'), (3, .int x3')] [] (wV cI cZ cO a u)) (x1 : Int32) (x2 : Int32) (x3 : Int32) (y0 : Int32) (hf : f_X8_leastKnown_44 u k7  x1 x2 x3 y0 = some r) : Sm p l e rmX8_leastKnown s m args below meth c D A 5 0 0 (smQ below args s D A (some (.int r)) (wV cI cZ cO a u)) 44 [(0, .ref (a 0)), (1, .int x1), (2, .int x2), (3, .int x3)] [.int y0] (wV cI cZ cO a u) := by
  unfold f_X8_leastKnown_44 at hf
  refine sm_if_eq (tgt := 71) F dX8_leastKnown_44 (by decide) (fun c44 => ?_) (fun c44 => ?_)
  · replace hf := if_t c44 hf
    refine sm_iinc F [(0, .ref (a 0)), (1, .int x1), (2, .int x2), (3, .int (x3 + 1))] 3 [1, 2, 3, 0] dX8_leastKnown_71 rfl kc_i_1 (by decide) rfl ?_
    refine sm_goto (tgt := 7) F dX8_leastKnown_74 (by decide) ?_
    exact hk7 x1 x2 (x3 + 1) hf
  · replace hf := if_f c44 hf
    refine sm_aload_n F dX8_leastKnown_47 rfl 0 rfl ?_
    refine sm_iload_n F dX8_leastKnown_48 rfl 3 rfl ?_
    obtain ⟨z49, hz49, hf⟩ := bd_some hf
    refine sm_callV (rest := []) F (ct_X8_knownOf l D cI cZ cO a hz49) (cut_V_id cI cZ cO a u u) rfl rfl rfl qw3_35 qw3_36 qw3_37 qw1_8 qw3_38 hvX8_knownOf ⟨Nat.le_of_ble_eq_true rfl, Nat.le_of_ble_eq_true rfl⟩ ⟨Nat.zero_le _, Nat.zero_le _⟩ 0 8 rfl rfl rfl rfl (Nat.le_of_ble_eq_true rfl) E0_b (fun _ _ _ _ _ _ => trivial) rfl dX8_leastKnown_49 [.int z49] rfl ?_
    refine sm_istore F [(0, .ref (a 0)), (1, .int x1), (2, .int x2), (3, .int x3), (4, .int z49)] [1, 2, 3, 4, 0] dX8_leastKnown_52 (by decide) rfl ?_
    refine sm_iload_n F dX8_leastKnown_54 rfl 1 rfl ?_
    refine sm_bipush F dX8_leastKnown_55 kc_b_m9 ?_
    refine sm_icmp_eq (tgt := 66) F dX8_leastKnown_57 (by decide) (fun c57 => ?_) (fun c57 => ?_)
    · replace hf := if_t c57 hf
      refine sm_iload_n F dX8_leastKnown_66 rfl 3 rfl ?_
      refine sm_istore_n F [(0, .ref (a 0)), (1, .int x3), (3, .int x3), (4, .int z49)] [1, 0, 3, 4] dX8_leastKnown_67 rfl (by decide) rfl ?_
      refine sm_iload F dX8_leastKnown_68 3 rfl ?_
      refine sm_istore_n F [(0, .ref (a 0)), (1, .int x3), (2, .int z49), (3, .int x3)] [1, 2, 0, 3] dX8_leastKnown_70 rfl (by decide) rfl ?_
      refine sm_iinc F [(0, .ref (a 0)), (1, .int x3), (2, .int z49), (3, .int (x3 + 1))] 3 [1, 2, 3, 0] dX8_leastKnown_71 rfl kc_i_1 (by decide) rfl ?_
      refine sm_goto (tgt := 7) F dX8_leastKnown_74 (by decide) ?_
      exact hk7 x3 z49 (x3 + 1) hf
    · replace hf := if_f c57 hf
      refine sm_iload F dX8_leastKnown_60 4 rfl ?_
      refine sm_iload_n F dX8_leastKnown_62 rfl 2 rfl ?_
      refine sm_icmp_ge (tgt := 71) F dX8_leastKnown_63 (by decide) (fun c63 => ?_) (fun c63 => ?_)
      · replace hf := if_t c63 hf
        refine sm_iinc F [(0, .ref (a 0)), (1, .int x1), (2, .int x2), (3, .int (x3 + 1)), (4, .int z49)] 3 [1, 2, 3, 0, 4] dX8_leastKnown_71 rfl kc_i_1 (by decide) rfl ?_
        refine sm_goto (tgt := 7) F dX8_leastKnown_74 (by decide) ?_
        refine sm_sub (lv' := [(0, .ref (a 0)), (1, .int x1), (2, .int x2), (3, .int (x3 + 1))]) [0, 1, 2, 3] rfl ?_
        exact hk7 x1 x2 (x3 + 1) hf
      · replace hf := if_f c63 hf
        refine sm_iload_n F dX8_leastKnown_66 rfl 3 rfl ?_
        refine sm_istore_n F [(0, .ref (a 0)), (1, .int x3), (3, .int x3), (4, .int z49)] [1, 0, 3, 4] dX8_leastKnown_67 rfl (by decide) rfl ?_
        refine sm_iload F dX8_leastKnown_68 3 rfl ?_
        refine sm_istore_n F [(0, .ref (a 0)), (1, .int x3), (2, .int z49), (3, .int x3)] [1, 2, 0, 3] dX8_leastKnown_70 rfl (by decide) rfl ?_
        refine sm_iinc F [(0, .ref (a 0)), (1, .int x3), (2, .int z49), (3, .int (x3 + 1))] 3 [1, 2, 3, 0] dX8_leastKnown_71 rfl kc_i_1 (by decide) rfl ?_
        refine sm_goto (tgt := 7) F dX8_leastKnown_74 (by decide) ?_
        exact hk7 x3 z49 (x3 + 1) hf
set_option maxRecDepth 100000 in
set_option maxHeartbeats 4000000 in
theorem s_X8_leastKnown_7_b {p : Program} {l : Launch} {e : Env} {s : State} {m : MethodId} {args : Array Value} {below : List Frame} {meth : Method} {c : Code} {A : Nat → Prop} {D : va_G} {cI cZ cO : ClassId} {a : Nat → Nat} {r : Int32} (F : smF p s m args meth c cX8_leastKnown 5 (some .int) RX8 D (tyL cI cZ cO) A) (u : VS) (k7 : Int32 → Int32 → Int32 → Option Int32) (hk7 : ∀ (x1' : Int32) (x2' : Int32) (x3' : Int32), k7 x1' x2' x3' = some r → Sm p l e rmX8_leastKnown s m args below meth c D A 5 0 0 (smQ below args s D A (some (.int r)) (wV cI cZ cO a u)) 7 [(0, .ref (a 0)), (1, .int x1'), (2, .int x2'), (3, .int x3')] [] (wV cI cZ cO a u)) (x1 : Int32) (x2 : Int32) (x3 : Int32) (hf : b_X8_leastKnown_7 u  k7 x1 x2 x3 = some r) : Sm p l e rmX8_leastKnown s m args below meth c D A 5 0 0 (smQ below args s D A (some (.int r)) (wV cI cZ cO a u)) 7 [(0, .ref (a 0)), (1, .int x1), (2, .int x2), (3, .int x3)] [] (wV cI cZ cO a u) := by
  unfold b_X8_leastKnown_7 at hf
  refine sm_iload_n F dX8_leastKnown_7 rfl 3 rfl ?_
  refine sm_aload_n F dX8_leastKnown_8 rfl 0 rfl ?_
  refine sm_get (v := .int (gV_people u)) F inX8 0 rfl rfl 6 (by decide) qw1_94 rfl rfl dX8_leastKnown_9 ?_
  refine sm_icmp_ge (tgt := 77) F dX8_leastKnown_12 (by decide) (fun c12 => ?_) (fun c12 => ?_)
  · replace hf := if_t c12 hf
    refine sm_iload_n F dX8_leastKnown_77 rfl 1 rfl ?_
    exact sm_iret F dX8_leastKnown_78 (Option.some.inj hf) rfl
  · replace hf := if_f c12 hf
    refine sm_aload_n F dX8_leastKnown_15 rfl 0 rfl ?_
    refine sm_get (v := .ref (a 4)) F inX8 0 rfl rfl 4 (by decide) qw1_89 rfl rfl dX8_leastKnown_16 ?_
    refine sm_iload_n F dX8_leastKnown_19 rfl 3 rfl ?_
    obtain ⟨h20, hf⟩ := ck_some hf
    refine sm_zald F 4 1 rfl rfl h20 dX8_leastKnown_20 ?_
    refine sm_if_eq (tgt := 71) F dX8_leastKnown_21 (by decide) (fun c21 => ?_) (fun c21 => ?_)
    · replace hf := if_t c21 hf
      refine sm_iinc F [(0, .ref (a 0)), (1, .int x1), (2, .int x2), (3, .int (x3 + 1))] 3 [1, 2, 3, 0] dX8_leastKnown_71 rfl kc_i_1 (by decide) rfl ?_
      refine sm_goto (tgt := 7) F dX8_leastKnown_74 (by decide) ?_
      exact hk7 x1 x2 (x3 + 1) hf
    · replace hf := if_f c21 hf
      refine sm_aload_n F dX8_leastKnown_24 rfl 0 rfl ?_
      refine sm_get (v := .ref (a 6)) F inX8 0 rfl rfl 0 (by decide) qw1_78 rfl rfl dX8_leastKnown_25 ?_
      refine sm_aload_n F dX8_leastKnown_28 rfl 0 rfl ?_
      refine sm_get (v := .ref (a 1)) F inX8 0 rfl rfl 1 (by decide) qw1_79 rfl rfl dX8_leastKnown_29 ?_
      refine sm_iload_n F dX8_leastKnown_32 rfl 3 rfl ?_
      obtain ⟨h33, hf⟩ := ck_some hf
      refine sm_iald F 1 0 rfl rfl h33 dX8_leastKnown_33 ?_
      obtain ⟨h34, hf⟩ := ck_some hf
      refine sm_aald (f := fun j => some (kd6 (a 7) (a 8) (a 9) (a 10) (a 11) (a 12) j)) F 6 2 rfl rfl h34 rfl dX8_leastKnown_34 ?_
      refine sm_aload_n F dX8_leastKnown_35 rfl 0 rfl ?_
      refine sm_get (v := .ref (a 2)) F inX8 0 rfl rfl 2 (by decide) qw1_82 rfl rfl dX8_leastKnown_36 ?_
      refine sm_iload_n F dX8_leastKnown_39 rfl 3 rfl ?_
      obtain ⟨h40, hf⟩ := ck_some hf
      refine sm_iald F 2 0 rfl rfl h40 dX8_leastKnown_40 ?_
      obtain ⟨z41, hz41, hf⟩ := bd_some hf
      rcases kd_isNamed hz41 with ⟨e41, hz41⟩ | ⟨e41, hz41⟩ | ⟨e41, hz41⟩ | ⟨e41, hz41⟩ | ⟨e41, hz41⟩ | ⟨e41, hz41⟩
      · rw [show Int32.toNatClampNeg ((gV_kind u) (Int32.toNatClampNeg x3)) = 0 by rw [e41]; rfl]
        refine sm_callV (rest := []) F (ct_X4_isNamed (ci := 4) l D (tyL cI cZ cO) (fun i => a (7 + i)) rfl hz41) (cut_V_p0 cI cZ cO a u) rfl rfl rfl qw3_21 qw3_22 qw3_23 qw1_2 qw3_34 hvX4_isNamed ⟨Nat.le_of_ble_eq_true rfl, Nat.le_of_ble_eq_true rfl⟩ ⟨Nat.zero_le _, Nat.zero_le _⟩ 0 4 rfl rfl rfl rfl (Nat.le_of_ble_eq_true rfl) E0_b (fun _ _ _ _ _ _ => trivial) rfl dX8_leastKnown_41 [.int z41] rfl ?_
        exact s_X8_leastKnown_44 F u k7 hk7 x1 x2 x3 z41 hf
      · rw [show Int32.toNatClampNeg ((gV_kind u) (Int32.toNatClampNeg x3)) = 1 by rw [e41]; rfl]
        refine sm_callU (rest := []) F (ct_X4_isNamed (ci := 0) l D (tyL cI cZ cO) (fun i => a (8 + i)) rfl hz41) (cut_V_p1 cI cZ cO a u) rfl rfl rfl qw3_21p qw3_24p qw3_25p qw3_22 qw1_2 qw3_34 rfl hk_isNamed ⟨Nat.le_of_ble_eq_true rfl, Nat.le_of_ble_eq_true rfl⟩ ⟨Nat.zero_le _, Nat.zero_le _⟩ 0 0 rfl rfl rfl rfl (Nat.le_of_ble_eq_true rfl) E0_b (fun _ _ _ _ _ _ => trivial) rfl dX8_leastKnown_41 [.int z41] rfl ?_
        exact s_X8_leastKnown_44 F u k7 hk7 x1 x2 x3 z41 hf
      · rw [show Int32.toNatClampNeg ((gV_kind u) (Int32.toNatClampNeg x3)) = 2 by rw [e41]; rfl]
        refine sm_callU (rest := []) F (ct_X4_isNamed (ci := 2) l D (tyL cI cZ cO) (fun i => a (9 + i)) rfl hz41) (cut_V_p2 cI cZ cO a u) rfl rfl rfl qw3_21p qw3_24p qw3_29p qw3_22 qw1_2 qw3_34 rfl hk_isNamed ⟨Nat.le_of_ble_eq_true rfl, Nat.le_of_ble_eq_true rfl⟩ ⟨Nat.zero_le _, Nat.zero_le _⟩ 0 2 rfl rfl rfl rfl (Nat.le_of_ble_eq_true rfl) E0_b (fun _ _ _ _ _ _ => trivial) rfl dX8_leastKnown_41 [.int z41] rfl ?_
        exact s_X8_leastKnown_44 F u k7 hk7 x1 x2 x3 z41 hf
      · rw [show Int32.toNatClampNeg ((gV_kind u) (Int32.toNatClampNeg x3)) = 3 by rw [e41]; rfl]
        refine sm_callU (rest := []) F (ct_X4_isNamed (ci := 5) l D (tyL cI cZ cO) (fun i => a (10 + i)) rfl hz41) (cut_V_p3 cI cZ cO a u) rfl rfl rfl qw3_21p qw3_24p qw3_30p qw3_22 qw1_2 qw3_34 rfl hk_isNamed ⟨Nat.le_of_ble_eq_true rfl, Nat.le_of_ble_eq_true rfl⟩ ⟨Nat.zero_le _, Nat.zero_le _⟩ 0 5 rfl rfl rfl rfl (Nat.le_of_ble_eq_true rfl) E0_b (fun _ _ _ _ _ _ => trivial) rfl dX8_leastKnown_41 [.int z41] rfl ?_
        exact s_X8_leastKnown_44 F u k7 hk7 x1 x2 x3 z41 hf
      · rw [show Int32.toNatClampNeg ((gV_kind u) (Int32.toNatClampNeg x3)) = 4 by rw [e41]; rfl]
        refine sm_callO (rest := []) F (ct_X1_isNamed (ci := 1) l D (tyL cI cZ cO) (fun i => a (11 + i)) rfl hz41) (cut_V_p4 cI cZ cO a u) rfl rfl rfl qw3_21p qw3_24p qw3_22p qw3_26p qw3_27 qw1_6 qw3_28 qw3_34 hk_isNamed ⟨Nat.le_of_ble_eq_true rfl, Nat.le_of_ble_eq_true rfl⟩ ⟨Nat.zero_le _, Nat.zero_le _⟩ 0 1 rfl rfl rfl rfl (Nat.le_of_ble_eq_true rfl) E0_b (fun _ _ _ _ _ _ => trivial) rfl dX8_leastKnown_41 [.int z41] rfl ?_
        exact s_X8_leastKnown_44 F u k7 hk7 x1 x2 x3 z41 hf
      · rw [show Int32.toNatClampNeg ((gV_kind u) (Int32.toNatClampNeg x3)) = 5 by rw [e41]; rfl]
        refine sm_callO (rest := []) F (ct_X9_isNamed (ci := 9) l D (tyL cI cZ cO) (fun i => a (12 + i)) rfl hz41) (cut_V_p5 cI cZ cO a u) rfl rfl rfl qw3_21p qw3_24p qw3_22p qw3_31p qw3_32 qw1_7 qw3_33 qw3_34 hk_isNamed ⟨Nat.le_of_ble_eq_true rfl, Nat.le_of_ble_eq_true rfl⟩ ⟨Nat.zero_le _, Nat.zero_le _⟩ 0 9 rfl rfl rfl rfl (Nat.le_of_ble_eq_true rfl) E0_b (fun _ _ _ _ _ _ => trivial) rfl dX8_leastKnown_41 [.int z41] rfl ?_
        exact s_X8_leastKnown_44 F u k7 hk7 x1 x2 x3 z41 hf
set_option maxRecDepth 100000 in
set_option maxHeartbeats 4000000 in
theorem s_X8_leastKnown_7 {p : Program} {l : Launch} {e : Env} {s : State} {m : MethodId} {args : Array Value} {below : List Frame} {meth : Method} {c : Code} {A : Nat → Prop} {D : va_G} {cI cZ cO : ClassId} {a : Nat → Nat} {r : Int32} (F : smF p s m args meth c cX8_leastKnown 5 (some .int) RX8 D (tyL cI cZ cO) A) (u : VS)  (n : Nat) (x1 : Int32) (x2 : Int32) (x3 : Int32) (hf : f_X8_leastKnown_7 u  n x1 x2 x3 = some r) : Sm p l e rmX8_leastKnown s m args below meth c D A 5 0 0 (smQ below args s D A (some (.int r)) (wV cI cZ cO a u)) 7 [(0, .ref (a 0)), (1, .int x1), (2, .int x2), (3, .int x3)] [] (wV cI cZ cO a u) :=
  lq3_ind (P := fun (x1 : Int32) (x2 : Int32) (x3 : Int32) => Sm p l e rmX8_leastKnown s m args below meth c D A 5 0 0 (smQ below args s D A (some (.int r)) (wV cI cZ cO a u)) 7 [(0, .ref (a 0)), (1, .int x1), (2, .int x2), (3, .int x3)] [] (wV cI cZ cO a u)) (fun k7 hk7 x1 x2 x3 h9 => s_X8_leastKnown_7_b F u  k7 hk7 x1 x2 x3 h9) n x1 x2 x3 hf
set_option maxRecDepth 100000 in
set_option maxHeartbeats 4000000 in
theorem ct_X8_leastKnown (l : Launch) (D : va_G) (cI cZ cO : ClassId) (a : Nat → Nat) {u : VS} {r : Int32} (hf : f_X8_leastKnown u = some r) : Ct l yX8_leastKnown (uw (Cond.code yX8_leastKnown cX8_leastKnown 5 (some .int))) rmX8_leastKnown D (tyL cI cZ cO) E0 [.ref (a 0)] (wV cI cZ cO a u) (some (.int r)) (wV cI cZ cO a u) := by
  refine sm_start (cc := cX8_leastKnown) (maxL := 5) (ret := (some .int)) (own := RX8) (by decide) rfl rfl (Nat.le_of_ble_eq_true rfl) (lv := [(0, .ref (a 0))]) rfl ?_
  intro p e s m below meth c A F hE hA
  unfold f_X8_leastKnown at hf
  refine sm_bipush F dX8_leastKnown_0 kc_b_m9 ?_
  refine sm_istore_n F [(0, .ref (a 0)), (1, .int ((-9) : Int32))] [1, 0] dX8_leastKnown_2 rfl (by decide) rfl ?_
  refine sm_iconst F dX8_leastKnown_3 kc_i_0 ?_
  refine sm_istore_n F [(0, .ref (a 0)), (1, .int ((-9) : Int32)), (2, .int (0 : Int32))] [1, 2, 0] dX8_leastKnown_4 rfl (by decide) rfl ?_
  refine sm_iconst F dX8_leastKnown_5 kc_i_0 ?_
  refine sm_istore_n F [(0, .ref (a 0)), (1, .int ((-9) : Int32)), (2, .int (0 : Int32)), (3, .int (0 : Int32))] [1, 2, 3, 0] dX8_leastKnown_6 rfl (by decide) rfl ?_
  exact s_X8_leastKnown_7 F u smN ((-9) : Int32) (0 : Int32) (0 : Int32) hf
/-! SoManyForgotten$Valley.rememberAs(II)V -/
abbrev rmX8_rememberAs : Room := { frames := 0, cells := 0, slots := 0, locals := 0 }
set_option maxRecDepth 100000 in
theorem hvX8_rememberAs : yX8_rememberAs.cls = RX8 ∧ yX8_rememberAs.cls ≠ "java/lang/invoke/MethodHandle" ∧ yX8_rememberAs.cls ≠ "java/lang/invoke/VarHandle" ∧ (parseMethodDescriptor yX8_rememberAs.desc).map (fun d => d.parameters.length) = some 2 := by decide +kernel
set_option maxRecDepth 100000 in
set_option maxHeartbeats 4000000 in
theorem s_X8_rememberAs_2_b {p : Program} {l : Launch} {e : Env} {s : State} {m : MethodId} {args : Array Value} {below : List Frame} {meth : Method} {c : Code} {A : Nat → Prop} {D : va_G} {cI cZ cO : ClassId} {a : Nat → Nat} {o : VS} (F : smF p s m args meth c cX8_rememberAs 4 none RX8 D (tyL cI cZ cO) A) (x1 : Int32) (x2 : Int32) (k2 : VS → Int32 → Option (VS)) (hk2 : ∀ (u' : VS) (x3' : Int32), k2 u' x3' = some o → Sm p l e rmX8_rememberAs s m args below meth c D A 4 0 0 (smQ below args s D A none (wV cI cZ cO a o)) 2 [(0, .ref (a 0)), (1, .int x1), (2, .int x2), (3, .int x3')] [] (wV cI cZ cO a u')) (u : VS) (x3 : Int32) (hf : b_X8_rememberAs_2 x1 x2  k2 u x3 = some o) : Sm p l e rmX8_rememberAs s m args below meth c D A 4 0 0 (smQ below args s D A none (wV cI cZ cO a o)) 2 [(0, .ref (a 0)), (1, .int x1), (2, .int x2), (3, .int x3)] [] (wV cI cZ cO a u) := by
  unfold b_X8_rememberAs_2 at hf
  refine sm_iload_n F dX8_rememberAs_2 rfl 3 rfl ?_
  refine sm_aload_n F dX8_rememberAs_3 rfl 0 rfl ?_
  refine sm_get (v := .int (gV_people u)) F inX8 0 rfl rfl 6 (by decide) qw1_94 rfl rfl dX8_rememberAs_4 ?_
  refine sm_icmp_ge (tgt := 42) F dX8_rememberAs_7 (by decide) (fun c7 => ?_) (fun c7 => ?_)
  · replace hf := if_t c7 hf
    exact sm_vret F dX8_rememberAs_42 (congrArg (fun z => (wV cI cZ cO a z)) (Option.some.inj hf))
  · replace hf := if_f c7 hf
    refine sm_iload_n F dX8_rememberAs_10 rfl 3 rfl ?_
    refine sm_iload_n F dX8_rememberAs_11 rfl 1 rfl ?_
    refine sm_icmp_eq (tgt := 36) F dX8_rememberAs_12 (by decide) (fun c12 => ?_) (fun c12 => ?_)
    · replace hf := if_t c12 hf
      refine sm_iinc F [(0, .ref (a 0)), (1, .int x1), (2, .int x2), (3, .int (x3 + 1))] 3 [1, 2, 3, 0] dX8_rememberAs_36 rfl kc_i_1 (by decide) rfl ?_
      refine sm_goto (tgt := 2) F dX8_rememberAs_39 (by decide) ?_
      exact hk2 u (x3 + 1) hf
    · replace hf := if_f c12 hf
      refine sm_aload_n F dX8_rememberAs_15 rfl 0 rfl ?_
      refine sm_get (v := .ref (a 4)) F inX8 0 rfl rfl 4 (by decide) qw1_89 rfl rfl dX8_rememberAs_16 ?_
      refine sm_iload_n F dX8_rememberAs_19 rfl 3 rfl ?_
      obtain ⟨h20, hf⟩ := ck_some hf
      refine sm_zald F 4 1 rfl rfl h20 dX8_rememberAs_20 ?_
      refine sm_if_eq (tgt := 36) F dX8_rememberAs_21 (by decide) (fun c21 => ?_) (fun c21 => ?_)
      · replace hf := if_t c21 hf
        refine sm_iinc F [(0, .ref (a 0)), (1, .int x1), (2, .int x2), (3, .int (x3 + 1))] 3 [1, 2, 3, 0] dX8_rememberAs_36 rfl kc_i_1 (by decide) rfl ?_
        refine sm_goto (tgt := 2) F dX8_rememberAs_39 (by decide) ?_
        exact hk2 u (x3 + 1) hf
      · replace hf := if_f c21 hf
        refine sm_aload_n F dX8_rememberAs_24 rfl 0 rfl ?_
        refine sm_get (v := .ref (a 5)) F inX8 0 rfl rfl 5 (by decide) qw1_93 rfl rfl dX8_rememberAs_25 ?_
        refine sm_iload_n F dX8_rememberAs_28 rfl 3 rfl ?_
        refine sm_bipush F dX8_rememberAs_29 kc_b_8 ?_
        refine sm_imul F dX8_rememberAs_31 ?_
        refine sm_iload_n F dX8_rememberAs_32 rfl 1 rfl ?_
        refine sm_iadd F dX8_rememberAs_33 ?_
        refine sm_iload_n F dX8_rememberAs_34 rfl 2 rfl ?_
        obtain ⟨h35, hf⟩ := ck_some hf
        refine sm_iast F 5 0 rfl rfl h35 (wV cI cZ cO a (sV_mem u (upd (gV_mem u) (Int32.toNatClampNeg ((x3 * (8 : Int32)) + x1)) x2))) rfl dX8_rememberAs_35 ?_
        refine sm_iinc F [(0, .ref (a 0)), (1, .int x1), (2, .int x2), (3, .int (x3 + 1))] 3 [1, 2, 3, 0] dX8_rememberAs_36 rfl kc_i_1 (by decide) rfl ?_
        refine sm_goto (tgt := 2) F dX8_rememberAs_39 (by decide) ?_
        exact hk2 (sV_mem u (upd (gV_mem u) (Int32.toNatClampNeg ((x3 * (8 : Int32)) + x1)) x2)) (x3 + 1) hf
set_option maxRecDepth 100000 in
set_option maxHeartbeats 4000000 in
theorem s_X8_rememberAs_2 {p : Program} {l : Launch} {e : Env} {s : State} {m : MethodId} {args : Array Value} {below : List Frame} {meth : Method} {c : Code} {A : Nat → Prop} {D : va_G} {cI cZ cO : ClassId} {a : Nat → Nat} {o : VS} (F : smF p s m args meth c cX8_rememberAs 4 none RX8 D (tyL cI cZ cO) A) (x1 : Int32) (x2 : Int32)  (n : Nat) (u : VS) (x3 : Int32) (hf : f_X8_rememberAs_2 x1 x2  n u x3 = some o) : Sm p l e rmX8_rememberAs s m args below meth c D A 4 0 0 (smQ below args s D A none (wV cI cZ cO a o)) 2 [(0, .ref (a 0)), (1, .int x1), (2, .int x2), (3, .int x3)] [] (wV cI cZ cO a u) :=
  lq2_ind (P := fun (u : VS) (x3 : Int32) => Sm p l e rmX8_rememberAs s m args below meth c D A 4 0 0 (smQ below args s D A none (wV cI cZ cO a o)) 2 [(0, .ref (a 0)), (1, .int x1), (2, .int x2), (3, .int x3)] [] (wV cI cZ cO a u)) (fun k2 hk2 u x3 h9 => s_X8_rememberAs_2_b F x1 x2  k2 hk2 u x3 h9) n u x3 hf
set_option maxRecDepth 100000 in
set_option maxHeartbeats 4000000 in
theorem ct_X8_rememberAs (l : Launch) (D : va_G) (cI cZ cO : ClassId) (a : Nat → Nat) {u : VS} {x1 : Int32} {x2 : Int32} {o : VS} (hf : f_X8_rememberAs u x1 x2 = some o) : Ct l yX8_rememberAs (uw (Cond.code yX8_rememberAs cX8_rememberAs 4 none)) rmX8_rememberAs D (tyL cI cZ cO) E0 [.ref (a 0), .int x1, .int x2] (wV cI cZ cO a u) none (wV cI cZ cO a o) := by
  refine sm_start (cc := cX8_rememberAs) (maxL := 4) (ret := none) (own := RX8) (by decide) rfl rfl (Nat.le_of_ble_eq_true rfl) (lv := [(0, .ref (a 0)), (1, .int x1), (2, .int x2)]) rfl ?_
  intro p e s m below meth c A F hE hA
  unfold f_X8_rememberAs at hf
  refine sm_iconst F dX8_rememberAs_0 kc_i_0 ?_
  refine sm_istore_n F [(0, .ref (a 0)), (1, .int x1), (2, .int x2), (3, .int (0 : Int32))] [1, 2, 3, 0] dX8_rememberAs_1 rfl (by decide) rfl ?_
  exact s_X8_rememberAs_2 F x1 x2 smN u (0 : Int32) hf
/-! SoManyForgotten$Valley.forget(I)V -/
abbrev rmX8_forget : Room := { frames := 1, cells := 0, slots := 0, locals := 23 }
set_option maxRecDepth 100000 in
theorem hvX8_forget : yX8_forget.cls = RX8 ∧ yX8_forget.cls ≠ "java/lang/invoke/MethodHandle" ∧ yX8_forget.cls ≠ "java/lang/invoke/VarHandle" ∧ (parseMethodDescriptor yX8_forget.desc).map (fun d => d.parameters.length) = some 1 := by decide +kernel
set_option maxRecDepth 100000 in
set_option maxHeartbeats 4000000 in
theorem ct_X8_forget (l : Launch) (D : va_G) (cI cZ cO : ClassId) (a : Nat → Nat) {u : VS} {x1 : Int32} {o : VS} (hf : f_X8_forget u x1 = some o) : Ct l yX8_forget (uw (Cond.code yX8_forget cX8_forget 2 none)) rmX8_forget D (tyL cI cZ cO) E0 [.ref (a 0), .int x1] (wV cI cZ cO a u) none (wV cI cZ cO a o) := by
  refine sm_start (cc := cX8_forget) (maxL := 2) (ret := none) (own := RX8) (by decide) rfl rfl (Nat.le_of_ble_eq_true rfl) (lv := [(0, .ref (a 0)), (1, .int x1)]) rfl ?_
  intro p e s m below meth c A F hE hA
  unfold f_X8_forget at hf
  refine sm_aload_n F dX8_forget_0 rfl 0 rfl ?_
  refine sm_get (v := .ref (a 4)) F inX8 0 rfl rfl 4 (by decide) qw1_89 rfl rfl dX8_forget_1 ?_
  refine sm_iload_n F dX8_forget_4 rfl 1 rfl ?_
  refine sm_iconst F dX8_forget_5 kc_i_0 ?_
  obtain ⟨h6, hf⟩ := ck_some hf
  refine sm_zast F 4 1 rfl rfl h6 (wV cI cZ cO a (sV_here u (upd (gV_here u) (Int32.toNatClampNeg x1) (vp_nar .boolean (0 : Int32))))) rfl dX8_forget_6 ?_
  refine sm_aload_n F dX8_forget_7 rfl 0 rfl ?_
  refine sm_get (v := .ref (a 3)) F inX8 0 rfl rfl 3 (by decide) qw1_85 rfl rfl dX8_forget_8 ?_
  refine sm_iload_n F dX8_forget_11 rfl 1 rfl ?_
  refine sm_iconst F dX8_forget_12 kc_i_0 ?_
  obtain ⟨h13, hf⟩ := ck_some hf
  refine sm_iast F 3 0 rfl rfl h13 (wV cI cZ cO a (sV_owed (sV_here u (upd (gV_here u) (Int32.toNatClampNeg x1) (vp_nar .boolean (0 : Int32)))) (upd (gV_owed (sV_here u (upd (gV_here u) (Int32.toNatClampNeg x1) (vp_nar .boolean (0 : Int32))))) (Int32.toNatClampNeg x1) (0 : Int32)))) rfl dX8_forget_13 ?_
  obtain ⟨u13, hu13, hf⟩ := bd_some hf
  refine sm_ws (ws' := (wV cI cZ cO a u13)) (congrArg (fun z => (wV cI cZ cO a z)) (Option.some.inj hu13)) ?_
  refine sm_aload_n F dX8_forget_14 rfl 0 rfl ?_
  refine sm_iload_n F dX8_forget_15 rfl 1 rfl ?_
  refine sm_iconst F dX8_forget_16 kc_i_0 ?_
  obtain ⟨z17, hz17, hf⟩ := bd_some hf
  refine sm_callV (rest := []) F (ct_X8_rememberAs l D cI cZ cO a hz17) (cut_V_id cI cZ cO a u13 z17) rfl rfl rfl qw2_212 qw2_214 qw0_9 qw1_8 qw2_215 hvX8_rememberAs ⟨Nat.le_of_ble_eq_true rfl, Nat.le_of_ble_eq_true rfl⟩ ⟨Nat.zero_le _, Nat.zero_le _⟩ 0 8 rfl rfl rfl rfl (Nat.le_of_ble_eq_true rfl) E0_b (fun _ _ _ _ _ _ => trivial) rfl dX8_forget_17 [] rfl ?_
  exact sm_vret F dX8_forget_20 (congrArg (fun z => (wV cI cZ cO a z)) (Option.some.inj hf))
/-! SoManyForgotten$Valley.passSpring()V -/
abbrev rmX8_passSpring : Room := { frames := 2, cells := 0, slots := 0, locals := 47 }
set_option maxRecDepth 100000 in
theorem hvX8_passSpring : yX8_passSpring.cls = RX8 ∧ yX8_passSpring.cls ≠ "java/lang/invoke/MethodHandle" ∧ yX8_passSpring.cls ≠ "java/lang/invoke/VarHandle" ∧ (parseMethodDescriptor yX8_passSpring.desc).map (fun d => d.parameters.length) = some 0 := by decide +kernel
set_option maxRecDepth 100000 in
set_option maxHeartbeats 4000000 in
theorem s_X8_passSpring_2_b {p : Program} {l : Launch} {e : Env} {s : State} {m : MethodId} {args : Array Value} {below : List Frame} {meth : Method} {c : Code} {A : Nat → Prop} {D : va_G} {cI cZ cO : ClassId} {a : Nat → Nat} {o : VS} (F : smF p s m args meth c cX8_passSpring 3 none RX8 D (tyL cI cZ cO) A)  (k2 : VS → Int32 → Option (VS)) (hk2 : ∀ (u' : VS) (x1' : Int32), k2 u' x1' = some o → Sm p l e rmX8_passSpring s m args below meth c D A 3 0 0 (smQ below args s D A none (wV cI cZ cO a o)) 2 [(0, .ref (a 0)), (1, .int x1')] [] (wV cI cZ cO a u')) (u : VS) (x1 : Int32) (hf : b_X8_passSpring_2   k2 u x1 = some o) : Sm p l e rmX8_passSpring s m args below meth c D A 3 0 0 (smQ below args s D A none (wV cI cZ cO a o)) 2 [(0, .ref (a 0)), (1, .int x1)] [] (wV cI cZ cO a u) := by
  unfold b_X8_passSpring_2 at hf
  refine sm_iload_n F dX8_passSpring_2 rfl 1 rfl ?_
  refine sm_aload_n F dX8_passSpring_3 rfl 0 rfl ?_
  refine sm_get (v := .int (gV_names u)) F inX8 0 rfl rfl 7 (by decide) qw1_98 rfl rfl dX8_passSpring_4 ?_
  refine sm_icmp_ge (tgt := 32) F dX8_passSpring_7 (by decide) (fun c7 => ?_) (fun c7 => ?_)
  · replace hf := if_t c7 hf
    exact sm_vret F dX8_passSpring_32 (congrArg (fun z => (wV cI cZ cO a z)) (Option.some.inj hf))
  · replace hf := if_f c7 hf
    refine sm_aload_n F dX8_passSpring_10 rfl 0 rfl ?_
    obtain ⟨z11, hz11, hf⟩ := bd_some hf
    refine sm_callV (rest := []) F (ct_X8_leastKnown l D cI cZ cO a hz11) (cut_V_id cI cZ cO a u u) rfl rfl rfl qw3_17 qw3_18 qw3_19 qw1_8 qw3_20 hvX8_leastKnown ⟨Nat.le_of_ble_eq_true rfl, Nat.le_of_ble_eq_true rfl⟩ ⟨Nat.zero_le _, Nat.zero_le _⟩ 0 8 rfl rfl rfl rfl (Nat.le_of_ble_eq_true rfl) E0_b (fun _ _ _ _ _ _ => trivial) rfl dX8_passSpring_11 [.int z11] rfl ?_
    refine sm_istore_n F [(0, .ref (a 0)), (1, .int x1), (2, .int z11)] [1, 2, 0] dX8_passSpring_14 rfl (by decide) rfl ?_
    refine sm_iload_n F dX8_passSpring_15 rfl 2 rfl ?_
    refine sm_bipush F dX8_passSpring_16 kc_b_m9 ?_
    refine sm_icmp_eq (tgt := 26) F dX8_passSpring_18 (by decide) (fun c18 => ?_) (fun c18 => ?_)
    · replace hf := if_t c18 hf
      refine sm_iinc F [(0, .ref (a 0)), (1, .int (x1 + 1)), (2, .int z11)] 1 [1, 0, 2] dX8_passSpring_26 rfl kc_i_1 (by decide) rfl ?_
      refine sm_goto (tgt := 2) F dX8_passSpring_29 (by decide) ?_
      refine sm_sub (lv' := [(0, .ref (a 0)), (1, .int (x1 + 1))]) [0, 1] rfl ?_
      exact hk2 u (x1 + 1) hf
    · replace hf := if_f c18 hf
      refine sm_aload_n F dX8_passSpring_21 rfl 0 rfl ?_
      refine sm_iload_n F dX8_passSpring_22 rfl 2 rfl ?_
      obtain ⟨z23, hz23, hf⟩ := bd_some hf
      refine sm_callV (rest := []) F (ct_X8_forget l D cI cZ cO a hz23) (cut_V_id cI cZ cO a u z23) rfl rfl rfl qw3_39 qw3_41 qw0_12 qw1_8 qw3_42 hvX8_forget ⟨Nat.le_of_ble_eq_true rfl, Nat.le_of_ble_eq_true rfl⟩ ⟨Nat.zero_le _, Nat.zero_le _⟩ 0 8 rfl rfl rfl rfl (Nat.le_of_ble_eq_true rfl) E0_b (fun _ _ _ _ _ _ => trivial) rfl dX8_passSpring_23 [] rfl ?_
      refine sm_iinc F [(0, .ref (a 0)), (1, .int (x1 + 1)), (2, .int z11)] 1 [1, 0, 2] dX8_passSpring_26 rfl kc_i_1 (by decide) rfl ?_
      refine sm_goto (tgt := 2) F dX8_passSpring_29 (by decide) ?_
      refine sm_sub (lv' := [(0, .ref (a 0)), (1, .int (x1 + 1))]) [0, 1] rfl ?_
      exact hk2 z23 (x1 + 1) hf
set_option maxRecDepth 100000 in
set_option maxHeartbeats 4000000 in
theorem s_X8_passSpring_2 {p : Program} {l : Launch} {e : Env} {s : State} {m : MethodId} {args : Array Value} {below : List Frame} {meth : Method} {c : Code} {A : Nat → Prop} {D : va_G} {cI cZ cO : ClassId} {a : Nat → Nat} {o : VS} (F : smF p s m args meth c cX8_passSpring 3 none RX8 D (tyL cI cZ cO) A)   (n : Nat) (u : VS) (x1 : Int32) (hf : f_X8_passSpring_2   n u x1 = some o) : Sm p l e rmX8_passSpring s m args below meth c D A 3 0 0 (smQ below args s D A none (wV cI cZ cO a o)) 2 [(0, .ref (a 0)), (1, .int x1)] [] (wV cI cZ cO a u) :=
  lq2_ind (P := fun (u : VS) (x1 : Int32) => Sm p l e rmX8_passSpring s m args below meth c D A 3 0 0 (smQ below args s D A none (wV cI cZ cO a o)) 2 [(0, .ref (a 0)), (1, .int x1)] [] (wV cI cZ cO a u)) (fun k2 hk2 u x1 h9 => s_X8_passSpring_2_b F   k2 hk2 u x1 h9) n u x1 hf
set_option maxRecDepth 100000 in
set_option maxHeartbeats 4000000 in
theorem ct_X8_passSpring (l : Launch) (D : va_G) (cI cZ cO : ClassId) (a : Nat → Nat) {u : VS} {o : VS} (hf : f_X8_passSpring u = some o) : Ct l yX8_passSpring (uw (Cond.code yX8_passSpring cX8_passSpring 3 none)) rmX8_passSpring D (tyL cI cZ cO) E0 [.ref (a 0)] (wV cI cZ cO a u) none (wV cI cZ cO a o) := by
  refine sm_start (cc := cX8_passSpring) (maxL := 3) (ret := none) (own := RX8) (by decide) rfl rfl (Nat.le_of_ble_eq_true rfl) (lv := [(0, .ref (a 0))]) rfl ?_
  intro p e s m below meth c A F hE hA
  unfold f_X8_passSpring at hf
  refine sm_iconst F dX8_passSpring_0 kc_i_0 ?_
  refine sm_istore_n F [(0, .ref (a 0)), (1, .int (0 : Int32))] [1, 0] dX8_passSpring_1 rfl (by decide) rfl ?_
  exact s_X8_passSpring_2 F  smN u (0 : Int32) hf
/-! SoManyForgotten$Valley.passWeek()V -/
abbrev rmX8_passWeek : Room := { frames := 3, cells := 0, slots := 0, locals := 72 }
set_option maxRecDepth 100000 in
theorem hvX8_passWeek : yX8_passWeek.cls = RX8 ∧ yX8_passWeek.cls ≠ "java/lang/invoke/MethodHandle" ∧ yX8_passWeek.cls ≠ "java/lang/invoke/VarHandle" ∧ (parseMethodDescriptor yX8_passWeek.desc).map (fun d => d.parameters.length) = some 0 := by decide +kernel
set_option maxRecDepth 100000 in
set_option maxHeartbeats 4000000 in
theorem s_X8_passWeek_63 {p : Program} {l : Launch} {e : Env} {s : State} {m : MethodId} {args : Array Value} {below : List Frame} {meth : Method} {c : Code} {A : Nat → Prop} {D : va_G} {cI cZ cO : ClassId} {a : Nat → Nat} {o : VS} (F : smF p s m args meth c cX8_passWeek 3 none RX8 D (tyL cI cZ cO) A)  (k12 : VS → Int32 → Option (VS)) (hk12 : ∀ (u' : VS) (x1' : Int32), k12 u' x1' = some o → Sm p l e rmX8_passWeek s m args below meth c D A 3 0 0 (smQ below args s D A none (wV cI cZ cO a o)) 12 [(0, .ref (a 0)), (1, .int x1')] [] (wV cI cZ cO a u')) (u : VS) (x1 : Int32) (y0 : Int32) (hf : f_X8_passWeek_63  k12  u x1 y0 = some o) : Sm p l e rmX8_passWeek s m args below meth c D A 3 0 0 (smQ below args s D A none (wV cI cZ cO a o)) 63 [(0, .ref (a 0)), (1, .int x1)] [.int y0] (wV cI cZ cO a u) := by
  unfold f_X8_passWeek_63 at hf
  refine sm_istore_n F [(0, .ref (a 0)), (1, .int x1), (2, .int y0)] [1, 2, 0] dX8_passWeek_63 rfl (by decide) rfl ?_
  refine sm_iload_n F dX8_passWeek_64 rfl 2 rfl ?_
  refine sm_if_eq (tgt := 74) F dX8_passWeek_65 (by decide) (fun c65 => ?_) (fun c65 => ?_)
  · replace hf := if_t c65 hf
    refine sm_iinc F [(0, .ref (a 0)), (1, .int (x1 + 1)), (2, .int y0)] 1 [1, 0, 2] dX8_passWeek_74 rfl kc_i_1 (by decide) rfl ?_
    refine sm_goto (tgt := 12) F dX8_passWeek_77 (by decide) ?_
    refine sm_sub (lv' := [(0, .ref (a 0)), (1, .int (x1 + 1))]) [0, 1] rfl ?_
    exact hk12 u (x1 + 1) hf
  · replace hf := if_f c65 hf
    refine sm_aload_n F dX8_passWeek_68 rfl 0 rfl ?_
    refine sm_iload_n F dX8_passWeek_69 rfl 1 rfl ?_
    refine sm_iload_n F dX8_passWeek_70 rfl 2 rfl ?_
    obtain ⟨z71, hz71, hf⟩ := bd_some hf
    refine sm_callV (rest := []) F (ct_X8_rememberMore l D cI cZ cO a hz71) (cut_V_id cI cZ cO a u z71) rfl rfl rfl qw3_9 qw3_11 qw0_10 qw1_8 qw3_12 hvX8_rememberMore ⟨Nat.le_of_ble_eq_true rfl, Nat.le_of_ble_eq_true rfl⟩ ⟨Nat.zero_le _, Nat.zero_le _⟩ 0 8 rfl rfl rfl rfl (Nat.le_of_ble_eq_true rfl) E0_b (fun _ _ _ _ _ _ => trivial) rfl dX8_passWeek_71 [] rfl ?_
    refine sm_iinc F [(0, .ref (a 0)), (1, .int (x1 + 1)), (2, .int y0)] 1 [1, 0, 2] dX8_passWeek_74 rfl kc_i_1 (by decide) rfl ?_
    refine sm_goto (tgt := 12) F dX8_passWeek_77 (by decide) ?_
    refine sm_sub (lv' := [(0, .ref (a 0)), (1, .int (x1 + 1))]) [0, 1] rfl ?_
    exact hk12 z71 (x1 + 1) hf
set_option maxRecDepth 100000 in
set_option maxHeartbeats 4000000 in
theorem s_X8_passWeek_59 {p : Program} {l : Launch} {e : Env} {s : State} {m : MethodId} {args : Array Value} {below : List Frame} {meth : Method} {c : Code} {A : Nat → Prop} {D : va_G} {cI cZ cO : ClassId} {a : Nat → Nat} {o : VS} (F : smF p s m args meth c cX8_passWeek 3 none RX8 D (tyL cI cZ cO) A)  (k12 : VS → Int32 → Option (VS)) (hk12 : ∀ (u' : VS) (x1' : Int32), k12 u' x1' = some o → Sm p l e rmX8_passWeek s m args below meth c D A 3 0 0 (smQ below args s D A none (wV cI cZ cO a o)) 12 [(0, .ref (a 0)), (1, .int x1')] [] (wV cI cZ cO a u')) (u : VS) (x1 : Int32) (y0 : Int32) (hf : f_X8_passWeek_59  k12  u x1 y0 = some o) : Sm p l e rmX8_passWeek s m args below meth c D A 3 0 0 (smQ below args s D A none (wV cI cZ cO a o)) 59 [(0, .ref (a 0)), (1, .int x1)] [.int y0] (wV cI cZ cO a u) := by
  unfold f_X8_passWeek_59 at hf
  refine sm_goto (tgt := 63) F dX8_passWeek_59 (by decide) ?_
  exact s_X8_passWeek_63 F k12 hk12 u x1 y0 hf
set_option maxRecDepth 100000 in
set_option maxHeartbeats 4000000 in
theorem s_X8_passWeek_12_b {p : Program} {l : Launch} {e : Env} {s : State} {m : MethodId} {args : Array Value} {below : List Frame} {meth : Method} {c : Code} {A : Nat → Prop} {D : va_G} {cI cZ cO : ClassId} {a : Nat → Nat} {o : VS} (F : smF p s m args meth c cX8_passWeek 3 none RX8 D (tyL cI cZ cO) A)  (k12 : VS → Int32 → Option (VS)) (hk12 : ∀ (u' : VS) (x1' : Int32), k12 u' x1' = some o → Sm p l e rmX8_passWeek s m args below meth c D A 3 0 0 (smQ below args s D A none (wV cI cZ cO a o)) 12 [(0, .ref (a 0)), (1, .int x1')] [] (wV cI cZ cO a u')) (u : VS) (x1 : Int32) (hf : b_X8_passWeek_12   k12 u x1 = some o) : Sm p l e rmX8_passWeek s m args below meth c D A 3 0 0 (smQ below args s D A none (wV cI cZ cO a o)) 12 [(0, .ref (a 0)), (1, .int x1)] [] (wV cI cZ cO a u) := by
  unfold b_X8_passWeek_12 at hf
  refine sm_iload_n F dX8_passWeek_12 rfl 1 rfl ?_
  refine sm_aload_n F dX8_passWeek_13 rfl 0 rfl ?_
  refine sm_get (v := .int (gV_people u)) F inX8 0 rfl rfl 6 (by decide) qw1_94 rfl rfl dX8_passWeek_14 ?_
  refine sm_icmp_ge (tgt := 80) F dX8_passWeek_17 (by decide) (fun c17 => ?_) (fun c17 => ?_)
  · replace hf := if_t c17 hf
    refine sm_aload_n F dX8_passWeek_80 rfl 0 rfl ?_
    refine sm_get (v := .int (gV_week u)) F inX8 0 rfl rfl 8 (by decide) qw1_101 rfl rfl dX8_passWeek_81 ?_
    refine sm_bipush F dX8_passWeek_84 kc_b_10 ?_
    refine sm_irem F dX8_passWeek_86 (by decide) ?_
    refine sm_if_ne (tgt := 94) F dX8_passWeek_87 (by decide) (fun c87 => ?_) (fun c87 => ?_)
    · replace hf := if_f c87 hf
      exact sm_vret F dX8_passWeek_94 (congrArg (fun z => (wV cI cZ cO a z)) (Option.some.inj hf))
    · replace hf := if_t c87 hf
      refine sm_aload_n F dX8_passWeek_90 rfl 0 rfl ?_
      obtain ⟨z91, hz91, hf⟩ := bd_some hf
      refine sm_callV (rest := []) F (ct_X8_passSpring l D cI cZ cO a hz91) (cut_V_id cI cZ cO a u z91) rfl rfl rfl qw3_13 qw3_15 qw0_11 qw1_8 qw3_16 hvX8_passSpring ⟨Nat.le_of_ble_eq_true rfl, Nat.le_of_ble_eq_true rfl⟩ ⟨Nat.zero_le _, Nat.zero_le _⟩ 0 8 rfl rfl rfl rfl (Nat.le_of_ble_eq_true rfl) E0_b (fun _ _ _ _ _ _ => trivial) rfl dX8_passWeek_91 [] rfl ?_
      exact sm_vret F dX8_passWeek_94 (congrArg (fun z => (wV cI cZ cO a z)) (Option.some.inj hf))
  · replace hf := if_f c17 hf
    refine sm_aload_n F dX8_passWeek_20 rfl 0 rfl ?_
    refine sm_get (v := .ref (a 4)) F inX8 0 rfl rfl 4 (by decide) qw1_89 rfl rfl dX8_passWeek_21 ?_
    refine sm_iload_n F dX8_passWeek_24 rfl 1 rfl ?_
    obtain ⟨h25, hf⟩ := ck_some hf
    refine sm_zald F 4 1 rfl rfl h25 dX8_passWeek_25 ?_
    refine sm_if_eq (tgt := 62) F dX8_passWeek_26 (by decide) (fun c26 => ?_) (fun c26 => ?_)
    · replace hf := if_t c26 hf
      refine sm_iconst F dX8_passWeek_62 kc_i_0 ?_
      exact s_X8_passWeek_63 F k12 hk12 u x1 (0 : Int32) hf
    · replace hf := if_f c26 hf
      refine sm_aload_n F dX8_passWeek_29 rfl 0 rfl ?_
      refine sm_get (v := .ref (a 6)) F inX8 0 rfl rfl 0 (by decide) qw1_78 rfl rfl dX8_passWeek_30 ?_
      refine sm_aload_n F dX8_passWeek_33 rfl 0 rfl ?_
      refine sm_get (v := .ref (a 1)) F inX8 0 rfl rfl 1 (by decide) qw1_79 rfl rfl dX8_passWeek_34 ?_
      refine sm_iload_n F dX8_passWeek_37 rfl 1 rfl ?_
      obtain ⟨h38, hf⟩ := ck_some hf
      refine sm_iald F 1 0 rfl rfl h38 dX8_passWeek_38 ?_
      obtain ⟨h39, hf⟩ := ck_some hf
      refine sm_aald (f := fun j => some (kd6 (a 7) (a 8) (a 9) (a 10) (a 11) (a 12) j)) F 6 2 rfl rfl h39 rfl dX8_passWeek_39 ?_
      refine sm_aload_n F dX8_passWeek_40 rfl 0 rfl ?_
      refine sm_get (v := .int (gV_week u)) F inX8 0 rfl rfl 8 (by decide) qw1_101 rfl rfl dX8_passWeek_41 ?_
      refine sm_aload_n F dX8_passWeek_44 rfl 0 rfl ?_
      refine sm_get (v := .ref (a 3)) F inX8 0 rfl rfl 3 (by decide) qw1_85 rfl rfl dX8_passWeek_45 ?_
      refine sm_iload_n F dX8_passWeek_48 rfl 1 rfl ?_
      obtain ⟨h49, hf⟩ := ck_some hf
      refine sm_iald F 3 0 rfl rfl h49 dX8_passWeek_49 ?_
      refine sm_aload_n F dX8_passWeek_50 rfl 0 rfl ?_
      refine sm_get (v := .ref (a 2)) F inX8 0 rfl rfl 2 (by decide) qw1_82 rfl rfl dX8_passWeek_51 ?_
      refine sm_iload_n F dX8_passWeek_54 rfl 1 rfl ?_
      obtain ⟨h55, hf⟩ := ck_some hf
      refine sm_iald F 2 0 rfl rfl h55 dX8_passWeek_55 ?_
      obtain ⟨z56, hz56, hf⟩ := bd_some hf
      rcases kd_change hz56 with ⟨e56, hz56⟩ | ⟨e56, hz56⟩ | ⟨e56, hz56⟩ | ⟨e56, hz56⟩ | ⟨e56, hz56⟩ | ⟨e56, hz56⟩
      · rw [show Int32.toNatClampNeg ((gV_kind u) (Int32.toNatClampNeg x1)) = 0 by rw [e56]; rfl]
        refine sm_callV (rest := []) F (ct_X4_change (ci := 4) l D (tyL cI cZ cO) (fun i => a (7 + i)) rfl hz56) (cut_V_p0 cI cZ cO a u) rfl rfl rfl qw2_226 qw2_227 qw2_228 qw1_2 qw3_8 hvX4_change ⟨Nat.le_of_ble_eq_true rfl, Nat.le_of_ble_eq_true rfl⟩ ⟨Nat.zero_le _, Nat.zero_le _⟩ 0 4 rfl rfl rfl rfl (Nat.le_of_ble_eq_true rfl) E0_b (fun _ _ _ _ _ _ => trivial) rfl dX8_passWeek_56 [.int z56] rfl ?_
        exact s_X8_passWeek_59 F k12 hk12 u x1 z56 hf
      · rw [show Int32.toNatClampNeg ((gV_kind u) (Int32.toNatClampNeg x1)) = 1 by rw [e56]; rfl]
        refine sm_callO (rest := []) F (ct_X0_change (ci := 0) l D (tyL cI cZ cO) (fun i => a (8 + i)) rfl hz56) (cut_V_p1 cI cZ cO a u) rfl rfl rfl qw2_226p qw2_229p qw2_227p qw2_230p qw2_231 qw1_3 qw2_232 qw3_8 hk_change ⟨Nat.le_of_ble_eq_true rfl, Nat.le_of_ble_eq_true rfl⟩ ⟨Nat.zero_le _, Nat.zero_le _⟩ 0 0 rfl rfl rfl rfl (Nat.le_of_ble_eq_true rfl) E0_b (fun _ _ _ _ _ _ => trivial) rfl dX8_passWeek_56 [.int z56] rfl ?_
        exact s_X8_passWeek_59 F k12 hk12 u x1 z56 hf
      · rw [show Int32.toNatClampNeg ((gV_kind u) (Int32.toNatClampNeg x1)) = 2 by rw [e56]; rfl]
        refine sm_callO (rest := []) F (ct_X2_change (ci := 2) l D (tyL cI cZ cO) (fun i => a (9 + i)) rfl hz56) (cut_V_p2 cI cZ cO a u) rfl rfl rfl qw2_226p qw2_229p qw2_227p qw2_236p qw2_237 qw1_4 qw2_238 qw3_8 hk_change ⟨Nat.le_of_ble_eq_true rfl, Nat.le_of_ble_eq_true rfl⟩ ⟨Nat.zero_le _, Nat.zero_le _⟩ 0 2 rfl rfl rfl rfl (Nat.le_of_ble_eq_true rfl) E0_b (fun _ _ _ _ _ _ => trivial) rfl dX8_passWeek_56 [.int z56] rfl ?_
        exact s_X8_passWeek_59 F k12 hk12 u x1 z56 hf
      · rw [show Int32.toNatClampNeg ((gV_kind u) (Int32.toNatClampNeg x1)) = 3 by rw [e56]; rfl]
        refine sm_callO (rest := []) F (ct_X5_change (ci := 5) l D (tyL cI cZ cO) (fun i => a (10 + i)) rfl hz56) (cut_V_p3 cI cZ cO a u) rfl rfl rfl qw2_226p qw2_229p qw2_227p qw3_0p qw3_1 qw1_5 qw3_2 qw3_8 hk_change ⟨Nat.le_of_ble_eq_true rfl, Nat.le_of_ble_eq_true rfl⟩ ⟨Nat.zero_le _, Nat.zero_le _⟩ 0 5 rfl rfl rfl rfl (Nat.le_of_ble_eq_true rfl) E0_b (fun _ _ _ _ _ _ => trivial) rfl dX8_passWeek_56 [.int z56] rfl ?_
        exact s_X8_passWeek_59 F k12 hk12 u x1 z56 hf
      · rw [show Int32.toNatClampNeg ((gV_kind u) (Int32.toNatClampNeg x1)) = 4 by rw [e56]; rfl]
        refine sm_callO (rest := []) F (ct_X1_change (ci := 1) l D (tyL cI cZ cO) (fun i => a (11 + i)) rfl hz56) (cut_V_p4 cI cZ cO a u) rfl rfl rfl qw2_226p qw2_229p qw2_227p qw2_233p qw2_234 qw1_6 qw2_235 qw3_8 hk_change ⟨Nat.le_of_ble_eq_true rfl, Nat.le_of_ble_eq_true rfl⟩ ⟨Nat.zero_le _, Nat.zero_le _⟩ 0 1 rfl rfl rfl rfl (Nat.le_of_ble_eq_true rfl) E0_b (fun _ _ _ _ _ _ => trivial) rfl dX8_passWeek_56 [.int z56] rfl ?_
        exact s_X8_passWeek_59 F k12 hk12 u x1 z56 hf
      · rw [show Int32.toNatClampNeg ((gV_kind u) (Int32.toNatClampNeg x1)) = 5 by rw [e56]; rfl]
        refine sm_callO (rest := []) F (ct_X9_change (ci := 9) l D (tyL cI cZ cO) (fun i => a (12 + i)) rfl hz56) (cut_V_p5 cI cZ cO a u) rfl rfl rfl qw2_226p qw2_229p qw2_227p qw3_4p qw3_5 qw1_7 qw3_6 qw3_8 hk_change ⟨Nat.le_of_ble_eq_true rfl, Nat.le_of_ble_eq_true rfl⟩ ⟨Nat.zero_le _, Nat.zero_le _⟩ 0 9 rfl rfl rfl rfl (Nat.le_of_ble_eq_true rfl) E0_b (fun _ _ _ _ _ _ => trivial) rfl dX8_passWeek_56 [.int z56] rfl ?_
        exact s_X8_passWeek_59 F k12 hk12 u x1 z56 hf
set_option maxRecDepth 100000 in
set_option maxHeartbeats 4000000 in
theorem s_X8_passWeek_12 {p : Program} {l : Launch} {e : Env} {s : State} {m : MethodId} {args : Array Value} {below : List Frame} {meth : Method} {c : Code} {A : Nat → Prop} {D : va_G} {cI cZ cO : ClassId} {a : Nat → Nat} {o : VS} (F : smF p s m args meth c cX8_passWeek 3 none RX8 D (tyL cI cZ cO) A)   (n : Nat) (u : VS) (x1 : Int32) (hf : f_X8_passWeek_12   n u x1 = some o) : Sm p l e rmX8_passWeek s m args below meth c D A 3 0 0 (smQ below args s D A none (wV cI cZ cO a o)) 12 [(0, .ref (a 0)), (1, .int x1)] [] (wV cI cZ cO a u) :=
  lq2_ind (P := fun (u : VS) (x1 : Int32) => Sm p l e rmX8_passWeek s m args below meth c D A 3 0 0 (smQ below args s D A none (wV cI cZ cO a o)) 12 [(0, .ref (a 0)), (1, .int x1)] [] (wV cI cZ cO a u)) (fun k12 hk12 u x1 h9 => s_X8_passWeek_12_b F   k12 hk12 u x1 h9) n u x1 hf
set_option maxRecDepth 100000 in
set_option maxHeartbeats 4000000 in
theorem ct_X8_passWeek (l : Launch) (D : va_G) (cI cZ cO : ClassId) (a : Nat → Nat) {u : VS} {o : VS} (hf : f_X8_passWeek u = some o) : Ct l yX8_passWeek (uw (Cond.code yX8_passWeek cX8_passWeek 3 none)) rmX8_passWeek D (tyL cI cZ cO) E0 [.ref (a 0)] (wV cI cZ cO a u) none (wV cI cZ cO a o) := by
  refine sm_start (cc := cX8_passWeek) (maxL := 3) (ret := none) (own := RX8) (by decide) rfl rfl (Nat.le_of_ble_eq_true rfl) (lv := [(0, .ref (a 0))]) rfl ?_
  intro p e s m below meth c A F hE hA
  unfold f_X8_passWeek at hf
  refine sm_aload_n F dX8_passWeek_0 rfl 0 rfl ?_
  refine sm_dup F dX8_passWeek_1 rfl ?_
  refine sm_get (v := .int (gV_week u)) F inX8 0 rfl rfl 8 (by decide) qw1_101 rfl rfl dX8_passWeek_2 ?_
  refine sm_iconst F dX8_passWeek_5 kc_i_1 ?_
  refine sm_iadd F dX8_passWeek_6 ?_
  refine sm_put F inX8 tyX8 tyX8_ok nmX8 0 rfl rfl 8 (by decide) qw1_101 rfl rfl rfl rfl (Nat.le_of_ble_eq_true rfl) (wV cI cZ cO a (sV_week u ((gV_week u) + (1 : Int32)))) rfl dX8_passWeek_7 ?_
  refine sm_iconst F dX8_passWeek_10 kc_i_0 ?_
  refine sm_istore_n F [(0, .ref (a 0)), (1, .int (0 : Int32))] [1, 0] dX8_passWeek_11 rfl (by decide) rfl ?_
  exact s_X8_passWeek_12 F  smN (sV_week u ((gV_week u) + (1 : Int32))) (0 : Int32) hf
/-! SoManyForgotten$Valley.passWeeks(I)V -/
abbrev rmX8_passWeeks : Room := { frames := 4, cells := 0, slots := 0, locals := 94 }
set_option maxRecDepth 100000 in
theorem hvX8_passWeeks : yX8_passWeeks.cls = RX8 ∧ yX8_passWeeks.cls ≠ "java/lang/invoke/MethodHandle" ∧ yX8_passWeeks.cls ≠ "java/lang/invoke/VarHandle" ∧ (parseMethodDescriptor yX8_passWeeks.desc).map (fun d => d.parameters.length) = some 1 := by decide +kernel
set_option maxRecDepth 100000 in
set_option maxHeartbeats 4000000 in
theorem s_X8_passWeeks_2_b {p : Program} {l : Launch} {e : Env} {s : State} {m : MethodId} {args : Array Value} {below : List Frame} {meth : Method} {c : Code} {A : Nat → Prop} {D : va_G} {cI cZ cO : ClassId} {a : Nat → Nat} {o : VS} (F : smF p s m args meth c cX8_passWeeks 3 none RX8 D (tyL cI cZ cO) A) (x1 : Int32) (k2 : VS → Int32 → Option (VS)) (hk2 : ∀ (u' : VS) (x2' : Int32), k2 u' x2' = some o → Sm p l e rmX8_passWeeks s m args below meth c D A 3 0 0 (smQ below args s D A none (wV cI cZ cO a o)) 2 [(0, .ref (a 0)), (1, .int x1), (2, .int x2')] [] (wV cI cZ cO a u')) (u : VS) (x2 : Int32) (hf : b_X8_passWeeks_2 x1  k2 u x2 = some o) : Sm p l e rmX8_passWeeks s m args below meth c D A 3 0 0 (smQ below args s D A none (wV cI cZ cO a o)) 2 [(0, .ref (a 0)), (1, .int x1), (2, .int x2)] [] (wV cI cZ cO a u) := by
  unfold b_X8_passWeeks_2 at hf
  refine sm_iload_n F dX8_passWeeks_2 rfl 2 rfl ?_
  refine sm_iload_n F dX8_passWeeks_3 rfl 1 rfl ?_
  refine sm_icmp_ge (tgt := 17) F dX8_passWeeks_4 (by decide) (fun c4 => ?_) (fun c4 => ?_)
  · replace hf := if_t c4 hf
    exact sm_vret F dX8_passWeeks_17 (congrArg (fun z => (wV cI cZ cO a z)) (Option.some.inj hf))
  · replace hf := if_f c4 hf
    refine sm_aload_n F dX8_passWeeks_7 rfl 0 rfl ?_
    obtain ⟨z8, hz8, hf⟩ := bd_some hf
    refine sm_callV (rest := []) F (ct_X8_passWeek l D cI cZ cO a hz8) (cut_V_id cI cZ cO a u z8) rfl rfl rfl qw3_141 qw2_223 qw2_224 qw1_8 qw2_225 hvX8_passWeek ⟨Nat.le_of_ble_eq_true rfl, Nat.le_of_ble_eq_true rfl⟩ ⟨Nat.zero_le _, Nat.zero_le _⟩ 0 8 rfl rfl rfl rfl (Nat.le_of_ble_eq_true rfl) E0_b (fun _ _ _ _ _ _ => trivial) rfl dX8_passWeeks_8 [] rfl ?_
    refine sm_iinc F [(0, .ref (a 0)), (1, .int x1), (2, .int (x2 + 1))] 2 [1, 2, 0] dX8_passWeeks_11 rfl kc_i_1 (by decide) rfl ?_
    refine sm_goto (tgt := 2) F dX8_passWeeks_14 (by decide) ?_
    exact hk2 z8 (x2 + 1) hf
set_option maxRecDepth 100000 in
set_option maxHeartbeats 4000000 in
theorem s_X8_passWeeks_2 {p : Program} {l : Launch} {e : Env} {s : State} {m : MethodId} {args : Array Value} {below : List Frame} {meth : Method} {c : Code} {A : Nat → Prop} {D : va_G} {cI cZ cO : ClassId} {a : Nat → Nat} {o : VS} (F : smF p s m args meth c cX8_passWeeks 3 none RX8 D (tyL cI cZ cO) A) (x1 : Int32)  (n : Nat) (u : VS) (x2 : Int32) (hf : f_X8_passWeeks_2 x1  n u x2 = some o) : Sm p l e rmX8_passWeeks s m args below meth c D A 3 0 0 (smQ below args s D A none (wV cI cZ cO a o)) 2 [(0, .ref (a 0)), (1, .int x1), (2, .int x2)] [] (wV cI cZ cO a u) :=
  lq2_ind (P := fun (u : VS) (x2 : Int32) => Sm p l e rmX8_passWeeks s m args below meth c D A 3 0 0 (smQ below args s D A none (wV cI cZ cO a o)) 2 [(0, .ref (a 0)), (1, .int x1), (2, .int x2)] [] (wV cI cZ cO a u)) (fun k2 hk2 u x2 h9 => s_X8_passWeeks_2_b F x1  k2 hk2 u x2 h9) n u x2 hf
set_option maxRecDepth 100000 in
set_option maxHeartbeats 4000000 in
theorem ct_X8_passWeeks (l : Launch) (D : va_G) (cI cZ cO : ClassId) (a : Nat → Nat) {u : VS} {x1 : Int32} {o : VS} (hf : f_X8_passWeeks u x1 = some o) : Ct l yX8_passWeeks (uw (Cond.code yX8_passWeeks cX8_passWeeks 3 none)) rmX8_passWeeks D (tyL cI cZ cO) E0 [.ref (a 0), .int x1] (wV cI cZ cO a u) none (wV cI cZ cO a o) := by
  refine sm_start (cc := cX8_passWeeks) (maxL := 3) (ret := none) (own := RX8) (by decide) rfl rfl (Nat.le_of_ble_eq_true rfl) (lv := [(0, .ref (a 0)), (1, .int x1)]) rfl ?_
  intro p e s m below meth c A F hE hA
  unfold f_X8_passWeeks at hf
  refine sm_iconst F dX8_passWeeks_0 kc_i_0 ?_
  refine sm_istore_n F [(0, .ref (a 0)), (1, .int x1), (2, .int (0 : Int32))] [1, 2, 0] dX8_passWeeks_1 rfl (by decide) rfl ?_
  exact s_X8_passWeeks_2 F x1 smN u (0 : Int32) hf
/-! SoManyForgotten$Valley.passUntilForgotten(I)I -/
abbrev rmX8_passUntilForgotten : Room := { frames := 4, cells := 0, slots := 0, locals := 94 }
set_option maxRecDepth 100000 in
theorem hvX8_passUntilForgotten : yX8_passUntilForgotten.cls = RX8 ∧ yX8_passUntilForgotten.cls ≠ "java/lang/invoke/MethodHandle" ∧ yX8_passUntilForgotten.cls ≠ "java/lang/invoke/VarHandle" ∧ (parseMethodDescriptor yX8_passUntilForgotten.desc).map (fun d => d.parameters.length) = some 1 := by decide +kernel
set_option maxRecDepth 100000 in
set_option maxHeartbeats 4000000 in
theorem s_X8_passUntilForgotten_2_b {p : Program} {l : Launch} {e : Env} {s : State} {m : MethodId} {args : Array Value} {below : List Frame} {meth : Method} {c : Code} {A : Nat → Prop} {D : va_G} {cI cZ cO : ClassId} {a : Nat → Nat} {r : Int32} {o : VS} (F : smF p s m args meth c cX8_passUntilForgotten 3 (some .int) RX8 D (tyL cI cZ cO) A) (x1 : Int32) (k2 : VS → Int32 → Option (Int32 × (VS))) (hk2 : ∀ (u' : VS) (x2' : Int32), k2 u' x2' = some (r, o) → Sm p l e rmX8_passUntilForgotten s m args below meth c D A 3 0 0 (smQ below args s D A (some (.int r)) (wV cI cZ cO a o)) 2 [(0, .ref (a 0)), (1, .int x1), (2, .int x2')] [] (wV cI cZ cO a u')) (u : VS) (x2 : Int32) (hf : b_X8_passUntilForgotten_2 x1  k2 u x2 = some (r, o)) : Sm p l e rmX8_passUntilForgotten s m args below meth c D A 3 0 0 (smQ below args s D A (some (.int r)) (wV cI cZ cO a o)) 2 [(0, .ref (a 0)), (1, .int x1), (2, .int x2)] [] (wV cI cZ cO a u) := by
  unfold b_X8_passUntilForgotten_2 at hf
  refine sm_iload_n F dX8_passUntilForgotten_2 rfl 2 rfl ?_
  refine sm_bipush F dX8_passUntilForgotten_3 kc_b_99 ?_
  refine sm_icmp_gt (tgt := 29) F dX8_passUntilForgotten_5 (by decide) (fun c5 => ?_) (fun c5 => ?_)
  · replace hf := if_t c5 hf
    refine sm_bipush F dX8_passUntilForgotten_29 kc_b_100 ?_
    exact sm_iret F dX8_passUntilForgotten_31 (Prod.mk.inj (Option.some.inj hf)).1 (congrArg (fun z => (wV cI cZ cO a z)) (Prod.mk.inj (Option.some.inj hf)).2)
  · replace hf := if_f c5 hf
    refine sm_aload_n F dX8_passUntilForgotten_8 rfl 0 rfl ?_
    refine sm_get (v := .ref (a 4)) F inX8 0 rfl rfl 4 (by decide) qw1_89 rfl rfl dX8_passUntilForgotten_9 ?_
    refine sm_iload_n F dX8_passUntilForgotten_12 rfl 1 rfl ?_
    obtain ⟨h13, hf⟩ := ck_some hf
    refine sm_zald F 4 1 rfl rfl h13 dX8_passUntilForgotten_13 ?_
    refine sm_if_ne (tgt := 19) F dX8_passUntilForgotten_14 (by decide) (fun c14 => ?_) (fun c14 => ?_)
    · replace hf := if_f c14 hf
      refine sm_aload_n F dX8_passUntilForgotten_19 rfl 0 rfl ?_
      obtain ⟨z20, hz20, hf⟩ := bd_some hf
      refine sm_callV (rest := []) F (ct_X8_passWeek l D cI cZ cO a hz20) (cut_V_id cI cZ cO a u z20) rfl rfl rfl qw3_141 qw2_223 qw2_224 qw1_8 qw2_225 hvX8_passWeek ⟨Nat.le_of_ble_eq_true rfl, Nat.le_of_ble_eq_true rfl⟩ ⟨Nat.zero_le _, Nat.zero_le _⟩ 0 8 rfl rfl rfl rfl (Nat.le_of_ble_eq_true rfl) E0_b (fun _ _ _ _ _ _ => trivial) rfl dX8_passUntilForgotten_20 [] rfl ?_
      refine sm_iinc F [(0, .ref (a 0)), (1, .int x1), (2, .int (x2 + 1))] 2 [1, 2, 0] dX8_passUntilForgotten_23 rfl kc_i_1 (by decide) rfl ?_
      refine sm_goto (tgt := 2) F dX8_passUntilForgotten_26 (by decide) ?_
      exact hk2 z20 (x2 + 1) hf
    · replace hf := if_t c14 hf
      refine sm_iload_n F dX8_passUntilForgotten_17 rfl 2 rfl ?_
      exact sm_iret F dX8_passUntilForgotten_18 (Prod.mk.inj (Option.some.inj hf)).1 (congrArg (fun z => (wV cI cZ cO a z)) (Prod.mk.inj (Option.some.inj hf)).2)
set_option maxRecDepth 100000 in
set_option maxHeartbeats 4000000 in
theorem s_X8_passUntilForgotten_2 {p : Program} {l : Launch} {e : Env} {s : State} {m : MethodId} {args : Array Value} {below : List Frame} {meth : Method} {c : Code} {A : Nat → Prop} {D : va_G} {cI cZ cO : ClassId} {a : Nat → Nat} {r : Int32} {o : VS} (F : smF p s m args meth c cX8_passUntilForgotten 3 (some .int) RX8 D (tyL cI cZ cO) A) (x1 : Int32)  (n : Nat) (u : VS) (x2 : Int32) (hf : f_X8_passUntilForgotten_2 x1  n u x2 = some (r, o)) : Sm p l e rmX8_passUntilForgotten s m args below meth c D A 3 0 0 (smQ below args s D A (some (.int r)) (wV cI cZ cO a o)) 2 [(0, .ref (a 0)), (1, .int x1), (2, .int x2)] [] (wV cI cZ cO a u) :=
  lq2_ind (P := fun (u : VS) (x2 : Int32) => Sm p l e rmX8_passUntilForgotten s m args below meth c D A 3 0 0 (smQ below args s D A (some (.int r)) (wV cI cZ cO a o)) 2 [(0, .ref (a 0)), (1, .int x1), (2, .int x2)] [] (wV cI cZ cO a u)) (fun k2 hk2 u x2 h9 => s_X8_passUntilForgotten_2_b F x1  k2 hk2 u x2 h9) n u x2 hf
set_option maxRecDepth 100000 in
set_option maxHeartbeats 4000000 in
theorem ct_X8_passUntilForgotten (l : Launch) (D : va_G) (cI cZ cO : ClassId) (a : Nat → Nat) {u : VS} {x1 : Int32} {r : Int32} {o : VS} (hf : f_X8_passUntilForgotten u x1 = some (r, o)) : Ct l yX8_passUntilForgotten (uw (Cond.code yX8_passUntilForgotten cX8_passUntilForgotten 3 (some .int))) rmX8_passUntilForgotten D (tyL cI cZ cO) E0 [.ref (a 0), .int x1] (wV cI cZ cO a u) (some (.int r)) (wV cI cZ cO a o) := by
  refine sm_start (cc := cX8_passUntilForgotten) (maxL := 3) (ret := (some .int)) (own := RX8) (by decide) rfl rfl (Nat.le_of_ble_eq_true rfl) (lv := [(0, .ref (a 0)), (1, .int x1)]) rfl ?_
  intro p e s m below meth c A F hE hA
  unfold f_X8_passUntilForgotten at hf
  refine sm_iconst F dX8_passUntilForgotten_0 kc_i_0 ?_
  refine sm_istore_n F [(0, .ref (a 0)), (1, .int x1), (2, .int (0 : Int32))] [1, 2, 0] dX8_passUntilForgotten_1 rfl (by decide) rfl ?_
  exact s_X8_passUntilForgotten_2 F x1 smN u (0 : Int32) hf
/-! SoManyForgotten$Valley.hereBits()I -/
abbrev rmX8_hereBits : Room := { frames := 0, cells := 0, slots := 0, locals := 0 }
set_option maxRecDepth 100000 in
theorem hvX8_hereBits : yX8_hereBits.cls = RX8 ∧ yX8_hereBits.cls ≠ "java/lang/invoke/MethodHandle" ∧ yX8_hereBits.cls ≠ "java/lang/invoke/VarHandle" ∧ (parseMethodDescriptor yX8_hereBits.desc).map (fun d => d.parameters.length) = some 0 := by decide +kernel
set_option maxRecDepth 100000 in
set_option maxHeartbeats 4000000 in
theorem s_X8_hereBits_4_b {p : Program} {l : Launch} {e : Env} {s : State} {m : MethodId} {args : Array Value} {below : List Frame} {meth : Method} {c : Code} {A : Nat → Prop} {D : va_G} {cI cZ cO : ClassId} {a : Nat → Nat} {r : Int32} (F : smF p s m args meth c cX8_hereBits 3 (some .int) RX8 D (tyL cI cZ cO) A) (u : VS) (k4 : Int32 → Int32 → Option Int32) (hk4 : ∀ (x1' : Int32) (x2' : Int32), k4 x1' x2' = some r → Sm p l e rmX8_hereBits s m args below meth c D A 3 0 0 (smQ below args s D A (some (.int r)) (wV cI cZ cO a u)) 4 [(0, .ref (a 0)), (1, .int x1'), (2, .int x2')] [] (wV cI cZ cO a u)) (x1 : Int32) (x2 : Int32) (hf : b_X8_hereBits_4 u  k4 x1 x2 = some r) : Sm p l e rmX8_hereBits s m args below meth c D A 3 0 0 (smQ below args s D A (some (.int r)) (wV cI cZ cO a u)) 4 [(0, .ref (a 0)), (1, .int x1), (2, .int x2)] [] (wV cI cZ cO a u) := by
  unfold b_X8_hereBits_4 at hf
  refine sm_iload_n F dX8_hereBits_4 rfl 2 rfl ?_
  refine sm_aload_n F dX8_hereBits_5 rfl 0 rfl ?_
  refine sm_get (v := .int (gV_people u)) F inX8 0 rfl rfl 6 (by decide) qw1_94 rfl rfl dX8_hereBits_6 ?_
  refine sm_icmp_ge (tgt := 37) F dX8_hereBits_9 (by decide) (fun c9 => ?_) (fun c9 => ?_)
  · replace hf := if_t c9 hf
    refine sm_iload_n F dX8_hereBits_37 rfl 1 rfl ?_
    exact sm_iret F dX8_hereBits_38 (Option.some.inj hf) rfl
  · replace hf := if_f c9 hf
    refine sm_iload_n F dX8_hereBits_12 rfl 1 rfl ?_
    refine sm_aload_n F dX8_hereBits_13 rfl 0 rfl ?_
    refine sm_get (v := .ref (a 4)) F inX8 0 rfl rfl 4 (by decide) qw1_89 rfl rfl dX8_hereBits_14 ?_
    refine sm_iload_n F dX8_hereBits_17 rfl 2 rfl ?_
    obtain ⟨h18, hf⟩ := ck_some hf
    refine sm_zald F 4 1 rfl rfl h18 dX8_hereBits_18 ?_
    refine sm_if_eq (tgt := 28) F dX8_hereBits_19 (by decide) (fun c19 => ?_) (fun c19 => ?_)
    · replace hf := if_t c19 hf
      refine sm_iconst F dX8_hereBits_28 kc_i_0 ?_
      refine sm_ior F dX8_hereBits_29 ?_
      refine sm_istore_n F [(0, .ref (a 0)), (1, .int (x1 ||| (0 : Int32))), (2, .int x2)] [1, 0, 2] dX8_hereBits_30 rfl (by decide) rfl ?_
      refine sm_iinc F [(0, .ref (a 0)), (1, .int (x1 ||| (0 : Int32))), (2, .int (x2 + 1))] 2 [1, 2, 0] dX8_hereBits_31 rfl kc_i_1 (by decide) rfl ?_
      refine sm_goto (tgt := 4) F dX8_hereBits_34 (by decide) ?_
      exact hk4 (x1 ||| (0 : Int32)) (x2 + 1) hf
    · replace hf := if_f c19 hf
      refine sm_iconst F dX8_hereBits_22 kc_i_1 ?_
      refine sm_iload_n F dX8_hereBits_23 rfl 2 rfl ?_
      refine sm_ishl F dX8_hereBits_24 ?_
      refine sm_goto (tgt := 29) F dX8_hereBits_25 (by decide) ?_
      refine sm_ior F dX8_hereBits_29 ?_
      refine sm_istore_n F [(0, .ref (a 0)), (1, .int (x1 ||| ((1 : Int32) <<< (x2 &&& 31)))), (2, .int x2)] [1, 0, 2] dX8_hereBits_30 rfl (by decide) rfl ?_
      refine sm_iinc F [(0, .ref (a 0)), (1, .int (x1 ||| ((1 : Int32) <<< (x2 &&& 31)))), (2, .int (x2 + 1))] 2 [1, 2, 0] dX8_hereBits_31 rfl kc_i_1 (by decide) rfl ?_
      refine sm_goto (tgt := 4) F dX8_hereBits_34 (by decide) ?_
      exact hk4 (x1 ||| ((1 : Int32) <<< (x2 &&& 31))) (x2 + 1) hf
set_option maxRecDepth 100000 in
set_option maxHeartbeats 4000000 in
theorem s_X8_hereBits_4 {p : Program} {l : Launch} {e : Env} {s : State} {m : MethodId} {args : Array Value} {below : List Frame} {meth : Method} {c : Code} {A : Nat → Prop} {D : va_G} {cI cZ cO : ClassId} {a : Nat → Nat} {r : Int32} (F : smF p s m args meth c cX8_hereBits 3 (some .int) RX8 D (tyL cI cZ cO) A) (u : VS)  (n : Nat) (x1 : Int32) (x2 : Int32) (hf : f_X8_hereBits_4 u  n x1 x2 = some r) : Sm p l e rmX8_hereBits s m args below meth c D A 3 0 0 (smQ below args s D A (some (.int r)) (wV cI cZ cO a u)) 4 [(0, .ref (a 0)), (1, .int x1), (2, .int x2)] [] (wV cI cZ cO a u) :=
  lq2_ind (P := fun (x1 : Int32) (x2 : Int32) => Sm p l e rmX8_hereBits s m args below meth c D A 3 0 0 (smQ below args s D A (some (.int r)) (wV cI cZ cO a u)) 4 [(0, .ref (a 0)), (1, .int x1), (2, .int x2)] [] (wV cI cZ cO a u)) (fun k4 hk4 x1 x2 h9 => s_X8_hereBits_4_b F u  k4 hk4 x1 x2 h9) n x1 x2 hf
set_option maxRecDepth 100000 in
set_option maxHeartbeats 4000000 in
theorem ct_X8_hereBits (l : Launch) (D : va_G) (cI cZ cO : ClassId) (a : Nat → Nat) {u : VS} {r : Int32} (hf : f_X8_hereBits u = some r) : Ct l yX8_hereBits (uw (Cond.code yX8_hereBits cX8_hereBits 3 (some .int))) rmX8_hereBits D (tyL cI cZ cO) E0 [.ref (a 0)] (wV cI cZ cO a u) (some (.int r)) (wV cI cZ cO a u) := by
  refine sm_start (cc := cX8_hereBits) (maxL := 3) (ret := (some .int)) (own := RX8) (by decide) rfl rfl (Nat.le_of_ble_eq_true rfl) (lv := [(0, .ref (a 0))]) rfl ?_
  intro p e s m below meth c A F hE hA
  unfold f_X8_hereBits at hf
  refine sm_iconst F dX8_hereBits_0 kc_i_0 ?_
  refine sm_istore_n F [(0, .ref (a 0)), (1, .int (0 : Int32))] [1, 0] dX8_hereBits_1 rfl (by decide) rfl ?_
  refine sm_iconst F dX8_hereBits_2 kc_i_0 ?_
  refine sm_istore_n F [(0, .ref (a 0)), (1, .int (0 : Int32)), (2, .int (0 : Int32))] [1, 2, 0] dX8_hereBits_3 rfl (by decide) rfl ?_
  exact s_X8_hereBits_4 F u smN (0 : Int32) (0 : Int32) hf
/-! SoManyForgotten$Valley.has(I)Z -/
abbrev rmX8_has : Room := { frames := 0, cells := 0, slots := 0, locals := 0 }
set_option maxRecDepth 100000 in
theorem hvX8_has : yX8_has.cls = RX8 ∧ yX8_has.cls ≠ "java/lang/invoke/MethodHandle" ∧ yX8_has.cls ≠ "java/lang/invoke/VarHandle" ∧ (parseMethodDescriptor yX8_has.desc).map (fun d => d.parameters.length) = some 1 := by decide +kernel
set_option maxRecDepth 100000 in
set_option maxHeartbeats 4000000 in
theorem ct_X8_has (l : Launch) (D : va_G) (cI cZ cO : ClassId) (a : Nat → Nat) {u : VS} {x1 : Int32} {r : Int32} (hf : f_X8_has u x1 = some r) : Ct l yX8_has (uw (Cond.code yX8_has cX8_has 2 (some .boolean))) rmX8_has D (tyL cI cZ cO) E0 [.ref (a 0), .int x1] (wV cI cZ cO a u) (some (.int r)) (wV cI cZ cO a u) := by
  refine sm_start (cc := cX8_has) (maxL := 2) (ret := (some .boolean)) (own := RX8) (by decide) rfl rfl (Nat.le_of_ble_eq_true rfl) (lv := [(0, .ref (a 0)), (1, .int x1)]) rfl ?_
  intro p e s m below meth c A F hE hA
  unfold f_X8_has at hf
  refine sm_iload_n F dX8_has_0 rfl 1 rfl ?_
  refine sm_if_lt (tgt := 16) F dX8_has_1 (by decide) (fun c1 => ?_) (fun c1 => ?_)
  · replace hf := if_t c1 hf
    refine sm_iconst F dX8_has_16 kc_i_0 ?_
    exact sm_zret F dX8_has_17 rfl (Option.some.inj hf) rfl
  · replace hf := if_f c1 hf
    refine sm_iload_n F dX8_has_4 rfl 1 rfl ?_
    refine sm_aload_n F dX8_has_5 rfl 0 rfl ?_
    refine sm_get (v := .int (gV_people u)) F inX8 0 rfl rfl 6 (by decide) qw1_94 rfl rfl dX8_has_6 ?_
    refine sm_icmp_ge (tgt := 16) F dX8_has_9 (by decide) (fun c9 => ?_) (fun c9 => ?_)
    · replace hf := if_t c9 hf
      refine sm_iconst F dX8_has_16 kc_i_0 ?_
      exact sm_zret F dX8_has_17 rfl (Option.some.inj hf) rfl
    · replace hf := if_f c9 hf
      refine sm_iconst F dX8_has_12 kc_i_1 ?_
      refine sm_goto (tgt := 17) F dX8_has_13 (by decide) ?_
      exact sm_zret F dX8_has_17 rfl (Option.some.inj hf) rfl
/-! SoManyForgotten$Valley.isHere(I)Z -/
abbrev rmX8_isHere : Room := { frames := 1, cells := 0, slots := 0, locals := 21 }
set_option maxRecDepth 100000 in
theorem hvX8_isHere : yX8_isHere.cls = RX8 ∧ yX8_isHere.cls ≠ "java/lang/invoke/MethodHandle" ∧ yX8_isHere.cls ≠ "java/lang/invoke/VarHandle" ∧ (parseMethodDescriptor yX8_isHere.desc).map (fun d => d.parameters.length) = some 1 := by decide +kernel
set_option maxRecDepth 100000 in
set_option maxHeartbeats 4000000 in
theorem ct_X8_isHere (l : Launch) (D : va_G) (cI cZ cO : ClassId) (a : Nat → Nat) {u : VS} {x1 : Int32} {r : Int32} (hf : f_X8_isHere u x1 = some r) : Ct l yX8_isHere (uw (Cond.code yX8_isHere cX8_isHere 2 (some .boolean))) rmX8_isHere D (tyL cI cZ cO) E0 [.ref (a 0), .int x1] (wV cI cZ cO a u) (some (.int r)) (wV cI cZ cO a u) := by
  refine sm_start (cc := cX8_isHere) (maxL := 2) (ret := (some .boolean)) (own := RX8) (by decide) rfl rfl (Nat.le_of_ble_eq_true rfl) (lv := [(0, .ref (a 0)), (1, .int x1)]) rfl ?_
  intro p e s m below meth c A F hE hA
  unfold f_X8_isHere at hf
  refine sm_aload_n F dX8_isHere_0 rfl 0 rfl ?_
  refine sm_iload_n F dX8_isHere_1 rfl 1 rfl ?_
  obtain ⟨z2, hz2, hf⟩ := bd_some hf
  refine sm_callV (rest := []) F (ct_X8_has l D cI cZ cO a hz2) (cut_V_id cI cZ cO a u u) rfl rfl rfl qw2_176 qw2_177 qw2_178 qw1_8 qw2_179 hvX8_has ⟨Nat.le_of_ble_eq_true rfl, Nat.le_of_ble_eq_true rfl⟩ ⟨Nat.zero_le _, Nat.zero_le _⟩ 0 8 rfl rfl rfl rfl (Nat.le_of_ble_eq_true rfl) E0_b (fun _ _ _ _ _ _ => trivial) rfl dX8_isHere_2 [.int z2] rfl ?_
  refine sm_if_eq (tgt := 21) F dX8_isHere_5 (by decide) (fun c5 => ?_) (fun c5 => ?_)
  · replace hf := if_t c5 hf
    refine sm_iconst F dX8_isHere_21 kc_i_0 ?_
    exact sm_zret F dX8_isHere_22 rfl (Option.some.inj hf) rfl
  · replace hf := if_f c5 hf
    refine sm_aload_n F dX8_isHere_8 rfl 0 rfl ?_
    refine sm_get (v := .ref (a 4)) F inX8 0 rfl rfl 4 (by decide) qw1_89 rfl rfl dX8_isHere_9 ?_
    refine sm_iload_n F dX8_isHere_12 rfl 1 rfl ?_
    obtain ⟨h13, hf⟩ := ck_some hf
    refine sm_zald F 4 1 rfl rfl h13 dX8_isHere_13 ?_
    refine sm_if_eq (tgt := 21) F dX8_isHere_14 (by decide) (fun c14 => ?_) (fun c14 => ?_)
    · replace hf := if_t c14 hf
      refine sm_iconst F dX8_isHere_21 kc_i_0 ?_
      exact sm_zret F dX8_isHere_22 rfl (Option.some.inj hf) rfl
    · replace hf := if_f c14 hf
      refine sm_iconst F dX8_isHere_17 kc_i_1 ?_
      refine sm_goto (tgt := 22) F dX8_isHere_18 (by decide) ?_
      exact sm_zret F dX8_isHere_22 rfl (Option.some.inj hf) rfl
/-! SoManyForgotten$Valley.areTwoHere(II)Z -/
abbrev rmX8_areTwoHere : Room := { frames := 2, cells := 0, slots := 0, locals := 42 }
set_option maxRecDepth 100000 in
theorem hvX8_areTwoHere : yX8_areTwoHere.cls = RX8 ∧ yX8_areTwoHere.cls ≠ "java/lang/invoke/MethodHandle" ∧ yX8_areTwoHere.cls ≠ "java/lang/invoke/VarHandle" ∧ (parseMethodDescriptor yX8_areTwoHere.desc).map (fun d => d.parameters.length) = some 2 := by decide +kernel
set_option maxRecDepth 100000 in
set_option maxHeartbeats 4000000 in
theorem ct_X8_areTwoHere (l : Launch) (D : va_G) (cI cZ cO : ClassId) (a : Nat → Nat) {u : VS} {x1 : Int32} {x2 : Int32} {r : Int32} (hf : f_X8_areTwoHere u x1 x2 = some r) : Ct l yX8_areTwoHere (uw (Cond.code yX8_areTwoHere cX8_areTwoHere 3 (some .boolean))) rmX8_areTwoHere D (tyL cI cZ cO) E0 [.ref (a 0), .int x1, .int x2] (wV cI cZ cO a u) (some (.int r)) (wV cI cZ cO a u) := by
  refine sm_start (cc := cX8_areTwoHere) (maxL := 3) (ret := (some .boolean)) (own := RX8) (by decide) rfl rfl (Nat.le_of_ble_eq_true rfl) (lv := [(0, .ref (a 0)), (1, .int x1), (2, .int x2)]) rfl ?_
  intro p e s m below meth c A F hE hA
  unfold f_X8_areTwoHere at hf
  refine sm_iload_n F dX8_areTwoHere_0 rfl 1 rfl ?_
  refine sm_iload_n F dX8_areTwoHere_1 rfl 2 rfl ?_
  refine sm_icmp_eq (tgt := 25) F dX8_areTwoHere_2 (by decide) (fun c2 => ?_) (fun c2 => ?_)
  · replace hf := if_t c2 hf
    refine sm_iconst F dX8_areTwoHere_25 kc_i_0 ?_
    exact sm_zret F dX8_areTwoHere_26 rfl (Option.some.inj hf) rfl
  · replace hf := if_f c2 hf
    refine sm_aload_n F dX8_areTwoHere_5 rfl 0 rfl ?_
    refine sm_iload_n F dX8_areTwoHere_6 rfl 1 rfl ?_
    obtain ⟨z7, hz7, hf⟩ := bd_some hf
    refine sm_callV (rest := []) F (ct_X8_isHere l D cI cZ cO a hz7) (cut_V_id cI cZ cO a u u) rfl rfl rfl qw2_192 qw2_193 qw2_194 qw1_8 qw2_195 hvX8_isHere ⟨Nat.le_of_ble_eq_true rfl, Nat.le_of_ble_eq_true rfl⟩ ⟨Nat.zero_le _, Nat.zero_le _⟩ 0 8 rfl rfl rfl rfl (Nat.le_of_ble_eq_true rfl) E0_b (fun _ _ _ _ _ _ => trivial) rfl dX8_areTwoHere_7 [.int z7] rfl ?_
    refine sm_if_eq (tgt := 25) F dX8_areTwoHere_10 (by decide) (fun c10 => ?_) (fun c10 => ?_)
    · replace hf := if_t c10 hf
      refine sm_iconst F dX8_areTwoHere_25 kc_i_0 ?_
      exact sm_zret F dX8_areTwoHere_26 rfl (Option.some.inj hf) rfl
    · replace hf := if_f c10 hf
      refine sm_aload_n F dX8_areTwoHere_13 rfl 0 rfl ?_
      refine sm_iload_n F dX8_areTwoHere_14 rfl 2 rfl ?_
      obtain ⟨z15, hz15, hf⟩ := bd_some hf
      refine sm_callV (rest := []) F (ct_X8_isHere l D cI cZ cO a hz15) (cut_V_id cI cZ cO a u u) rfl rfl rfl qw2_192 qw2_193 qw2_194 qw1_8 qw2_195 hvX8_isHere ⟨Nat.le_of_ble_eq_true rfl, Nat.le_of_ble_eq_true rfl⟩ ⟨Nat.zero_le _, Nat.zero_le _⟩ 0 8 rfl rfl rfl rfl (Nat.le_of_ble_eq_true rfl) E0_b (fun _ _ _ _ _ _ => trivial) rfl dX8_areTwoHere_15 [.int z15] rfl ?_
      refine sm_if_eq (tgt := 25) F dX8_areTwoHere_18 (by decide) (fun c18 => ?_) (fun c18 => ?_)
      · replace hf := if_t c18 hf
        refine sm_iconst F dX8_areTwoHere_25 kc_i_0 ?_
        exact sm_zret F dX8_areTwoHere_26 rfl (Option.some.inj hf) rfl
      · replace hf := if_f c18 hf
        refine sm_iconst F dX8_areTwoHere_21 kc_i_1 ?_
        refine sm_goto (tgt := 26) F dX8_areTwoHere_22 (by decide) ?_
        exact sm_zret F dX8_areTwoHere_26 rfl (Option.some.inj hf) rfl
/-! SoManyForgotten$Valley.talk(II)V -/
abbrev rmX8_talk : Room := { frames := 2, cells := 0, slots := 0, locals := 49 }
set_option maxRecDepth 100000 in
theorem hvX8_talk : yX8_talk.cls = RX8 ∧ yX8_talk.cls ≠ "java/lang/invoke/MethodHandle" ∧ yX8_talk.cls ≠ "java/lang/invoke/VarHandle" ∧ (parseMethodDescriptor yX8_talk.desc).map (fun d => d.parameters.length) = some 2 := by decide +kernel
set_option maxRecDepth 100000 in
set_option maxHeartbeats 4000000 in
theorem ct_X8_talk (l : Launch) (D : va_G) (cI cZ cO : ClassId) (a : Nat → Nat) {u : VS} {x1 : Int32} {x2 : Int32} {o : VS} (hf : f_X8_talk u x1 x2 = some o) : Ct l yX8_talk (uw (Cond.code yX8_talk cX8_talk 3 none)) rmX8_talk D (tyL cI cZ cO) E0 [.ref (a 0), .int x1, .int x2] (wV cI cZ cO a u) none (wV cI cZ cO a o) := by
  refine sm_start (cc := cX8_talk) (maxL := 3) (ret := none) (own := RX8) (by decide) rfl rfl (Nat.le_of_ble_eq_true rfl) (lv := [(0, .ref (a 0)), (1, .int x1), (2, .int x2)]) rfl ?_
  intro p e s m below meth c A F hE hA
  unfold f_X8_talk at hf
  refine sm_aload_n F dX8_talk_0 rfl 0 rfl ?_
  refine sm_iload_n F dX8_talk_1 rfl 1 rfl ?_
  refine sm_iload_n F dX8_talk_2 rfl 2 rfl ?_
  refine sm_bipush F dX8_talk_3 kc_b_10 ?_
  obtain ⟨z5, hz5, hf⟩ := bd_some hf
  refine sm_callV (rest := []) F (ct_X8_addMemory l D cI cZ cO a hz5) (cut_V_id cI cZ cO a u z5) rfl rfl rfl qw2_200 qw2_202 qw0_8 qw1_8 qw2_203 hvX8_addMemory ⟨Nat.le_of_ble_eq_true rfl, Nat.le_of_ble_eq_true rfl⟩ ⟨Nat.zero_le _, Nat.zero_le _⟩ 0 8 rfl rfl rfl rfl (Nat.le_of_ble_eq_true rfl) E0_b (fun _ _ _ _ _ _ => trivial) rfl dX8_talk_5 [] rfl ?_
  refine sm_aload_n F dX8_talk_8 rfl 0 rfl ?_
  refine sm_iload_n F dX8_talk_9 rfl 2 rfl ?_
  refine sm_iload_n F dX8_talk_10 rfl 1 rfl ?_
  refine sm_bipush F dX8_talk_11 kc_b_10 ?_
  obtain ⟨z13, hz13, hf⟩ := bd_some hf
  refine sm_callV (rest := []) F (ct_X8_addMemory l D cI cZ cO a hz13) (cut_V_id cI cZ cO a z5 z13) rfl rfl rfl qw2_200 qw2_202 qw0_8 qw1_8 qw2_203 hvX8_addMemory ⟨Nat.le_of_ble_eq_true rfl, Nat.le_of_ble_eq_true rfl⟩ ⟨Nat.zero_le _, Nat.zero_le _⟩ 0 8 rfl rfl rfl rfl (Nat.le_of_ble_eq_true rfl) E0_b (fun _ _ _ _ _ _ => trivial) rfl dX8_talk_13 [] rfl ?_
  exact sm_vret F dX8_talk_16 (congrArg (fun z => (wV cI cZ cO a z)) (Option.some.inj hf))
/-! SoManyForgotten$Valley.keeps(II)Z -/
abbrev rmX8_keeps : Room := { frames := 4, cells := 0, slots := 0, locals := 94 }
set_option maxRecDepth 100000 in
theorem hvX8_keeps : yX8_keeps.cls = RX8 ∧ yX8_keeps.cls ≠ "java/lang/invoke/MethodHandle" ∧ yX8_keeps.cls ≠ "java/lang/invoke/VarHandle" ∧ (parseMethodDescriptor yX8_keeps.desc).map (fun d => d.parameters.length) = some 2 := by decide +kernel
set_option maxRecDepth 100000 in
set_option maxHeartbeats 4000000 in
theorem s_X8_keeps_2_b {p : Program} {l : Launch} {e : Env} {s : State} {m : MethodId} {args : Array Value} {below : List Frame} {meth : Method} {c : Code} {A : Nat → Prop} {D : va_G} {cI cZ cO : ClassId} {a : Nat → Nat} {r : Int32} {o : VS} (F : smF p s m args meth c cX8_keeps 4 (some .boolean) RX8 D (tyL cI cZ cO) A) (x1 : Int32) (x2 : Int32) (k2 : VS → Int32 → Option (Int32 × (VS))) (hk2 : ∀ (u' : VS) (x3' : Int32), k2 u' x3' = some (r, o) → Sm p l e rmX8_keeps s m args below meth c D A 4 0 0 (smQ below args s D A (some (.int r)) (wV cI cZ cO a o)) 2 [(0, .ref (a 0)), (1, .int x1), (2, .int x2), (3, .int x3')] [] (wV cI cZ cO a u')) (u : VS) (x3 : Int32) (hf : b_X8_keeps_2 x1 x2  k2 u x3 = some (r, o)) : Sm p l e rmX8_keeps s m args below meth c D A 4 0 0 (smQ below args s D A (some (.int r)) (wV cI cZ cO a o)) 2 [(0, .ref (a 0)), (1, .int x1), (2, .int x2), (3, .int x3)] [] (wV cI cZ cO a u) := by
  unfold b_X8_keeps_2 at hf
  refine sm_iload_n F dX8_keeps_2 rfl 3 rfl ?_
  refine sm_iload_n F dX8_keeps_3 rfl 2 rfl ?_
  refine sm_icmp_ge (tgt := 26) F dX8_keeps_4 (by decide) (fun c4 => ?_) (fun c4 => ?_)
  · replace hf := if_t c4 hf
    refine sm_aload_n F dX8_keeps_26 rfl 0 rfl ?_
    refine sm_get (v := .ref (a 4)) F inX8 0 rfl rfl 4 (by decide) qw1_89 rfl rfl dX8_keeps_27 ?_
    refine sm_iload_n F dX8_keeps_30 rfl 1 rfl ?_
    obtain ⟨h31, hf⟩ := ck_some hf
    refine sm_zald F 4 1 rfl rfl h31 dX8_keeps_31 ?_
    obtain ⟨h32, hf⟩ := zr_some hf
    exact sm_zret F dX8_keeps_32 h32 (Prod.mk.inj (Option.some.inj hf)).1 (congrArg (fun z => (wV cI cZ cO a z)) (Prod.mk.inj (Option.some.inj hf)).2)
  · replace hf := if_f c4 hf
    refine sm_aload_n F dX8_keeps_7 rfl 0 rfl ?_
    refine sm_get (v := .ref (a 4)) F inX8 0 rfl rfl 4 (by decide) qw1_89 rfl rfl dX8_keeps_8 ?_
    refine sm_iload_n F dX8_keeps_11 rfl 1 rfl ?_
    obtain ⟨h12, hf⟩ := ck_some hf
    refine sm_zald F 4 1 rfl rfl h12 dX8_keeps_12 ?_
    refine sm_if_eq (tgt := 26) F dX8_keeps_13 (by decide) (fun c13 => ?_) (fun c13 => ?_)
    · replace hf := if_t c13 hf
      refine sm_aload_n F dX8_keeps_26 rfl 0 rfl ?_
      refine sm_get (v := .ref (a 4)) F inX8 0 rfl rfl 4 (by decide) qw1_89 rfl rfl dX8_keeps_27 ?_
      refine sm_iload_n F dX8_keeps_30 rfl 1 rfl ?_
      obtain ⟨h31, hf⟩ := ck_some hf
      refine sm_zald F 4 1 rfl rfl h31 dX8_keeps_31 ?_
      obtain ⟨h32, hf⟩ := zr_some hf
      exact sm_zret F dX8_keeps_32 h32 (Prod.mk.inj (Option.some.inj hf)).1 (congrArg (fun z => (wV cI cZ cO a z)) (Prod.mk.inj (Option.some.inj hf)).2)
    · replace hf := if_f c13 hf
      refine sm_aload_n F dX8_keeps_16 rfl 0 rfl ?_
      obtain ⟨z17, hz17, hf⟩ := bd_some hf
      refine sm_callV (rest := []) F (ct_X8_passWeek l D cI cZ cO a hz17) (cut_V_id cI cZ cO a u z17) rfl rfl rfl qw3_141 qw2_223 qw2_224 qw1_8 qw2_225 hvX8_passWeek ⟨Nat.le_of_ble_eq_true rfl, Nat.le_of_ble_eq_true rfl⟩ ⟨Nat.zero_le _, Nat.zero_le _⟩ 0 8 rfl rfl rfl rfl (Nat.le_of_ble_eq_true rfl) E0_b (fun _ _ _ _ _ _ => trivial) rfl dX8_keeps_17 [] rfl ?_
      refine sm_iinc F [(0, .ref (a 0)), (1, .int x1), (2, .int x2), (3, .int (x3 + 1))] 3 [1, 2, 3, 0] dX8_keeps_20 rfl kc_i_1 (by decide) rfl ?_
      refine sm_goto (tgt := 2) F dX8_keeps_23 (by decide) ?_
      exact hk2 z17 (x3 + 1) hf
set_option maxRecDepth 100000 in
set_option maxHeartbeats 4000000 in
theorem s_X8_keeps_2 {p : Program} {l : Launch} {e : Env} {s : State} {m : MethodId} {args : Array Value} {below : List Frame} {meth : Method} {c : Code} {A : Nat → Prop} {D : va_G} {cI cZ cO : ClassId} {a : Nat → Nat} {r : Int32} {o : VS} (F : smF p s m args meth c cX8_keeps 4 (some .boolean) RX8 D (tyL cI cZ cO) A) (x1 : Int32) (x2 : Int32)  (n : Nat) (u : VS) (x3 : Int32) (hf : f_X8_keeps_2 x1 x2  n u x3 = some (r, o)) : Sm p l e rmX8_keeps s m args below meth c D A 4 0 0 (smQ below args s D A (some (.int r)) (wV cI cZ cO a o)) 2 [(0, .ref (a 0)), (1, .int x1), (2, .int x2), (3, .int x3)] [] (wV cI cZ cO a u) :=
  lq2_ind (P := fun (u : VS) (x3 : Int32) => Sm p l e rmX8_keeps s m args below meth c D A 4 0 0 (smQ below args s D A (some (.int r)) (wV cI cZ cO a o)) 2 [(0, .ref (a 0)), (1, .int x1), (2, .int x2), (3, .int x3)] [] (wV cI cZ cO a u)) (fun k2 hk2 u x3 h9 => s_X8_keeps_2_b F x1 x2  k2 hk2 u x3 h9) n u x3 hf
set_option maxRecDepth 100000 in
set_option maxHeartbeats 4000000 in
theorem ct_X8_keeps (l : Launch) (D : va_G) (cI cZ cO : ClassId) (a : Nat → Nat) {u : VS} {x1 : Int32} {x2 : Int32} {r : Int32} {o : VS} (hf : f_X8_keeps u x1 x2 = some (r, o)) : Ct l yX8_keeps (uw (Cond.code yX8_keeps cX8_keeps 4 (some .boolean))) rmX8_keeps D (tyL cI cZ cO) E0 [.ref (a 0), .int x1, .int x2] (wV cI cZ cO a u) (some (.int r)) (wV cI cZ cO a o) := by
  refine sm_start (cc := cX8_keeps) (maxL := 4) (ret := (some .boolean)) (own := RX8) (by decide) rfl rfl (Nat.le_of_ble_eq_true rfl) (lv := [(0, .ref (a 0)), (1, .int x1), (2, .int x2)]) rfl ?_
  intro p e s m below meth c A F hE hA
  unfold f_X8_keeps at hf
  refine sm_iconst F dX8_keeps_0 kc_i_0 ?_
  refine sm_istore_n F [(0, .ref (a 0)), (1, .int x1), (2, .int x2), (3, .int (0 : Int32))] [1, 2, 3, 0] dX8_keeps_1 rfl (by decide) rfl ?_
  exact s_X8_keeps_2 F x1 x2 smN u (0 : Int32) hf
/-! SoManyForgotten$Valley.countHere()I -/
abbrev rmX8_countHere : Room := { frames := 1, cells := 0, slots := 0, locals := 22 }
set_option maxRecDepth 100000 in
theorem hvX8_countHere : yX8_countHere.cls = RX8 ∧ yX8_countHere.cls ≠ "java/lang/invoke/MethodHandle" ∧ yX8_countHere.cls ≠ "java/lang/invoke/VarHandle" ∧ (parseMethodDescriptor yX8_countHere.desc).map (fun d => d.parameters.length) = some 0 := by decide +kernel
set_option maxRecDepth 100000 in
set_option maxHeartbeats 4000000 in
theorem ct_X8_countHere (l : Launch) (D : va_G) (cI cZ cO : ClassId) (a : Nat → Nat) {u : VS} {r : Int32} (hf : f_X8_countHere u = some r) : Ct l yX8_countHere (uw (Cond.code yX8_countHere cX8_countHere 1 (some .int))) rmX8_countHere D (tyL cI cZ cO) E0 [.ref (a 0)] (wV cI cZ cO a u) (some (.int r)) (wV cI cZ cO a u) := by
  refine sm_start (cc := cX8_countHere) (maxL := 1) (ret := (some .int)) (own := RX8) (by decide) rfl rfl (Nat.le_of_ble_eq_true rfl) (lv := [(0, .ref (a 0))]) rfl ?_
  intro p e s m below meth c A F hE hA
  unfold f_X8_countHere at hf
  refine sm_aload_n F dX8_countHere_0 rfl 0 rfl ?_
  obtain ⟨z1, hz1, hf⟩ := bd_some hf
  refine sm_callV (rest := []) F (ct_X8_hereBits l D cI cZ cO a hz1) (cut_V_id cI cZ cO a u u) rfl rfl rfl qw3_114 qw3_115 qw3_116 qw1_8 qw3_117 hvX8_hereBits ⟨Nat.le_of_ble_eq_true rfl, Nat.le_of_ble_eq_true rfl⟩ ⟨Nat.zero_le _, Nat.zero_le _⟩ 0 8 rfl rfl rfl rfl (Nat.le_of_ble_eq_true rfl) E0_b (fun _ _ _ _ _ _ => trivial) rfl dX8_countHere_1 [.int z1] rfl ?_
  obtain ⟨z4, hz4, hf⟩ := bd_some hf
  refine sm_callS (rest := []) F (ct_J6_bitCount_0f7a4 l D (tyL cI cZ cO) hz4) (cut_V_none cI cZ cO a u) rfl rfl rfl qw3_118 qw3_119 qw1_20 qw3_120 hsJ6_bitCount_0f7a4 ⟨Nat.le_of_ble_eq_true rfl, Nat.le_of_ble_eq_true rfl⟩ ⟨Nat.zero_le _, Nat.zero_le _⟩ rfl (Nat.le_of_ble_eq_true rfl) E0_b (fun _ _ _ _ _ _ => trivial) rfl dX8_countHere_4 [.int z4] rfl ?_
  exact sm_iret F dX8_countHere_7 (Option.some.inj hf) rfl
/-! SoManyForgotten$Valley.comeBack(I)V -/
abbrev rmX8_comeBack : Room := { frames := 1, cells := 0, slots := 0, locals := 23 }
set_option maxRecDepth 100000 in
theorem hvX8_comeBack : yX8_comeBack.cls = RX8 ∧ yX8_comeBack.cls ≠ "java/lang/invoke/MethodHandle" ∧ yX8_comeBack.cls ≠ "java/lang/invoke/VarHandle" ∧ (parseMethodDescriptor yX8_comeBack.desc).map (fun d => d.parameters.length) = some 1 := by decide +kernel
set_option maxRecDepth 100000 in
set_option maxHeartbeats 4000000 in
theorem ct_X8_comeBack (l : Launch) (D : va_G) (cI cZ cO : ClassId) (a : Nat → Nat) {u : VS} {x1 : Int32} {o : VS} (hf : f_X8_comeBack u x1 = some o) : Ct l yX8_comeBack (uw (Cond.code yX8_comeBack cX8_comeBack 2 none)) rmX8_comeBack D (tyL cI cZ cO) E0 [.ref (a 0), .int x1] (wV cI cZ cO a u) none (wV cI cZ cO a o) := by
  refine sm_start (cc := cX8_comeBack) (maxL := 2) (ret := none) (own := RX8) (by decide) rfl rfl (Nat.le_of_ble_eq_true rfl) (lv := [(0, .ref (a 0)), (1, .int x1)]) rfl ?_
  intro p e s m below meth c A F hE hA
  unfold f_X8_comeBack at hf
  refine sm_aload_n F dX8_comeBack_0 rfl 0 rfl ?_
  refine sm_get (v := .ref (a 4)) F inX8 0 rfl rfl 4 (by decide) qw1_89 rfl rfl dX8_comeBack_1 ?_
  refine sm_iload_n F dX8_comeBack_4 rfl 1 rfl ?_
  refine sm_iconst F dX8_comeBack_5 kc_i_1 ?_
  obtain ⟨h6, hf⟩ := ck_some hf
  refine sm_zast F 4 1 rfl rfl h6 (wV cI cZ cO a (sV_here u (upd (gV_here u) (Int32.toNatClampNeg x1) (vp_nar .boolean (1 : Int32))))) rfl dX8_comeBack_6 ?_
  refine sm_aload_n F dX8_comeBack_7 rfl 0 rfl ?_
  refine sm_iload_n F dX8_comeBack_8 rfl 1 rfl ?_
  refine sm_bipush F dX8_comeBack_9 kc_b_20 ?_
  obtain ⟨z11, hz11, hf⟩ := bd_some hf
  refine sm_callV (rest := []) F (ct_X8_rememberAs l D cI cZ cO a hz11) (cut_V_id cI cZ cO a (sV_here u (upd (gV_here u) (Int32.toNatClampNeg x1) (vp_nar .boolean (1 : Int32)))) z11) rfl rfl rfl qw2_212 qw2_214 qw0_9 qw1_8 qw2_215 hvX8_rememberAs ⟨Nat.le_of_ble_eq_true rfl, Nat.le_of_ble_eq_true rfl⟩ ⟨Nat.zero_le _, Nat.zero_le _⟩ 0 8 rfl rfl rfl rfl (Nat.le_of_ble_eq_true rfl) E0_b (fun _ _ _ _ _ _ => trivial) rfl dX8_comeBack_11 [] rfl ?_
  exact sm_vret F dX8_comeBack_14 (congrArg (fun z => (wV cI cZ cO a z)) (Option.some.inj hf))
/-! SoManyForgotten$Valley.memoryOf(II)I -/
abbrev rmX8_memoryOf : Room := { frames := 0, cells := 0, slots := 0, locals := 0 }
set_option maxRecDepth 100000 in
theorem hvX8_memoryOf : yX8_memoryOf.cls = RX8 ∧ yX8_memoryOf.cls ≠ "java/lang/invoke/MethodHandle" ∧ yX8_memoryOf.cls ≠ "java/lang/invoke/VarHandle" ∧ (parseMethodDescriptor yX8_memoryOf.desc).map (fun d => d.parameters.length) = some 2 := by decide +kernel
set_option maxRecDepth 100000 in
set_option maxHeartbeats 4000000 in
theorem ct_X8_memoryOf (l : Launch) (D : va_G) (cI cZ cO : ClassId) (a : Nat → Nat) {u : VS} {x1 : Int32} {x2 : Int32} {r : Int32} (hf : f_X8_memoryOf u x1 x2 = some r) : Ct l yX8_memoryOf (uw (Cond.code yX8_memoryOf cX8_memoryOf 3 (some .int))) rmX8_memoryOf D (tyL cI cZ cO) E0 [.ref (a 0), .int x1, .int x2] (wV cI cZ cO a u) (some (.int r)) (wV cI cZ cO a u) := by
  refine sm_start (cc := cX8_memoryOf) (maxL := 3) (ret := (some .int)) (own := RX8) (by decide) rfl rfl (Nat.le_of_ble_eq_true rfl) (lv := [(0, .ref (a 0)), (1, .int x1), (2, .int x2)]) rfl ?_
  intro p e s m below meth c A F hE hA
  unfold f_X8_memoryOf at hf
  refine sm_aload_n F dX8_memoryOf_0 rfl 0 rfl ?_
  refine sm_get (v := .ref (a 5)) F inX8 0 rfl rfl 5 (by decide) qw1_93 rfl rfl dX8_memoryOf_1 ?_
  refine sm_iload_n F dX8_memoryOf_4 rfl 1 rfl ?_
  refine sm_bipush F dX8_memoryOf_5 kc_b_8 ?_
  refine sm_imul F dX8_memoryOf_7 ?_
  refine sm_iload_n F dX8_memoryOf_8 rfl 2 rfl ?_
  refine sm_iadd F dX8_memoryOf_9 ?_
  obtain ⟨h10, hf⟩ := ck_some hf
  refine sm_iald F 5 0 rfl rfl h10 dX8_memoryOf_10 ?_
  exact sm_iret F dX8_memoryOf_11 (Option.some.inj hf) rfl
/-! SoManyForgotten$Valley.leagueOf(I)I -/
abbrev rmX8_leagueOf : Room := { frames := 3, cells := 0, slots := 0, locals := 64 }
set_option maxRecDepth 100000 in
theorem hvX8_leagueOf : yX8_leagueOf.cls = RX8 ∧ yX8_leagueOf.cls ≠ "java/lang/invoke/MethodHandle" ∧ yX8_leagueOf.cls ≠ "java/lang/invoke/VarHandle" ∧ (parseMethodDescriptor yX8_leagueOf.desc).map (fun d => d.parameters.length) = some 1 := by decide +kernel
set_option maxRecDepth 100000 in
set_option maxHeartbeats 4000000 in
theorem s_X8_leagueOf_4_b {p : Program} {l : Launch} {e : Env} {s : State} {m : MethodId} {args : Array Value} {below : List Frame} {meth : Method} {c : Code} {A : Nat → Prop} {D : va_G} {cI cZ cO : ClassId} {a : Nat → Nat} {r : Int32} (F : smF p s m args meth c cX8_leagueOf 4 (some .int) RX8 D (tyL cI cZ cO) A) (u : VS) (x1 : Int32) (k4 : Int32 → Int32 → Option Int32) (hk4 : ∀ (x2' : Int32) (x3' : Int32), k4 x2' x3' = some r → Sm p l e rmX8_leagueOf s m args below meth c D A 4 0 0 (smQ below args s D A (some (.int r)) (wV cI cZ cO a u)) 4 [(0, .ref (a 0)), (1, .int x1), (2, .int x2'), (3, .int x3')] [] (wV cI cZ cO a u)) (x2 : Int32) (x3 : Int32) (hf : b_X8_leagueOf_4 u x1  k4 x2 x3 = some r) : Sm p l e rmX8_leagueOf s m args below meth c D A 4 0 0 (smQ below args s D A (some (.int r)) (wV cI cZ cO a u)) 4 [(0, .ref (a 0)), (1, .int x1), (2, .int x2), (3, .int x3)] [] (wV cI cZ cO a u) := by
  unfold b_X8_leagueOf_4 at hf
  refine sm_iload_n F dX8_leagueOf_4 rfl 3 rfl ?_
  refine sm_aload_n F dX8_leagueOf_5 rfl 0 rfl ?_
  refine sm_get (v := .int (gV_people u)) F inX8 0 rfl rfl 6 (by decide) qw1_94 rfl rfl dX8_leagueOf_6 ?_
  refine sm_icmp_ge (tgt := 55) F dX8_leagueOf_9 (by decide) (fun c9 => ?_) (fun c9 => ?_)
  · replace hf := if_t c9 hf
    refine sm_iload_n F dX8_leagueOf_55 rfl 2 rfl ?_
    exact sm_iret F dX8_leagueOf_56 (Option.some.inj hf) rfl
  · replace hf := if_f c9 hf
    refine sm_aload_n F dX8_leagueOf_12 rfl 0 rfl ?_
    refine sm_iload_n F dX8_leagueOf_13 rfl 1 rfl ?_
    refine sm_iload_n F dX8_leagueOf_14 rfl 3 rfl ?_
    obtain ⟨z15, hz15, hf⟩ := bd_some hf
    refine sm_callV (rest := []) F (ct_X8_areTwoHere l D cI cZ cO a hz15) (cut_V_id cI cZ cO a u u) rfl rfl rfl qw4_38 qw2_189 qw2_190 qw1_8 qw2_191 hvX8_areTwoHere ⟨Nat.le_of_ble_eq_true rfl, Nat.le_of_ble_eq_true rfl⟩ ⟨Nat.zero_le _, Nat.zero_le _⟩ 0 8 rfl rfl rfl rfl (Nat.le_of_ble_eq_true rfl) E0_b (fun _ _ _ _ _ _ => trivial) rfl dX8_leagueOf_15 [.int z15] rfl ?_
    refine sm_if_eq (tgt := 49) F dX8_leagueOf_18 (by decide) (fun c18 => ?_) (fun c18 => ?_)
    · replace hf := if_t c18 hf
      refine sm_iinc F [(0, .ref (a 0)), (1, .int x1), (2, .int x2), (3, .int (x3 + 1))] 3 [1, 2, 3, 0] dX8_leagueOf_49 rfl kc_i_1 (by decide) rfl ?_
      refine sm_goto (tgt := 4) F dX8_leagueOf_52 (by decide) ?_
      exact hk4 x2 (x3 + 1) hf
    · replace hf := if_f c18 hf
      refine sm_aload_n F dX8_leagueOf_21 rfl 0 rfl ?_
      refine sm_iload_n F dX8_leagueOf_22 rfl 1 rfl ?_
      refine sm_iload_n F dX8_leagueOf_23 rfl 3 rfl ?_
      obtain ⟨z24, hz24, hf⟩ := bd_some hf
      refine sm_callV (rest := []) F (ct_X8_memoryOf l D cI cZ cO a hz24) (cut_V_id cI cZ cO a u u) rfl rfl rfl qw4_39 qw3_79 qw3_80 qw1_8 qw3_81 hvX8_memoryOf ⟨Nat.le_of_ble_eq_true rfl, Nat.le_of_ble_eq_true rfl⟩ ⟨Nat.zero_le _, Nat.zero_le _⟩ 0 8 rfl rfl rfl rfl (Nat.le_of_ble_eq_true rfl) E0_b (fun _ _ _ _ _ _ => trivial) rfl dX8_leagueOf_24 [.int z24] rfl ?_
      refine sm_bipush F dX8_leagueOf_27 kc_b_50 ?_
      refine sm_icmp_lt (tgt := 49) F dX8_leagueOf_29 (by decide) (fun c29 => ?_) (fun c29 => ?_)
      · replace hf := if_t c29 hf
        refine sm_iinc F [(0, .ref (a 0)), (1, .int x1), (2, .int x2), (3, .int (x3 + 1))] 3 [1, 2, 3, 0] dX8_leagueOf_49 rfl kc_i_1 (by decide) rfl ?_
        refine sm_goto (tgt := 4) F dX8_leagueOf_52 (by decide) ?_
        exact hk4 x2 (x3 + 1) hf
      · replace hf := if_f c29 hf
        refine sm_aload_n F dX8_leagueOf_32 rfl 0 rfl ?_
        refine sm_iload_n F dX8_leagueOf_33 rfl 3 rfl ?_
        refine sm_iload_n F dX8_leagueOf_34 rfl 1 rfl ?_
        obtain ⟨z35, hz35, hf⟩ := bd_some hf
        refine sm_callV (rest := []) F (ct_X8_memoryOf l D cI cZ cO a hz35) (cut_V_id cI cZ cO a u u) rfl rfl rfl qw4_39 qw3_79 qw3_80 qw1_8 qw3_81 hvX8_memoryOf ⟨Nat.le_of_ble_eq_true rfl, Nat.le_of_ble_eq_true rfl⟩ ⟨Nat.zero_le _, Nat.zero_le _⟩ 0 8 rfl rfl rfl rfl (Nat.le_of_ble_eq_true rfl) E0_b (fun _ _ _ _ _ _ => trivial) rfl dX8_leagueOf_35 [.int z35] rfl ?_
        refine sm_bipush F dX8_leagueOf_38 kc_b_50 ?_
        refine sm_icmp_lt (tgt := 49) F dX8_leagueOf_40 (by decide) (fun c40 => ?_) (fun c40 => ?_)
        · replace hf := if_t c40 hf
          refine sm_iinc F [(0, .ref (a 0)), (1, .int x1), (2, .int x2), (3, .int (x3 + 1))] 3 [1, 2, 3, 0] dX8_leagueOf_49 rfl kc_i_1 (by decide) rfl ?_
          refine sm_goto (tgt := 4) F dX8_leagueOf_52 (by decide) ?_
          exact hk4 x2 (x3 + 1) hf
        · replace hf := if_f c40 hf
          refine sm_iload_n F dX8_leagueOf_43 rfl 2 rfl ?_
          refine sm_iconst F dX8_leagueOf_44 kc_i_1 ?_
          refine sm_iload_n F dX8_leagueOf_45 rfl 3 rfl ?_
          refine sm_ishl F dX8_leagueOf_46 ?_
          refine sm_ior F dX8_leagueOf_47 ?_
          refine sm_istore_n F [(0, .ref (a 0)), (1, .int x1), (2, .int (x2 ||| ((1 : Int32) <<< (x3 &&& 31)))), (3, .int x3)] [1, 2, 0, 3] dX8_leagueOf_48 rfl (by decide) rfl ?_
          refine sm_iinc F [(0, .ref (a 0)), (1, .int x1), (2, .int (x2 ||| ((1 : Int32) <<< (x3 &&& 31)))), (3, .int (x3 + 1))] 3 [1, 2, 3, 0] dX8_leagueOf_49 rfl kc_i_1 (by decide) rfl ?_
          refine sm_goto (tgt := 4) F dX8_leagueOf_52 (by decide) ?_
          exact hk4 (x2 ||| ((1 : Int32) <<< (x3 &&& 31))) (x3 + 1) hf
set_option maxRecDepth 100000 in
set_option maxHeartbeats 4000000 in
theorem s_X8_leagueOf_4 {p : Program} {l : Launch} {e : Env} {s : State} {m : MethodId} {args : Array Value} {below : List Frame} {meth : Method} {c : Code} {A : Nat → Prop} {D : va_G} {cI cZ cO : ClassId} {a : Nat → Nat} {r : Int32} (F : smF p s m args meth c cX8_leagueOf 4 (some .int) RX8 D (tyL cI cZ cO) A) (u : VS) (x1 : Int32)  (n : Nat) (x2 : Int32) (x3 : Int32) (hf : f_X8_leagueOf_4 u x1  n x2 x3 = some r) : Sm p l e rmX8_leagueOf s m args below meth c D A 4 0 0 (smQ below args s D A (some (.int r)) (wV cI cZ cO a u)) 4 [(0, .ref (a 0)), (1, .int x1), (2, .int x2), (3, .int x3)] [] (wV cI cZ cO a u) :=
  lq2_ind (P := fun (x2 : Int32) (x3 : Int32) => Sm p l e rmX8_leagueOf s m args below meth c D A 4 0 0 (smQ below args s D A (some (.int r)) (wV cI cZ cO a u)) 4 [(0, .ref (a 0)), (1, .int x1), (2, .int x2), (3, .int x3)] [] (wV cI cZ cO a u)) (fun k4 hk4 x2 x3 h9 => s_X8_leagueOf_4_b F u x1  k4 hk4 x2 x3 h9) n x2 x3 hf
set_option maxRecDepth 100000 in
set_option maxHeartbeats 4000000 in
theorem ct_X8_leagueOf (l : Launch) (D : va_G) (cI cZ cO : ClassId) (a : Nat → Nat) {u : VS} {x1 : Int32} {r : Int32} (hf : f_X8_leagueOf u x1 = some r) : Ct l yX8_leagueOf (uw (Cond.code yX8_leagueOf cX8_leagueOf 4 (some .int))) rmX8_leagueOf D (tyL cI cZ cO) E0 [.ref (a 0), .int x1] (wV cI cZ cO a u) (some (.int r)) (wV cI cZ cO a u) := by
  refine sm_start (cc := cX8_leagueOf) (maxL := 4) (ret := (some .int)) (own := RX8) (by decide) rfl rfl (Nat.le_of_ble_eq_true rfl) (lv := [(0, .ref (a 0)), (1, .int x1)]) rfl ?_
  intro p e s m below meth c A F hE hA
  unfold f_X8_leagueOf at hf
  refine sm_iconst F dX8_leagueOf_0 kc_i_0 ?_
  refine sm_istore_n F [(0, .ref (a 0)), (1, .int x1), (2, .int (0 : Int32))] [1, 2, 0] dX8_leagueOf_1 rfl (by decide) rfl ?_
  refine sm_iconst F dX8_leagueOf_2 kc_i_0 ?_
  refine sm_istore_n F [(0, .ref (a 0)), (1, .int x1), (2, .int (0 : Int32)), (3, .int (0 : Int32))] [1, 2, 3, 0] dX8_leagueOf_3 rfl (by decide) rfl ?_
  exact s_X8_leagueOf_4 F u x1 smN (0 : Int32) (0 : Int32) hf
/-! SoManyForgotten$Valley.setMemory(III)V -/
abbrev rmX8_setMemory : Room := { frames := 0, cells := 0, slots := 0, locals := 0 }
set_option maxRecDepth 100000 in
theorem hvX8_setMemory : yX8_setMemory.cls = RX8 ∧ yX8_setMemory.cls ≠ "java/lang/invoke/MethodHandle" ∧ yX8_setMemory.cls ≠ "java/lang/invoke/VarHandle" ∧ (parseMethodDescriptor yX8_setMemory.desc).map (fun d => d.parameters.length) = some 3 := by decide +kernel
set_option maxRecDepth 100000 in
set_option maxHeartbeats 4000000 in
theorem ct_X8_setMemory (l : Launch) (D : va_G) (cI cZ cO : ClassId) (a : Nat → Nat) {u : VS} {x1 : Int32} {x2 : Int32} {x3 : Int32} {o : VS} (hf : f_X8_setMemory u x1 x2 x3 = some o) : Ct l yX8_setMemory (uw (Cond.code yX8_setMemory cX8_setMemory 4 none)) rmX8_setMemory D (tyL cI cZ cO) E0 [.ref (a 0), .int x1, .int x2, .int x3] (wV cI cZ cO a u) none (wV cI cZ cO a o) := by
  refine sm_start (cc := cX8_setMemory) (maxL := 4) (ret := none) (own := RX8) (by decide) rfl rfl (Nat.le_of_ble_eq_true rfl) (lv := [(0, .ref (a 0)), (1, .int x1), (2, .int x2), (3, .int x3)]) rfl ?_
  intro p e s m below meth c A F hE hA
  unfold f_X8_setMemory at hf
  refine sm_aload_n F dX8_setMemory_0 rfl 0 rfl ?_
  refine sm_get (v := .ref (a 5)) F inX8 0 rfl rfl 5 (by decide) qw1_93 rfl rfl dX8_setMemory_1 ?_
  refine sm_iload_n F dX8_setMemory_4 rfl 1 rfl ?_
  refine sm_bipush F dX8_setMemory_5 kc_b_8 ?_
  refine sm_imul F dX8_setMemory_7 ?_
  refine sm_iload_n F dX8_setMemory_8 rfl 2 rfl ?_
  refine sm_iadd F dX8_setMemory_9 ?_
  refine sm_iload_n F dX8_setMemory_10 rfl 3 rfl ?_
  obtain ⟨h11, hf⟩ := ck_some hf
  refine sm_iast F 5 0 rfl rfl h11 (wV cI cZ cO a (sV_mem u (upd (gV_mem u) (Int32.toNatClampNeg ((x1 * (8 : Int32)) + x2)) x3))) rfl dX8_setMemory_11 ?_
  exact sm_vret F dX8_setMemory_12 (congrArg (fun z => (wV cI cZ cO a z)) (Option.some.inj hf))
/-! SoManyForgotten$Valley.forgetOthers(I)V -/
abbrev rmX8_forgetOthers : Room := { frames := 1, cells := 0, slots := 0, locals := 23 }
set_option maxRecDepth 100000 in
theorem hvX8_forgetOthers : yX8_forgetOthers.cls = RX8 ∧ yX8_forgetOthers.cls ≠ "java/lang/invoke/MethodHandle" ∧ yX8_forgetOthers.cls ≠ "java/lang/invoke/VarHandle" ∧ (parseMethodDescriptor yX8_forgetOthers.desc).map (fun d => d.parameters.length) = some 1 := by decide +kernel
set_option maxRecDepth 100000 in
set_option maxHeartbeats 4000000 in
theorem s_X8_forgetOthers_2_b {p : Program} {l : Launch} {e : Env} {s : State} {m : MethodId} {args : Array Value} {below : List Frame} {meth : Method} {c : Code} {A : Nat → Prop} {D : va_G} {cI cZ cO : ClassId} {a : Nat → Nat} {o : VS} (F : smF p s m args meth c cX8_forgetOthers 3 none RX8 D (tyL cI cZ cO) A) (x1 : Int32) (k2 : VS → Int32 → Option (VS)) (hk2 : ∀ (u' : VS) (x2' : Int32), k2 u' x2' = some o → Sm p l e rmX8_forgetOthers s m args below meth c D A 3 0 0 (smQ below args s D A none (wV cI cZ cO a o)) 2 [(0, .ref (a 0)), (1, .int x1), (2, .int x2')] [] (wV cI cZ cO a u')) (u : VS) (x2 : Int32) (hf : b_X8_forgetOthers_2 x1  k2 u x2 = some o) : Sm p l e rmX8_forgetOthers s m args below meth c D A 3 0 0 (smQ below args s D A none (wV cI cZ cO a o)) 2 [(0, .ref (a 0)), (1, .int x1), (2, .int x2)] [] (wV cI cZ cO a u) := by
  unfold b_X8_forgetOthers_2 at hf
  refine sm_iload_n F dX8_forgetOthers_2 rfl 2 rfl ?_
  refine sm_aload_n F dX8_forgetOthers_3 rfl 0 rfl ?_
  refine sm_get (v := .int (gV_people u)) F inX8 0 rfl rfl 6 (by decide) qw1_94 rfl rfl dX8_forgetOthers_4 ?_
  refine sm_icmp_ge (tgt := 23) F dX8_forgetOthers_7 (by decide) (fun c7 => ?_) (fun c7 => ?_)
  · replace hf := if_t c7 hf
    exact sm_vret F dX8_forgetOthers_23 (congrArg (fun z => (wV cI cZ cO a z)) (Option.some.inj hf))
  · replace hf := if_f c7 hf
    refine sm_aload_n F dX8_forgetOthers_10 rfl 0 rfl ?_
    refine sm_iload_n F dX8_forgetOthers_11 rfl 1 rfl ?_
    refine sm_iload_n F dX8_forgetOthers_12 rfl 2 rfl ?_
    refine sm_iconst F dX8_forgetOthers_13 kc_i_0 ?_
    obtain ⟨z14, hz14, hf⟩ := bd_some hf
    refine sm_callV (rest := []) F (ct_X8_setMemory l D cI cZ cO a hz14) (cut_V_id cI cZ cO a u z14) rfl rfl rfl qw2_161 qw2_162 qw2_163 qw1_8 qw2_164 hvX8_setMemory ⟨Nat.le_of_ble_eq_true rfl, Nat.le_of_ble_eq_true rfl⟩ ⟨Nat.zero_le _, Nat.zero_le _⟩ 0 8 rfl rfl rfl rfl (Nat.le_of_ble_eq_true rfl) E0_b (fun _ _ _ _ _ _ => trivial) rfl dX8_forgetOthers_14 [] rfl ?_
    refine sm_iinc F [(0, .ref (a 0)), (1, .int x1), (2, .int (x2 + 1))] 2 [1, 2, 0] dX8_forgetOthers_17 rfl kc_i_1 (by decide) rfl ?_
    refine sm_goto (tgt := 2) F dX8_forgetOthers_20 (by decide) ?_
    exact hk2 z14 (x2 + 1) hf
set_option maxRecDepth 100000 in
set_option maxHeartbeats 4000000 in
theorem s_X8_forgetOthers_2 {p : Program} {l : Launch} {e : Env} {s : State} {m : MethodId} {args : Array Value} {below : List Frame} {meth : Method} {c : Code} {A : Nat → Prop} {D : va_G} {cI cZ cO : ClassId} {a : Nat → Nat} {o : VS} (F : smF p s m args meth c cX8_forgetOthers 3 none RX8 D (tyL cI cZ cO) A) (x1 : Int32)  (n : Nat) (u : VS) (x2 : Int32) (hf : f_X8_forgetOthers_2 x1  n u x2 = some o) : Sm p l e rmX8_forgetOthers s m args below meth c D A 3 0 0 (smQ below args s D A none (wV cI cZ cO a o)) 2 [(0, .ref (a 0)), (1, .int x1), (2, .int x2)] [] (wV cI cZ cO a u) :=
  lq2_ind (P := fun (u : VS) (x2 : Int32) => Sm p l e rmX8_forgetOthers s m args below meth c D A 3 0 0 (smQ below args s D A none (wV cI cZ cO a o)) 2 [(0, .ref (a 0)), (1, .int x1), (2, .int x2)] [] (wV cI cZ cO a u)) (fun k2 hk2 u x2 h9 => s_X8_forgetOthers_2_b F x1  k2 hk2 u x2 h9) n u x2 hf
set_option maxRecDepth 100000 in
set_option maxHeartbeats 4000000 in
theorem ct_X8_forgetOthers (l : Launch) (D : va_G) (cI cZ cO : ClassId) (a : Nat → Nat) {u : VS} {x1 : Int32} {o : VS} (hf : f_X8_forgetOthers u x1 = some o) : Ct l yX8_forgetOthers (uw (Cond.code yX8_forgetOthers cX8_forgetOthers 3 none)) rmX8_forgetOthers D (tyL cI cZ cO) E0 [.ref (a 0), .int x1] (wV cI cZ cO a u) none (wV cI cZ cO a o) := by
  refine sm_start (cc := cX8_forgetOthers) (maxL := 3) (ret := none) (own := RX8) (by decide) rfl rfl (Nat.le_of_ble_eq_true rfl) (lv := [(0, .ref (a 0)), (1, .int x1)]) rfl ?_
  intro p e s m below meth c A F hE hA
  unfold f_X8_forgetOthers at hf
  refine sm_iconst F dX8_forgetOthers_0 kc_i_0 ?_
  refine sm_istore_n F [(0, .ref (a 0)), (1, .int x1), (2, .int (0 : Int32))] [1, 2, 0] dX8_forgetOthers_1 rfl (by decide) rfl ?_
  exact s_X8_forgetOthers_2 F x1 smN u (0 : Int32) hf
/-! SoManyForgotten$Valley.talkToAll(I)V -/
abbrev rmX8_talkToAll : Room := { frames := 3, cells := 0, slots := 0, locals := 71 }
set_option maxRecDepth 100000 in
theorem hvX8_talkToAll : yX8_talkToAll.cls = RX8 ∧ yX8_talkToAll.cls ≠ "java/lang/invoke/MethodHandle" ∧ yX8_talkToAll.cls ≠ "java/lang/invoke/VarHandle" ∧ (parseMethodDescriptor yX8_talkToAll.desc).map (fun d => d.parameters.length) = some 1 := by decide +kernel
set_option maxRecDepth 100000 in
set_option maxHeartbeats 4000000 in
theorem s_X8_talkToAll_2_b {p : Program} {l : Launch} {e : Env} {s : State} {m : MethodId} {args : Array Value} {below : List Frame} {meth : Method} {c : Code} {A : Nat → Prop} {D : va_G} {cI cZ cO : ClassId} {a : Nat → Nat} {o : VS} (F : smF p s m args meth c cX8_talkToAll 3 none RX8 D (tyL cI cZ cO) A) (x1 : Int32) (k2 : VS → Int32 → Option (VS)) (hk2 : ∀ (u' : VS) (x2' : Int32), k2 u' x2' = some o → Sm p l e rmX8_talkToAll s m args below meth c D A 3 0 0 (smQ below args s D A none (wV cI cZ cO a o)) 2 [(0, .ref (a 0)), (1, .int x1), (2, .int x2')] [] (wV cI cZ cO a u')) (u : VS) (x2 : Int32) (hf : b_X8_talkToAll_2 x1  k2 u x2 = some o) : Sm p l e rmX8_talkToAll s m args below meth c D A 3 0 0 (smQ below args s D A none (wV cI cZ cO a o)) 2 [(0, .ref (a 0)), (1, .int x1), (2, .int x2)] [] (wV cI cZ cO a u) := by
  unfold b_X8_talkToAll_2 at hf
  refine sm_iload_n F dX8_talkToAll_2 rfl 2 rfl ?_
  refine sm_aload_n F dX8_talkToAll_3 rfl 0 rfl ?_
  refine sm_get (v := .int (gV_people u)) F inX8 0 rfl rfl 6 (by decide) qw1_94 rfl rfl dX8_talkToAll_4 ?_
  refine sm_icmp_ge (tgt := 31) F dX8_talkToAll_7 (by decide) (fun c7 => ?_) (fun c7 => ?_)
  · replace hf := if_t c7 hf
    exact sm_vret F dX8_talkToAll_31 (congrArg (fun z => (wV cI cZ cO a z)) (Option.some.inj hf))
  · replace hf := if_f c7 hf
    refine sm_aload_n F dX8_talkToAll_10 rfl 0 rfl ?_
    refine sm_iload_n F dX8_talkToAll_11 rfl 1 rfl ?_
    refine sm_iload_n F dX8_talkToAll_12 rfl 2 rfl ?_
    obtain ⟨z13, hz13, hf⟩ := bd_some hf
    refine sm_callV (rest := []) F (ct_X8_areTwoHere l D cI cZ cO a hz13) (cut_V_id cI cZ cO a u u) rfl rfl rfl qw4_38 qw2_189 qw2_190 qw1_8 qw2_191 hvX8_areTwoHere ⟨Nat.le_of_ble_eq_true rfl, Nat.le_of_ble_eq_true rfl⟩ ⟨Nat.zero_le _, Nat.zero_le _⟩ 0 8 rfl rfl rfl rfl (Nat.le_of_ble_eq_true rfl) E0_b (fun _ _ _ _ _ _ => trivial) rfl dX8_talkToAll_13 [.int z13] rfl ?_
    refine sm_if_eq (tgt := 25) F dX8_talkToAll_16 (by decide) (fun c16 => ?_) (fun c16 => ?_)
    · replace hf := if_t c16 hf
      refine sm_iinc F [(0, .ref (a 0)), (1, .int x1), (2, .int (x2 + 1))] 2 [1, 2, 0] dX8_talkToAll_25 rfl kc_i_1 (by decide) rfl ?_
      refine sm_goto (tgt := 2) F dX8_talkToAll_28 (by decide) ?_
      exact hk2 u (x2 + 1) hf
    · replace hf := if_f c16 hf
      refine sm_aload_n F dX8_talkToAll_19 rfl 0 rfl ?_
      refine sm_iload_n F dX8_talkToAll_20 rfl 1 rfl ?_
      refine sm_iload_n F dX8_talkToAll_21 rfl 2 rfl ?_
      obtain ⟨z22, hz22, hf⟩ := bd_some hf
      refine sm_callV (rest := []) F (ct_X8_talk l D cI cZ cO a hz22) (cut_V_id cI cZ cO a u z22) rfl rfl rfl qw4_128 qw2_197 qw2_198 qw1_8 qw2_199 hvX8_talk ⟨Nat.le_of_ble_eq_true rfl, Nat.le_of_ble_eq_true rfl⟩ ⟨Nat.zero_le _, Nat.zero_le _⟩ 0 8 rfl rfl rfl rfl (Nat.le_of_ble_eq_true rfl) E0_b (fun _ _ _ _ _ _ => trivial) rfl dX8_talkToAll_22 [] rfl ?_
      refine sm_iinc F [(0, .ref (a 0)), (1, .int x1), (2, .int (x2 + 1))] 2 [1, 2, 0] dX8_talkToAll_25 rfl kc_i_1 (by decide) rfl ?_
      refine sm_goto (tgt := 2) F dX8_talkToAll_28 (by decide) ?_
      exact hk2 z22 (x2 + 1) hf
set_option maxRecDepth 100000 in
set_option maxHeartbeats 4000000 in
theorem s_X8_talkToAll_2 {p : Program} {l : Launch} {e : Env} {s : State} {m : MethodId} {args : Array Value} {below : List Frame} {meth : Method} {c : Code} {A : Nat → Prop} {D : va_G} {cI cZ cO : ClassId} {a : Nat → Nat} {o : VS} (F : smF p s m args meth c cX8_talkToAll 3 none RX8 D (tyL cI cZ cO) A) (x1 : Int32)  (n : Nat) (u : VS) (x2 : Int32) (hf : f_X8_talkToAll_2 x1  n u x2 = some o) : Sm p l e rmX8_talkToAll s m args below meth c D A 3 0 0 (smQ below args s D A none (wV cI cZ cO a o)) 2 [(0, .ref (a 0)), (1, .int x1), (2, .int x2)] [] (wV cI cZ cO a u) :=
  lq2_ind (P := fun (u : VS) (x2 : Int32) => Sm p l e rmX8_talkToAll s m args below meth c D A 3 0 0 (smQ below args s D A none (wV cI cZ cO a o)) 2 [(0, .ref (a 0)), (1, .int x1), (2, .int x2)] [] (wV cI cZ cO a u)) (fun k2 hk2 u x2 h9 => s_X8_talkToAll_2_b F x1  k2 hk2 u x2 h9) n u x2 hf
set_option maxRecDepth 100000 in
set_option maxHeartbeats 4000000 in
theorem ct_X8_talkToAll (l : Launch) (D : va_G) (cI cZ cO : ClassId) (a : Nat → Nat) {u : VS} {x1 : Int32} {o : VS} (hf : f_X8_talkToAll u x1 = some o) : Ct l yX8_talkToAll (uw (Cond.code yX8_talkToAll cX8_talkToAll 3 none)) rmX8_talkToAll D (tyL cI cZ cO) E0 [.ref (a 0), .int x1] (wV cI cZ cO a u) none (wV cI cZ cO a o) := by
  refine sm_start (cc := cX8_talkToAll) (maxL := 3) (ret := none) (own := RX8) (by decide) rfl rfl (Nat.le_of_ble_eq_true rfl) (lv := [(0, .ref (a 0)), (1, .int x1)]) rfl ?_
  intro p e s m below meth c A F hE hA
  unfold f_X8_talkToAll at hf
  refine sm_iconst F dX8_talkToAll_0 kc_i_0 ?_
  refine sm_istore_n F [(0, .ref (a 0)), (1, .int x1), (2, .int (0 : Int32))] [1, 2, 0] dX8_talkToAll_1 rfl (by decide) rfl ?_
  exact s_X8_talkToAll_2 F x1 smN u (0 : Int32) hf
/-! SoManyForgotten$Valley.holdFeast()V -/
abbrev rmX8_holdFeast : Room := { frames := 3, cells := 0, slots := 0, locals := 72 }
set_option maxRecDepth 100000 in
theorem hvX8_holdFeast : yX8_holdFeast.cls = RX8 ∧ yX8_holdFeast.cls ≠ "java/lang/invoke/MethodHandle" ∧ yX8_holdFeast.cls ≠ "java/lang/invoke/VarHandle" ∧ (parseMethodDescriptor yX8_holdFeast.desc).map (fun d => d.parameters.length) = some 0 := by decide +kernel
set_option maxRecDepth 100000 in
set_option maxHeartbeats 4000000 in
theorem s_X8_holdFeast_2_b {p : Program} {l : Launch} {e : Env} {s : State} {m : MethodId} {args : Array Value} {below : List Frame} {meth : Method} {c : Code} {A : Nat → Prop} {D : va_G} {cI cZ cO : ClassId} {a : Nat → Nat} {o : VS} (F : smF p s m args meth c cX8_holdFeast 2 none RX8 D (tyL cI cZ cO) A)  (k2 : VS → Int32 → Option (VS)) (hk2 : ∀ (u' : VS) (x1' : Int32), k2 u' x1' = some o → Sm p l e rmX8_holdFeast s m args below meth c D A 2 0 0 (smQ below args s D A none (wV cI cZ cO a o)) 2 [(0, .ref (a 0)), (1, .int x1')] [] (wV cI cZ cO a u')) (u : VS) (x1 : Int32) (hf : b_X8_holdFeast_2   k2 u x1 = some o) : Sm p l e rmX8_holdFeast s m args below meth c D A 2 0 0 (smQ below args s D A none (wV cI cZ cO a o)) 2 [(0, .ref (a 0)), (1, .int x1)] [] (wV cI cZ cO a u) := by
  unfold b_X8_holdFeast_2 at hf
  refine sm_iload_n F dX8_holdFeast_2 rfl 1 rfl ?_
  refine sm_aload_n F dX8_holdFeast_3 rfl 0 rfl ?_
  refine sm_get (v := .int (gV_people u)) F inX8 0 rfl rfl 6 (by decide) qw1_94 rfl rfl dX8_holdFeast_4 ?_
  refine sm_icmp_ge (tgt := 31) F dX8_holdFeast_7 (by decide) (fun c7 => ?_) (fun c7 => ?_)
  · replace hf := if_t c7 hf
    exact sm_vret F dX8_holdFeast_31 (congrArg (fun z => (wV cI cZ cO a z)) (Option.some.inj hf))
  · replace hf := if_f c7 hf
    refine sm_aload_n F dX8_holdFeast_10 rfl 0 rfl ?_
    refine sm_get (v := .ref (a 4)) F inX8 0 rfl rfl 4 (by decide) qw1_89 rfl rfl dX8_holdFeast_11 ?_
    refine sm_iload_n F dX8_holdFeast_14 rfl 1 rfl ?_
    obtain ⟨h15, hf⟩ := ck_some hf
    refine sm_zald F 4 1 rfl rfl h15 dX8_holdFeast_15 ?_
    refine sm_if_eq (tgt := 25) F dX8_holdFeast_16 (by decide) (fun c16 => ?_) (fun c16 => ?_)
    · replace hf := if_t c16 hf
      refine sm_iinc F [(0, .ref (a 0)), (1, .int (x1 + 1))] 1 [1, 0] dX8_holdFeast_25 rfl kc_i_1 (by decide) rfl ?_
      refine sm_goto (tgt := 2) F dX8_holdFeast_28 (by decide) ?_
      exact hk2 u (x1 + 1) hf
    · replace hf := if_f c16 hf
      refine sm_aload_n F dX8_holdFeast_19 rfl 0 rfl ?_
      refine sm_iload_n F dX8_holdFeast_20 rfl 1 rfl ?_
      refine sm_iconst F dX8_holdFeast_21 kc_i_2 ?_
      obtain ⟨z22, hz22, hf⟩ := bd_some hf
      refine sm_callV (rest := []) F (ct_X8_rememberMore l D cI cZ cO a hz22) (cut_V_id cI cZ cO a u z22) rfl rfl rfl qw3_9 qw3_11 qw0_10 qw1_8 qw3_12 hvX8_rememberMore ⟨Nat.le_of_ble_eq_true rfl, Nat.le_of_ble_eq_true rfl⟩ ⟨Nat.zero_le _, Nat.zero_le _⟩ 0 8 rfl rfl rfl rfl (Nat.le_of_ble_eq_true rfl) E0_b (fun _ _ _ _ _ _ => trivial) rfl dX8_holdFeast_22 [] rfl ?_
      refine sm_iinc F [(0, .ref (a 0)), (1, .int (x1 + 1))] 1 [1, 0] dX8_holdFeast_25 rfl kc_i_1 (by decide) rfl ?_
      refine sm_goto (tgt := 2) F dX8_holdFeast_28 (by decide) ?_
      exact hk2 z22 (x1 + 1) hf
set_option maxRecDepth 100000 in
set_option maxHeartbeats 4000000 in
theorem s_X8_holdFeast_2 {p : Program} {l : Launch} {e : Env} {s : State} {m : MethodId} {args : Array Value} {below : List Frame} {meth : Method} {c : Code} {A : Nat → Prop} {D : va_G} {cI cZ cO : ClassId} {a : Nat → Nat} {o : VS} (F : smF p s m args meth c cX8_holdFeast 2 none RX8 D (tyL cI cZ cO) A)   (n : Nat) (u : VS) (x1 : Int32) (hf : f_X8_holdFeast_2   n u x1 = some o) : Sm p l e rmX8_holdFeast s m args below meth c D A 2 0 0 (smQ below args s D A none (wV cI cZ cO a o)) 2 [(0, .ref (a 0)), (1, .int x1)] [] (wV cI cZ cO a u) :=
  lq2_ind (P := fun (u : VS) (x1 : Int32) => Sm p l e rmX8_holdFeast s m args below meth c D A 2 0 0 (smQ below args s D A none (wV cI cZ cO a o)) 2 [(0, .ref (a 0)), (1, .int x1)] [] (wV cI cZ cO a u)) (fun k2 hk2 u x1 h9 => s_X8_holdFeast_2_b F   k2 hk2 u x1 h9) n u x1 hf
set_option maxRecDepth 100000 in
set_option maxHeartbeats 4000000 in
theorem ct_X8_holdFeast (l : Launch) (D : va_G) (cI cZ cO : ClassId) (a : Nat → Nat) {u : VS} {o : VS} (hf : f_X8_holdFeast u = some o) : Ct l yX8_holdFeast (uw (Cond.code yX8_holdFeast cX8_holdFeast 2 none)) rmX8_holdFeast D (tyL cI cZ cO) E0 [.ref (a 0)] (wV cI cZ cO a u) none (wV cI cZ cO a o) := by
  refine sm_start (cc := cX8_holdFeast) (maxL := 2) (ret := none) (own := RX8) (by decide) rfl rfl (Nat.le_of_ble_eq_true rfl) (lv := [(0, .ref (a 0))]) rfl ?_
  intro p e s m below meth c A F hE hA
  unfold f_X8_holdFeast at hf
  refine sm_iconst F dX8_holdFeast_0 kc_i_0 ?_
  refine sm_istore_n F [(0, .ref (a 0)), (1, .int (0 : Int32))] [1, 0] dX8_holdFeast_1 rfl (by decide) rfl ?_
  exact s_X8_holdFeast_2 F  smN u (0 : Int32) hf
/-! SoManyForgotten$Valley.knownTogether()I -/
abbrev rmX8_knownTogether : Room := { frames := 1, cells := 0, slots := 0, locals := 23 }
set_option maxRecDepth 100000 in
theorem hvX8_knownTogether : yX8_knownTogether.cls = RX8 ∧ yX8_knownTogether.cls ≠ "java/lang/invoke/MethodHandle" ∧ yX8_knownTogether.cls ≠ "java/lang/invoke/VarHandle" ∧ (parseMethodDescriptor yX8_knownTogether.desc).map (fun d => d.parameters.length) = some 0 := by decide +kernel
set_option maxRecDepth 100000 in
set_option maxHeartbeats 4000000 in
theorem s_X8_knownTogether_4_b {p : Program} {l : Launch} {e : Env} {s : State} {m : MethodId} {args : Array Value} {below : List Frame} {meth : Method} {c : Code} {A : Nat → Prop} {D : va_G} {cI cZ cO : ClassId} {a : Nat → Nat} {r : Int32} (F : smF p s m args meth c cX8_knownTogether 3 (some .int) RX8 D (tyL cI cZ cO) A) (u : VS) (k4 : Int32 → Int32 → Option Int32) (hk4 : ∀ (x1' : Int32) (x2' : Int32), k4 x1' x2' = some r → Sm p l e rmX8_knownTogether s m args below meth c D A 3 0 0 (smQ below args s D A (some (.int r)) (wV cI cZ cO a u)) 4 [(0, .ref (a 0)), (1, .int x1'), (2, .int x2')] [] (wV cI cZ cO a u)) (x1 : Int32) (x2 : Int32) (hf : b_X8_knownTogether_4 u  k4 x1 x2 = some r) : Sm p l e rmX8_knownTogether s m args below meth c D A 3 0 0 (smQ below args s D A (some (.int r)) (wV cI cZ cO a u)) 4 [(0, .ref (a 0)), (1, .int x1), (2, .int x2)] [] (wV cI cZ cO a u) := by
  unfold b_X8_knownTogether_4 at hf
  refine sm_iload_n F dX8_knownTogether_4 rfl 2 rfl ?_
  refine sm_aload_n F dX8_knownTogether_5 rfl 0 rfl ?_
  refine sm_get (v := .int (gV_people u)) F inX8 0 rfl rfl 6 (by decide) qw1_94 rfl rfl dX8_knownTogether_6 ?_
  refine sm_icmp_ge (tgt := 39) F dX8_knownTogether_9 (by decide) (fun c9 => ?_) (fun c9 => ?_)
  · replace hf := if_t c9 hf
    refine sm_iload_n F dX8_knownTogether_39 rfl 1 rfl ?_
    exact sm_iret F dX8_knownTogether_40 (Option.some.inj hf) rfl
  · replace hf := if_f c9 hf
    refine sm_iload_n F dX8_knownTogether_12 rfl 1 rfl ?_
    refine sm_aload_n F dX8_knownTogether_13 rfl 0 rfl ?_
    refine sm_get (v := .ref (a 4)) F inX8 0 rfl rfl 4 (by decide) qw1_89 rfl rfl dX8_knownTogether_14 ?_
    refine sm_iload_n F dX8_knownTogether_17 rfl 2 rfl ?_
    obtain ⟨h18, hf⟩ := ck_some hf
    refine sm_zald F 4 1 rfl rfl h18 dX8_knownTogether_18 ?_
    refine sm_if_eq (tgt := 30) F dX8_knownTogether_19 (by decide) (fun c19 => ?_) (fun c19 => ?_)
    · replace hf := if_t c19 hf
      refine sm_iconst F dX8_knownTogether_30 kc_i_0 ?_
      refine sm_iadd F dX8_knownTogether_31 ?_
      refine sm_istore_n F [(0, .ref (a 0)), (1, .int (x1 + (0 : Int32))), (2, .int x2)] [1, 0, 2] dX8_knownTogether_32 rfl (by decide) rfl ?_
      refine sm_iinc F [(0, .ref (a 0)), (1, .int (x1 + (0 : Int32))), (2, .int (x2 + 1))] 2 [1, 2, 0] dX8_knownTogether_33 rfl kc_i_1 (by decide) rfl ?_
      refine sm_goto (tgt := 4) F dX8_knownTogether_36 (by decide) ?_
      exact hk4 (x1 + (0 : Int32)) (x2 + 1) hf
    · replace hf := if_f c19 hf
      refine sm_aload_n F dX8_knownTogether_22 rfl 0 rfl ?_
      refine sm_iload_n F dX8_knownTogether_23 rfl 2 rfl ?_
      obtain ⟨z24, hz24, hf⟩ := bd_some hf
      refine sm_callV (rest := [.int x1]) F (ct_X8_knownOf l D cI cZ cO a hz24) (cut_V_id cI cZ cO a u u) rfl rfl rfl qw3_35 qw3_36 qw3_37 qw1_8 qw3_38 hvX8_knownOf ⟨Nat.le_of_ble_eq_true rfl, Nat.le_of_ble_eq_true rfl⟩ ⟨Nat.zero_le _, Nat.zero_le _⟩ 0 8 rfl rfl rfl rfl (Nat.le_of_ble_eq_true rfl) E0_b (fun _ _ _ _ _ _ => trivial) rfl dX8_knownTogether_24 [.int z24, .int x1] rfl ?_
      refine sm_goto (tgt := 31) F dX8_knownTogether_27 (by decide) ?_
      refine sm_iadd F dX8_knownTogether_31 ?_
      refine sm_istore_n F [(0, .ref (a 0)), (1, .int (x1 + z24)), (2, .int x2)] [1, 0, 2] dX8_knownTogether_32 rfl (by decide) rfl ?_
      refine sm_iinc F [(0, .ref (a 0)), (1, .int (x1 + z24)), (2, .int (x2 + 1))] 2 [1, 2, 0] dX8_knownTogether_33 rfl kc_i_1 (by decide) rfl ?_
      refine sm_goto (tgt := 4) F dX8_knownTogether_36 (by decide) ?_
      exact hk4 (x1 + z24) (x2 + 1) hf
set_option maxRecDepth 100000 in
set_option maxHeartbeats 4000000 in
theorem s_X8_knownTogether_4 {p : Program} {l : Launch} {e : Env} {s : State} {m : MethodId} {args : Array Value} {below : List Frame} {meth : Method} {c : Code} {A : Nat → Prop} {D : va_G} {cI cZ cO : ClassId} {a : Nat → Nat} {r : Int32} (F : smF p s m args meth c cX8_knownTogether 3 (some .int) RX8 D (tyL cI cZ cO) A) (u : VS)  (n : Nat) (x1 : Int32) (x2 : Int32) (hf : f_X8_knownTogether_4 u  n x1 x2 = some r) : Sm p l e rmX8_knownTogether s m args below meth c D A 3 0 0 (smQ below args s D A (some (.int r)) (wV cI cZ cO a u)) 4 [(0, .ref (a 0)), (1, .int x1), (2, .int x2)] [] (wV cI cZ cO a u) :=
  lq2_ind (P := fun (x1 : Int32) (x2 : Int32) => Sm p l e rmX8_knownTogether s m args below meth c D A 3 0 0 (smQ below args s D A (some (.int r)) (wV cI cZ cO a u)) 4 [(0, .ref (a 0)), (1, .int x1), (2, .int x2)] [] (wV cI cZ cO a u)) (fun k4 hk4 x1 x2 h9 => s_X8_knownTogether_4_b F u  k4 hk4 x1 x2 h9) n x1 x2 hf
set_option maxRecDepth 100000 in
set_option maxHeartbeats 4000000 in
theorem ct_X8_knownTogether (l : Launch) (D : va_G) (cI cZ cO : ClassId) (a : Nat → Nat) {u : VS} {r : Int32} (hf : f_X8_knownTogether u = some r) : Ct l yX8_knownTogether (uw (Cond.code yX8_knownTogether cX8_knownTogether 3 (some .int))) rmX8_knownTogether D (tyL cI cZ cO) E0 [.ref (a 0)] (wV cI cZ cO a u) (some (.int r)) (wV cI cZ cO a u) := by
  refine sm_start (cc := cX8_knownTogether) (maxL := 3) (ret := (some .int)) (own := RX8) (by decide) rfl rfl (Nat.le_of_ble_eq_true rfl) (lv := [(0, .ref (a 0))]) rfl ?_
  intro p e s m below meth c A F hE hA
  unfold f_X8_knownTogether at hf
  refine sm_iconst F dX8_knownTogether_0 kc_i_0 ?_
  refine sm_istore_n F [(0, .ref (a 0)), (1, .int (0 : Int32))] [1, 0] dX8_knownTogether_1 rfl (by decide) rfl ?_
  refine sm_iconst F dX8_knownTogether_2 kc_i_0 ?_
  refine sm_istore_n F [(0, .ref (a 0)), (1, .int (0 : Int32)), (2, .int (0 : Int32))] [1, 2, 0] dX8_knownTogether_3 rfl (by decide) rfl ?_
  exact s_X8_knownTogether_4 F u smN (0 : Int32) (0 : Int32) hf
/-! SoManyForgotten$Valley.comes(II)V -/
abbrev rmX8_comes : Room := { frames := 1, cells := 0, slots := 0, locals := 23 }
set_option maxRecDepth 100000 in
theorem hvX8_comes : yX8_comes.cls = RX8 ∧ yX8_comes.cls ≠ "java/lang/invoke/MethodHandle" ∧ yX8_comes.cls ≠ "java/lang/invoke/VarHandle" ∧ (parseMethodDescriptor yX8_comes.desc).map (fun d => d.parameters.length) = some 2 := by decide +kernel
set_option maxRecDepth 100000 in
set_option maxHeartbeats 4000000 in
theorem s_X8_comes_36_b {p : Program} {l : Launch} {e : Env} {s : State} {m : MethodId} {args : Array Value} {below : List Frame} {meth : Method} {c : Code} {A : Nat → Prop} {D : va_G} {cI cZ cO : ClassId} {a : Nat → Nat} {o : VS} (F : smF p s m args meth c cX8_comes 5 none RX8 D (tyL cI cZ cO) A)  (k36 : VS → Int32 → Int32 → Option (VS)) (hk36 : ∀ (u' : VS) (x3' : Int32) (x4' : Int32), k36 u' x3' x4' = some o → Sm p l e rmX8_comes s m args below meth c D A 5 0 0 (smQ below args s D A none (wV cI cZ cO a o)) 36 [(0, .ref (a 0)), (3, .int x3'), (4, .int x4')] [] (wV cI cZ cO a u')) (u : VS) (x3 : Int32) (x4 : Int32) (hf : b_X8_comes_36   k36 u x3 x4 = some o) : Sm p l e rmX8_comes s m args below meth c D A 5 0 0 (smQ below args s D A none (wV cI cZ cO a o)) 36 [(0, .ref (a 0)), (3, .int x3), (4, .int x4)] [] (wV cI cZ cO a u) := by
  unfold b_X8_comes_36 at hf
  refine sm_iload F dX8_comes_36 2 rfl ?_
  refine sm_iload_n F dX8_comes_38 rfl 1 rfl ?_
  refine sm_icmp_ge (tgt := 66) F dX8_comes_39 (by decide) (fun c39 => ?_) (fun c39 => ?_)
  · replace hf := if_t c39 hf
    refine sm_aload_n F dX8_comes_66 rfl 0 rfl ?_
    refine sm_dup F dX8_comes_67 rfl ?_
    refine sm_get (v := .int (gV_people u)) F inX8 0 rfl rfl 6 (by decide) qw1_94 rfl rfl dX8_comes_68 ?_
    refine sm_iconst F dX8_comes_71 kc_i_1 ?_
    refine sm_iadd F dX8_comes_72 ?_
    refine sm_put F inX8 tyX8 tyX8_ok nmX8 0 rfl rfl 6 (by decide) qw1_94 rfl rfl rfl rfl (Nat.le_of_ble_eq_true rfl) (wV cI cZ cO a (sV_people u ((gV_people u) + (1 : Int32)))) rfl dX8_comes_73 ?_
    exact sm_vret F dX8_comes_76 (congrArg (fun z => (wV cI cZ cO a z)) (Option.some.inj hf))
  · replace hf := if_f c39 hf
    refine sm_aload_n F dX8_comes_42 rfl 0 rfl ?_
    refine sm_iload_n F dX8_comes_43 rfl 1 rfl ?_
    refine sm_iload F dX8_comes_44 2 rfl ?_
    refine sm_bipush F dX8_comes_46 kc_b_50 ?_
    obtain ⟨z48, hz48, hf⟩ := bd_some hf
    refine sm_callV (rest := []) F (ct_X8_setMemory l D cI cZ cO a hz48) (cut_V_id cI cZ cO a u z48) rfl rfl rfl qw2_161 qw2_162 qw2_163 qw1_8 qw2_164 hvX8_setMemory ⟨Nat.le_of_ble_eq_true rfl, Nat.le_of_ble_eq_true rfl⟩ ⟨Nat.zero_le _, Nat.zero_le _⟩ 0 8 rfl rfl rfl rfl (Nat.le_of_ble_eq_true rfl) E0_b (fun _ _ _ _ _ _ => trivial) rfl dX8_comes_48 [] rfl ?_
    refine sm_aload_n F dX8_comes_51 rfl 0 rfl ?_
    refine sm_iload F dX8_comes_52 2 rfl ?_
    refine sm_iload_n F dX8_comes_54 rfl 1 rfl ?_
    refine sm_bipush F dX8_comes_55 kc_b_50 ?_
    obtain ⟨z57, hz57, hf⟩ := bd_some hf
    refine sm_callV (rest := []) F (ct_X8_setMemory l D cI cZ cO a hz57) (cut_V_id cI cZ cO a z48 z57) rfl rfl rfl qw2_161 qw2_162 qw2_163 qw1_8 qw2_164 hvX8_setMemory ⟨Nat.le_of_ble_eq_true rfl, Nat.le_of_ble_eq_true rfl⟩ ⟨Nat.zero_le _, Nat.zero_le _⟩ 0 8 rfl rfl rfl rfl (Nat.le_of_ble_eq_true rfl) E0_b (fun _ _ _ _ _ _ => trivial) rfl dX8_comes_57 [] rfl ?_
    refine sm_iinc F [(0, .ref (a 0)), (3, .int x3), (4, .int (x4 + 1))] 2 [1, 2, 0] dX8_comes_60 rfl kc_i_1 (by decide) rfl ?_
    refine sm_goto (tgt := 36) F dX8_comes_63 (by decide) ?_
    exact hk36 z57 x3 (x4 + 1) hf
set_option maxRecDepth 100000 in
set_option maxHeartbeats 4000000 in
theorem s_X8_comes_36 {p : Program} {l : Launch} {e : Env} {s : State} {m : MethodId} {args : Array Value} {below : List Frame} {meth : Method} {c : Code} {A : Nat → Prop} {D : va_G} {cI cZ cO : ClassId} {a : Nat → Nat} {o : VS} (F : smF p s m args meth c cX8_comes 5 none RX8 D (tyL cI cZ cO) A)   (n : Nat) (u : VS) (x3 : Int32) (x4 : Int32) (hf : f_X8_comes_36   n u x3 x4 = some o) : Sm p l e rmX8_comes s m args below meth c D A 5 0 0 (smQ below args s D A none (wV cI cZ cO a o)) 36 [(0, .ref (a 0)), (3, .int x3), (4, .int x4)] [] (wV cI cZ cO a u) :=
  lq3_ind (P := fun (u : VS) (x3 : Int32) (x4 : Int32) => Sm p l e rmX8_comes s m args below meth c D A 5 0 0 (smQ below args s D A none (wV cI cZ cO a o)) 36 [(0, .ref (a 0)), (3, .int x3), (4, .int x4)] [] (wV cI cZ cO a u)) (fun k36 hk36 u x3 x4 h9 => s_X8_comes_36_b F   k36 hk36 u x3 x4 h9) n u x3 x4 hf
set_option maxRecDepth 100000 in
set_option maxHeartbeats 4000000 in
theorem ct_X8_comes (l : Launch) (D : va_G) (cI cZ cO : ClassId) (a : Nat → Nat) {u : VS} {x1 : Int32} {x2 : Int32} {o : VS} (hf : f_X8_comes u x1 x2 = some o) : Ct l yX8_comes (uw (Cond.code yX8_comes cX8_comes 5 none)) rmX8_comes D (tyL cI cZ cO) E0 [.ref (a 0), .int x1, .int x2] (wV cI cZ cO a u) none (wV cI cZ cO a o) := by
  refine sm_start (cc := cX8_comes) (maxL := 5) (ret := none) (own := RX8) (by decide) rfl rfl (Nat.le_of_ble_eq_true rfl) (lv := [(0, .ref (a 0)), (1, .int x1), (2, .int x2)]) rfl ?_
  intro p e s m below meth c A F hE hA
  unfold f_X8_comes at hf
  refine sm_aload_n F dX8_comes_0 rfl 0 rfl ?_
  refine sm_get (v := .int (gV_people u)) F inX8 0 rfl rfl 6 (by decide) qw1_94 rfl rfl dX8_comes_1 ?_
  refine sm_istore_n F [(0, .ref (a 0)), (1, .int x1), (2, .int x2), (3, .int (gV_people u))] [1, 2, 3, 0] dX8_comes_4 rfl (by decide) rfl ?_
  refine sm_aload_n F dX8_comes_5 rfl 0 rfl ?_
  refine sm_get (v := .ref (a 1)) F inX8 0 rfl rfl 1 (by decide) qw1_79 rfl rfl dX8_comes_6 ?_
  refine sm_iload_n F dX8_comes_9 rfl 3 rfl ?_
  refine sm_iload_n F dX8_comes_10 rfl 1 rfl ?_
  obtain ⟨h11, hf⟩ := ck_some hf
  refine sm_iast F 1 0 rfl rfl h11 (wV cI cZ cO a (sV_kind u (upd (gV_kind u) (Int32.toNatClampNeg (gV_people u)) x1))) rfl dX8_comes_11 ?_
  refine sm_aload_n F dX8_comes_12 rfl 0 rfl ?_
  refine sm_get (v := .ref (a 2)) F inX8 0 rfl rfl 2 (by decide) qw1_82 rfl rfl dX8_comes_13 ?_
  refine sm_iload_n F dX8_comes_16 rfl 3 rfl ?_
  refine sm_iload_n F dX8_comes_17 rfl 2 rfl ?_
  obtain ⟨h18, hf⟩ := ck_some hf
  refine sm_iast F 2 0 rfl rfl h18 (wV cI cZ cO a (sV_fig (sV_kind u (upd (gV_kind u) (Int32.toNatClampNeg (gV_people u)) x1)) (upd (gV_fig (sV_kind u (upd (gV_kind u) (Int32.toNatClampNeg (gV_people u)) x1))) (Int32.toNatClampNeg (gV_people u)) x2))) rfl dX8_comes_18 ?_
  obtain ⟨u18, hu18, hf⟩ := bd_some hf
  refine sm_ws (ws' := (wV cI cZ cO a u18)) (congrArg (fun z => (wV cI cZ cO a z)) (Option.some.inj hu18)) ?_
  refine sm_aload_n F dX8_comes_19 rfl 0 rfl ?_
  refine sm_get (v := .ref (a 3)) F inX8 0 rfl rfl 3 (by decide) qw1_85 rfl rfl dX8_comes_20 ?_
  refine sm_iload_n F dX8_comes_23 rfl 3 rfl ?_
  refine sm_iconst F dX8_comes_24 kc_i_0 ?_
  obtain ⟨h25, hf⟩ := ck_some hf
  refine sm_iast F 3 0 rfl rfl h25 (wV cI cZ cO a (sV_owed u18 (upd (gV_owed u18) (Int32.toNatClampNeg (gV_people u)) (0 : Int32)))) rfl dX8_comes_25 ?_
  refine sm_aload_n F dX8_comes_26 rfl 0 rfl ?_
  refine sm_get (v := .ref (a 4)) F inX8 0 rfl rfl 4 (by decide) qw1_89 rfl rfl dX8_comes_27 ?_
  refine sm_iload_n F dX8_comes_30 rfl 3 rfl ?_
  refine sm_iconst F dX8_comes_31 kc_i_1 ?_
  obtain ⟨h32, hf⟩ := ck_some hf
  refine sm_zast F 4 1 rfl rfl h32 (wV cI cZ cO a (sV_here (sV_owed u18 (upd (gV_owed u18) (Int32.toNatClampNeg (gV_people u)) (0 : Int32))) (upd (gV_here (sV_owed u18 (upd (gV_owed u18) (Int32.toNatClampNeg (gV_people u)) (0 : Int32)))) (Int32.toNatClampNeg (gV_people u)) (vp_nar .boolean (1 : Int32))))) rfl dX8_comes_32 ?_
  obtain ⟨u32, hu32, hf⟩ := bd_some hf
  refine sm_ws (ws' := (wV cI cZ cO a u32)) (congrArg (fun z => (wV cI cZ cO a z)) (Option.some.inj hu32)) ?_
  refine sm_iconst F dX8_comes_33 kc_i_0 ?_
  refine sm_istore F [(0, .ref (a 0)), (3, .int (gV_people u)), (4, .int (0 : Int32))] [1, 4, 0] dX8_comes_34 (by decide) rfl ?_
  exact s_X8_comes_36 F  smN u32 (gV_people u) (0 : Int32) hf
/-! SoManyForgotten$Valley.areTwo(II)Z -/
abbrev rmX8_areTwo : Room := { frames := 1, cells := 0, slots := 0, locals := 21 }
set_option maxRecDepth 100000 in
theorem hvX8_areTwo : yX8_areTwo.cls = RX8 ∧ yX8_areTwo.cls ≠ "java/lang/invoke/MethodHandle" ∧ yX8_areTwo.cls ≠ "java/lang/invoke/VarHandle" ∧ (parseMethodDescriptor yX8_areTwo.desc).map (fun d => d.parameters.length) = some 2 := by decide +kernel
set_option maxRecDepth 100000 in
set_option maxHeartbeats 4000000 in
theorem ct_X8_areTwo (l : Launch) (D : va_G) (cI cZ cO : ClassId) (a : Nat → Nat) {u : VS} {x1 : Int32} {x2 : Int32} {r : Int32} (hf : f_X8_areTwo u x1 x2 = some r) : Ct l yX8_areTwo (uw (Cond.code yX8_areTwo cX8_areTwo 3 (some .boolean))) rmX8_areTwo D (tyL cI cZ cO) E0 [.ref (a 0), .int x1, .int x2] (wV cI cZ cO a u) (some (.int r)) (wV cI cZ cO a u) := by
  refine sm_start (cc := cX8_areTwo) (maxL := 3) (ret := (some .boolean)) (own := RX8) (by decide) rfl rfl (Nat.le_of_ble_eq_true rfl) (lv := [(0, .ref (a 0)), (1, .int x1), (2, .int x2)]) rfl ?_
  intro p e s m below meth c A F hE hA
  unfold f_X8_areTwo at hf
  refine sm_aload_n F dX8_areTwo_0 rfl 0 rfl ?_
  refine sm_iload_n F dX8_areTwo_1 rfl 1 rfl ?_
  obtain ⟨z2, hz2, hf⟩ := bd_some hf
  refine sm_callV (rest := []) F (ct_X8_has l D cI cZ cO a hz2) (cut_V_id cI cZ cO a u u) rfl rfl rfl qw2_176 qw2_177 qw2_178 qw1_8 qw2_179 hvX8_has ⟨Nat.le_of_ble_eq_true rfl, Nat.le_of_ble_eq_true rfl⟩ ⟨Nat.zero_le _, Nat.zero_le _⟩ 0 8 rfl rfl rfl rfl (Nat.le_of_ble_eq_true rfl) E0_b (fun _ _ _ _ _ _ => trivial) rfl dX8_areTwo_2 [.int z2] rfl ?_
  refine sm_if_eq (tgt := 25) F dX8_areTwo_5 (by decide) (fun c5 => ?_) (fun c5 => ?_)
  · replace hf := if_t c5 hf
    refine sm_iconst F dX8_areTwo_25 kc_i_0 ?_
    exact sm_zret F dX8_areTwo_26 rfl (Option.some.inj hf) rfl
  · replace hf := if_f c5 hf
    refine sm_aload_n F dX8_areTwo_8 rfl 0 rfl ?_
    refine sm_iload_n F dX8_areTwo_9 rfl 2 rfl ?_
    obtain ⟨z10, hz10, hf⟩ := bd_some hf
    refine sm_callV (rest := []) F (ct_X8_has l D cI cZ cO a hz10) (cut_V_id cI cZ cO a u u) rfl rfl rfl qw2_176 qw2_177 qw2_178 qw1_8 qw2_179 hvX8_has ⟨Nat.le_of_ble_eq_true rfl, Nat.le_of_ble_eq_true rfl⟩ ⟨Nat.zero_le _, Nat.zero_le _⟩ 0 8 rfl rfl rfl rfl (Nat.le_of_ble_eq_true rfl) E0_b (fun _ _ _ _ _ _ => trivial) rfl dX8_areTwo_10 [.int z10] rfl ?_
    refine sm_if_eq (tgt := 25) F dX8_areTwo_13 (by decide) (fun c13 => ?_) (fun c13 => ?_)
    · replace hf := if_t c13 hf
      refine sm_iconst F dX8_areTwo_25 kc_i_0 ?_
      exact sm_zret F dX8_areTwo_26 rfl (Option.some.inj hf) rfl
    · replace hf := if_f c13 hf
      refine sm_iload_n F dX8_areTwo_16 rfl 1 rfl ?_
      refine sm_iload_n F dX8_areTwo_17 rfl 2 rfl ?_
      refine sm_icmp_eq (tgt := 25) F dX8_areTwo_18 (by decide) (fun c18 => ?_) (fun c18 => ?_)
      · replace hf := if_t c18 hf
        refine sm_iconst F dX8_areTwo_25 kc_i_0 ?_
        exact sm_zret F dX8_areTwo_26 rfl (Option.some.inj hf) rfl
      · replace hf := if_f c18 hf
        refine sm_iconst F dX8_areTwo_21 kc_i_1 ?_
        refine sm_goto (tgt := 26) F dX8_areTwo_22 (by decide) ?_
        exact sm_zret F dX8_areTwo_26 rfl (Option.some.inj hf) rfl
/-! SoManyForgotten$Valley.mayBeNamed(I)Z -/
abbrev rmX8_mayBeNamed : Room := { frames := 1, cells := 0, slots := 0, locals := 21 }
set_option maxRecDepth 100000 in
theorem hvX8_mayBeNamed : yX8_mayBeNamed.cls = RX8 ∧ yX8_mayBeNamed.cls ≠ "java/lang/invoke/MethodHandle" ∧ yX8_mayBeNamed.cls ≠ "java/lang/invoke/VarHandle" ∧ (parseMethodDescriptor yX8_mayBeNamed.desc).map (fun d => d.parameters.length) = some 1 := by decide +kernel
set_option maxRecDepth 100000 in
set_option maxHeartbeats 4000000 in
theorem s_X8_mayBeNamed_20 {p : Program} {l : Launch} {e : Env} {s : State} {m : MethodId} {args : Array Value} {below : List Frame} {meth : Method} {c : Code} {A : Nat → Prop} {D : va_G} {cI cZ cO : ClassId} {a : Nat → Nat} {r : Int32} (F : smF p s m args meth c cX8_mayBeNamed 2 (some .boolean) RX8 D (tyL cI cZ cO) A) (u : VS)  (y0 : Int32) (hf : f_X8_mayBeNamed_20 u   y0 = some r) : Sm p l e rmX8_mayBeNamed s m args below meth c D A 2 0 0 (smQ below args s D A (some (.int r)) (wV cI cZ cO a u)) 20 [(0, .ref (a 0))] [.int y0] (wV cI cZ cO a u) := by
  unfold f_X8_mayBeNamed_20 at hf
  obtain ⟨h20, hf⟩ := zr_some hf
  exact sm_zret F dX8_mayBeNamed_20 h20 (Option.some.inj hf) rfl
set_option maxRecDepth 100000 in
set_option maxHeartbeats 4000000 in
theorem ct_X8_mayBeNamed (l : Launch) (D : va_G) (cI cZ cO : ClassId) (a : Nat → Nat) {u : VS} {x1 : Int32} {r : Int32} (hf : f_X8_mayBeNamed u x1 = some r) : Ct l yX8_mayBeNamed (uw (Cond.code yX8_mayBeNamed cX8_mayBeNamed 2 (some .boolean))) rmX8_mayBeNamed D (tyL cI cZ cO) E0 [.ref (a 0), .int x1] (wV cI cZ cO a u) (some (.int r)) (wV cI cZ cO a u) := by
  refine sm_start (cc := cX8_mayBeNamed) (maxL := 2) (ret := (some .boolean)) (own := RX8) (by decide) rfl rfl (Nat.le_of_ble_eq_true rfl) (lv := [(0, .ref (a 0)), (1, .int x1)]) rfl ?_
  intro p e s m below meth c A F hE hA
  unfold f_X8_mayBeNamed at hf
  refine sm_aload_n F dX8_mayBeNamed_0 rfl 0 rfl ?_
  refine sm_get (v := .ref (a 6)) F inX8 0 rfl rfl 0 (by decide) qw1_78 rfl rfl dX8_mayBeNamed_1 ?_
  refine sm_aload_n F dX8_mayBeNamed_4 rfl 0 rfl ?_
  refine sm_get (v := .ref (a 1)) F inX8 0 rfl rfl 1 (by decide) qw1_79 rfl rfl dX8_mayBeNamed_5 ?_
  refine sm_iload_n F dX8_mayBeNamed_8 rfl 1 rfl ?_
  obtain ⟨h9, hf⟩ := ck_some hf
  refine sm_iald F 1 0 rfl rfl h9 dX8_mayBeNamed_9 ?_
  obtain ⟨h10, hf⟩ := ck_some hf
  refine sm_aald (f := fun j => some (kd6 (a 7) (a 8) (a 9) (a 10) (a 11) (a 12) j)) F 6 2 rfl rfl h10 rfl dX8_mayBeNamed_10 ?_
  refine sm_aload_n F dX8_mayBeNamed_11 rfl 0 rfl ?_
  refine sm_get (v := .ref (a 2)) F inX8 0 rfl rfl 2 (by decide) qw1_82 rfl rfl dX8_mayBeNamed_12 ?_
  refine sm_iload_n F dX8_mayBeNamed_15 rfl 1 rfl ?_
  obtain ⟨h16, hf⟩ := ck_some hf
  refine sm_iald F 2 0 rfl rfl h16 dX8_mayBeNamed_16 ?_
  obtain ⟨z17, hz17, hf⟩ := bd_some hf
  rcases kd_isNamed hz17 with ⟨e17, hz17⟩ | ⟨e17, hz17⟩ | ⟨e17, hz17⟩ | ⟨e17, hz17⟩ | ⟨e17, hz17⟩ | ⟨e17, hz17⟩
  · rw [show Int32.toNatClampNeg ((gV_kind u) (Int32.toNatClampNeg x1)) = 0 by rw [e17]; rfl]
    refine sm_callV (rest := []) F (ct_X4_isNamed (ci := 4) l D (tyL cI cZ cO) (fun i => a (7 + i)) rfl hz17) (cut_V_p0 cI cZ cO a u) rfl rfl rfl qw3_21 qw3_22 qw3_23 qw1_2 qw3_34 hvX4_isNamed ⟨Nat.le_of_ble_eq_true rfl, Nat.le_of_ble_eq_true rfl⟩ ⟨Nat.zero_le _, Nat.zero_le _⟩ 0 4 rfl rfl rfl rfl (Nat.le_of_ble_eq_true rfl) E0_b (fun _ _ _ _ _ _ => trivial) rfl dX8_mayBeNamed_17 [.int z17] rfl ?_
    refine sm_sub (lv' := [(0, .ref (a 0))]) [0] rfl ?_
    exact s_X8_mayBeNamed_20 F u z17 hf
  · rw [show Int32.toNatClampNeg ((gV_kind u) (Int32.toNatClampNeg x1)) = 1 by rw [e17]; rfl]
    refine sm_callU (rest := []) F (ct_X4_isNamed (ci := 0) l D (tyL cI cZ cO) (fun i => a (8 + i)) rfl hz17) (cut_V_p1 cI cZ cO a u) rfl rfl rfl qw3_21p qw3_24p qw3_25p qw3_22 qw1_2 qw3_34 rfl hk_isNamed ⟨Nat.le_of_ble_eq_true rfl, Nat.le_of_ble_eq_true rfl⟩ ⟨Nat.zero_le _, Nat.zero_le _⟩ 0 0 rfl rfl rfl rfl (Nat.le_of_ble_eq_true rfl) E0_b (fun _ _ _ _ _ _ => trivial) rfl dX8_mayBeNamed_17 [.int z17] rfl ?_
    refine sm_sub (lv' := [(0, .ref (a 0))]) [0] rfl ?_
    exact s_X8_mayBeNamed_20 F u z17 hf
  · rw [show Int32.toNatClampNeg ((gV_kind u) (Int32.toNatClampNeg x1)) = 2 by rw [e17]; rfl]
    refine sm_callU (rest := []) F (ct_X4_isNamed (ci := 2) l D (tyL cI cZ cO) (fun i => a (9 + i)) rfl hz17) (cut_V_p2 cI cZ cO a u) rfl rfl rfl qw3_21p qw3_24p qw3_29p qw3_22 qw1_2 qw3_34 rfl hk_isNamed ⟨Nat.le_of_ble_eq_true rfl, Nat.le_of_ble_eq_true rfl⟩ ⟨Nat.zero_le _, Nat.zero_le _⟩ 0 2 rfl rfl rfl rfl (Nat.le_of_ble_eq_true rfl) E0_b (fun _ _ _ _ _ _ => trivial) rfl dX8_mayBeNamed_17 [.int z17] rfl ?_
    refine sm_sub (lv' := [(0, .ref (a 0))]) [0] rfl ?_
    exact s_X8_mayBeNamed_20 F u z17 hf
  · rw [show Int32.toNatClampNeg ((gV_kind u) (Int32.toNatClampNeg x1)) = 3 by rw [e17]; rfl]
    refine sm_callU (rest := []) F (ct_X4_isNamed (ci := 5) l D (tyL cI cZ cO) (fun i => a (10 + i)) rfl hz17) (cut_V_p3 cI cZ cO a u) rfl rfl rfl qw3_21p qw3_24p qw3_30p qw3_22 qw1_2 qw3_34 rfl hk_isNamed ⟨Nat.le_of_ble_eq_true rfl, Nat.le_of_ble_eq_true rfl⟩ ⟨Nat.zero_le _, Nat.zero_le _⟩ 0 5 rfl rfl rfl rfl (Nat.le_of_ble_eq_true rfl) E0_b (fun _ _ _ _ _ _ => trivial) rfl dX8_mayBeNamed_17 [.int z17] rfl ?_
    refine sm_sub (lv' := [(0, .ref (a 0))]) [0] rfl ?_
    exact s_X8_mayBeNamed_20 F u z17 hf
  · rw [show Int32.toNatClampNeg ((gV_kind u) (Int32.toNatClampNeg x1)) = 4 by rw [e17]; rfl]
    refine sm_callO (rest := []) F (ct_X1_isNamed (ci := 1) l D (tyL cI cZ cO) (fun i => a (11 + i)) rfl hz17) (cut_V_p4 cI cZ cO a u) rfl rfl rfl qw3_21p qw3_24p qw3_22p qw3_26p qw3_27 qw1_6 qw3_28 qw3_34 hk_isNamed ⟨Nat.le_of_ble_eq_true rfl, Nat.le_of_ble_eq_true rfl⟩ ⟨Nat.zero_le _, Nat.zero_le _⟩ 0 1 rfl rfl rfl rfl (Nat.le_of_ble_eq_true rfl) E0_b (fun _ _ _ _ _ _ => trivial) rfl dX8_mayBeNamed_17 [.int z17] rfl ?_
    refine sm_sub (lv' := [(0, .ref (a 0))]) [0] rfl ?_
    exact s_X8_mayBeNamed_20 F u z17 hf
  · rw [show Int32.toNatClampNeg ((gV_kind u) (Int32.toNatClampNeg x1)) = 5 by rw [e17]; rfl]
    refine sm_callO (rest := []) F (ct_X9_isNamed (ci := 9) l D (tyL cI cZ cO) (fun i => a (12 + i)) rfl hz17) (cut_V_p5 cI cZ cO a u) rfl rfl rfl qw3_21p qw3_24p qw3_22p qw3_31p qw3_32 qw1_7 qw3_33 qw3_34 hk_isNamed ⟨Nat.le_of_ble_eq_true rfl, Nat.le_of_ble_eq_true rfl⟩ ⟨Nat.zero_le _, Nat.zero_le _⟩ 0 9 rfl rfl rfl rfl (Nat.le_of_ble_eq_true rfl) E0_b (fun _ _ _ _ _ _ => trivial) rfl dX8_mayBeNamed_17 [.int z17] rfl ?_
    refine sm_sub (lv' := [(0, .ref (a 0))]) [0] rfl ?_
    exact s_X8_mayBeNamed_20 F u z17 hf
/-! SoManyForgotten$Valley.bestKnown()I -/
abbrev rmX8_bestKnown : Room := { frames := 1, cells := 0, slots := 0, locals := 23 }
set_option maxRecDepth 100000 in
theorem hvX8_bestKnown : yX8_bestKnown.cls = RX8 ∧ yX8_bestKnown.cls ≠ "java/lang/invoke/MethodHandle" ∧ yX8_bestKnown.cls ≠ "java/lang/invoke/VarHandle" ∧ (parseMethodDescriptor yX8_bestKnown.desc).map (fun d => d.parameters.length) = some 0 := by decide +kernel
set_option maxRecDepth 100000 in
set_option maxHeartbeats 4000000 in
theorem s_X8_bestKnown_7_b {p : Program} {l : Launch} {e : Env} {s : State} {m : MethodId} {args : Array Value} {below : List Frame} {meth : Method} {c : Code} {A : Nat → Prop} {D : va_G} {cI cZ cO : ClassId} {a : Nat → Nat} {r : Int32} (F : smF p s m args meth c cX8_bestKnown 4 (some .int) RX8 D (tyL cI cZ cO) A) (u : VS) (k7 : Int32 → Int32 → Int32 → Option Int32) (hk7 : ∀ (x1' : Int32) (x2' : Int32) (x3' : Int32), k7 x1' x2' x3' = some r → Sm p l e rmX8_bestKnown s m args below meth c D A 4 0 0 (smQ below args s D A (some (.int r)) (wV cI cZ cO a u)) 7 [(0, .ref (a 0)), (1, .int x1'), (2, .int x2'), (3, .int x3')] [] (wV cI cZ cO a u)) (x1 : Int32) (x2 : Int32) (x3 : Int32) (hf : b_X8_bestKnown_7 u  k7 x1 x2 x3 = some r) : Sm p l e rmX8_bestKnown s m args below meth c D A 4 0 0 (smQ below args s D A (some (.int r)) (wV cI cZ cO a u)) 7 [(0, .ref (a 0)), (1, .int x1), (2, .int x2), (3, .int x3)] [] (wV cI cZ cO a u) := by
  unfold b_X8_bestKnown_7 at hf
  refine sm_iload_n F dX8_bestKnown_7 rfl 3 rfl ?_
  refine sm_aload_n F dX8_bestKnown_8 rfl 0 rfl ?_
  refine sm_get (v := .int (gV_people u)) F inX8 0 rfl rfl 6 (by decide) qw1_94 rfl rfl dX8_bestKnown_9 ?_
  refine sm_icmp_ge (tgt := 47) F dX8_bestKnown_12 (by decide) (fun c12 => ?_) (fun c12 => ?_)
  · replace hf := if_t c12 hf
    refine sm_iload_n F dX8_bestKnown_47 rfl 1 rfl ?_
    exact sm_iret F dX8_bestKnown_48 (Option.some.inj hf) rfl
  · replace hf := if_f c12 hf
    refine sm_aload_n F dX8_bestKnown_15 rfl 0 rfl ?_
    refine sm_get (v := .ref (a 4)) F inX8 0 rfl rfl 4 (by decide) qw1_89 rfl rfl dX8_bestKnown_16 ?_
    refine sm_iload_n F dX8_bestKnown_19 rfl 3 rfl ?_
    obtain ⟨h20, hf⟩ := ck_some hf
    refine sm_zald F 4 1 rfl rfl h20 dX8_bestKnown_20 ?_
    refine sm_if_eq (tgt := 41) F dX8_bestKnown_21 (by decide) (fun c21 => ?_) (fun c21 => ?_)
    · replace hf := if_t c21 hf
      refine sm_iinc F [(0, .ref (a 0)), (1, .int x1), (2, .int x2), (3, .int (x3 + 1))] 3 [1, 2, 3, 0] dX8_bestKnown_41 rfl kc_i_1 (by decide) rfl ?_
      refine sm_goto (tgt := 7) F dX8_bestKnown_44 (by decide) ?_
      exact hk7 x1 x2 (x3 + 1) hf
    · replace hf := if_f c21 hf
      refine sm_aload_n F dX8_bestKnown_24 rfl 0 rfl ?_
      refine sm_iload_n F dX8_bestKnown_25 rfl 3 rfl ?_
      obtain ⟨z26, hz26, hf⟩ := bd_some hf
      refine sm_callV (rest := []) F (ct_X8_knownOf l D cI cZ cO a hz26) (cut_V_id cI cZ cO a u u) rfl rfl rfl qw3_35 qw3_36 qw3_37 qw1_8 qw3_38 hvX8_knownOf ⟨Nat.le_of_ble_eq_true rfl, Nat.le_of_ble_eq_true rfl⟩ ⟨Nat.zero_le _, Nat.zero_le _⟩ 0 8 rfl rfl rfl rfl (Nat.le_of_ble_eq_true rfl) E0_b (fun _ _ _ _ _ _ => trivial) rfl dX8_bestKnown_26 [.int z26] rfl ?_
      refine sm_iload_n F dX8_bestKnown_29 rfl 2 rfl ?_
      refine sm_icmp_le (tgt := 41) F dX8_bestKnown_30 (by decide) (fun c30 => ?_) (fun c30 => ?_)
      · replace hf := if_t c30 hf
        refine sm_iinc F [(0, .ref (a 0)), (1, .int x1), (2, .int x2), (3, .int (x3 + 1))] 3 [1, 2, 3, 0] dX8_bestKnown_41 rfl kc_i_1 (by decide) rfl ?_
        refine sm_goto (tgt := 7) F dX8_bestKnown_44 (by decide) ?_
        exact hk7 x1 x2 (x3 + 1) hf
      · replace hf := if_f c30 hf
        refine sm_iload_n F dX8_bestKnown_33 rfl 3 rfl ?_
        refine sm_istore_n F [(0, .ref (a 0)), (1, .int x3), (3, .int x3)] [1, 0, 3] dX8_bestKnown_34 rfl (by decide) rfl ?_
        refine sm_aload_n F dX8_bestKnown_35 rfl 0 rfl ?_
        refine sm_iload_n F dX8_bestKnown_36 rfl 2 rfl ?_
        obtain ⟨z37, hz37, hf⟩ := bd_some hf
        refine sm_callV (rest := []) F (ct_X8_knownOf l D cI cZ cO a hz37) (cut_V_id cI cZ cO a u u) rfl rfl rfl qw3_35 qw3_36 qw3_37 qw1_8 qw3_38 hvX8_knownOf ⟨Nat.le_of_ble_eq_true rfl, Nat.le_of_ble_eq_true rfl⟩ ⟨Nat.zero_le _, Nat.zero_le _⟩ 0 8 rfl rfl rfl rfl (Nat.le_of_ble_eq_true rfl) E0_b (fun _ _ _ _ _ _ => trivial) rfl dX8_bestKnown_37 [.int z37] rfl ?_
        refine sm_istore_n F [(0, .ref (a 0)), (1, .int x3), (2, .int z37), (3, .int x3)] [1, 2, 0, 3] dX8_bestKnown_40 rfl (by decide) rfl ?_
        refine sm_iinc F [(0, .ref (a 0)), (1, .int x3), (2, .int z37), (3, .int (x3 + 1))] 3 [1, 2, 3, 0] dX8_bestKnown_41 rfl kc_i_1 (by decide) rfl ?_
        refine sm_goto (tgt := 7) F dX8_bestKnown_44 (by decide) ?_
        exact hk7 x3 z37 (x3 + 1) hf
set_option maxRecDepth 100000 in
set_option maxHeartbeats 4000000 in
theorem s_X8_bestKnown_7 {p : Program} {l : Launch} {e : Env} {s : State} {m : MethodId} {args : Array Value} {below : List Frame} {meth : Method} {c : Code} {A : Nat → Prop} {D : va_G} {cI cZ cO : ClassId} {a : Nat → Nat} {r : Int32} (F : smF p s m args meth c cX8_bestKnown 4 (some .int) RX8 D (tyL cI cZ cO) A) (u : VS)  (n : Nat) (x1 : Int32) (x2 : Int32) (x3 : Int32) (hf : f_X8_bestKnown_7 u  n x1 x2 x3 = some r) : Sm p l e rmX8_bestKnown s m args below meth c D A 4 0 0 (smQ below args s D A (some (.int r)) (wV cI cZ cO a u)) 7 [(0, .ref (a 0)), (1, .int x1), (2, .int x2), (3, .int x3)] [] (wV cI cZ cO a u) :=
  lq3_ind (P := fun (x1 : Int32) (x2 : Int32) (x3 : Int32) => Sm p l e rmX8_bestKnown s m args below meth c D A 4 0 0 (smQ below args s D A (some (.int r)) (wV cI cZ cO a u)) 7 [(0, .ref (a 0)), (1, .int x1), (2, .int x2), (3, .int x3)] [] (wV cI cZ cO a u)) (fun k7 hk7 x1 x2 x3 h9 => s_X8_bestKnown_7_b F u  k7 hk7 x1 x2 x3 h9) n x1 x2 x3 hf
set_option maxRecDepth 100000 in
set_option maxHeartbeats 4000000 in
theorem ct_X8_bestKnown (l : Launch) (D : va_G) (cI cZ cO : ClassId) (a : Nat → Nat) {u : VS} {r : Int32} (hf : f_X8_bestKnown u = some r) : Ct l yX8_bestKnown (uw (Cond.code yX8_bestKnown cX8_bestKnown 4 (some .int))) rmX8_bestKnown D (tyL cI cZ cO) E0 [.ref (a 0)] (wV cI cZ cO a u) (some (.int r)) (wV cI cZ cO a u) := by
  refine sm_start (cc := cX8_bestKnown) (maxL := 4) (ret := (some .int)) (own := RX8) (by decide) rfl rfl (Nat.le_of_ble_eq_true rfl) (lv := [(0, .ref (a 0))]) rfl ?_
  intro p e s m below meth c A F hE hA
  unfold f_X8_bestKnown at hf
  refine sm_bipush F dX8_bestKnown_0 kc_b_m9 ?_
  refine sm_istore_n F [(0, .ref (a 0)), (1, .int ((-9) : Int32))] [1, 0] dX8_bestKnown_2 rfl (by decide) rfl ?_
  refine sm_iconst F dX8_bestKnown_3 kc_i_m1 ?_
  refine sm_istore_n F [(0, .ref (a 0)), (1, .int ((-9) : Int32)), (2, .int ((-1) : Int32))] [1, 2, 0] dX8_bestKnown_4 rfl (by decide) rfl ?_
  refine sm_iconst F dX8_bestKnown_5 kc_i_0 ?_
  refine sm_istore_n F [(0, .ref (a 0)), (1, .int ((-9) : Int32)), (2, .int ((-1) : Int32)), (3, .int (0 : Int32))] [1, 2, 3, 0] dX8_bestKnown_6 rfl (by decide) rfl ?_
  exact s_X8_bestKnown_7 F u smN ((-9) : Int32) ((-1) : Int32) (0 : Int32) hf
/-! SoManyForgotten$Valley.forgottenBits()I -/
abbrev rmX8_forgottenBits : Room := { frames := 1, cells := 0, slots := 0, locals := 22 }
set_option maxRecDepth 100000 in
theorem hvX8_forgottenBits : yX8_forgottenBits.cls = RX8 ∧ yX8_forgottenBits.cls ≠ "java/lang/invoke/MethodHandle" ∧ yX8_forgottenBits.cls ≠ "java/lang/invoke/VarHandle" ∧ (parseMethodDescriptor yX8_forgottenBits.desc).map (fun d => d.parameters.length) = some 0 := by decide +kernel
set_option maxRecDepth 100000 in
set_option maxHeartbeats 4000000 in
theorem ct_X8_forgottenBits (l : Launch) (D : va_G) (cI cZ cO : ClassId) (a : Nat → Nat) {u : VS} {r : Int32} (hf : f_X8_forgottenBits u = some r) : Ct l yX8_forgottenBits (uw (Cond.code yX8_forgottenBits cX8_forgottenBits 1 (some .int))) rmX8_forgottenBits D (tyL cI cZ cO) E0 [.ref (a 0)] (wV cI cZ cO a u) (some (.int r)) (wV cI cZ cO a u) := by
  refine sm_start (cc := cX8_forgottenBits) (maxL := 1) (ret := (some .int)) (own := RX8) (by decide) rfl rfl (Nat.le_of_ble_eq_true rfl) (lv := [(0, .ref (a 0))]) rfl ?_
  intro p e s m below meth c A F hE hA
  unfold f_X8_forgottenBits at hf
  refine sm_iconst F dX8_forgottenBits_0 kc_i_1 ?_
  refine sm_aload_n F dX8_forgottenBits_1 rfl 0 rfl ?_
  refine sm_get (v := .int (gV_people u)) F inX8 0 rfl rfl 6 (by decide) qw1_94 rfl rfl dX8_forgottenBits_2 ?_
  refine sm_ishl F dX8_forgottenBits_5 ?_
  refine sm_iconst F dX8_forgottenBits_6 kc_i_1 ?_
  refine sm_isub F dX8_forgottenBits_7 ?_
  refine sm_aload_n F dX8_forgottenBits_8 rfl 0 rfl ?_
  obtain ⟨z9, hz9, hf⟩ := bd_some hf
  refine sm_callV (rest := [.int (((1 : Int32) <<< ((gV_people u) &&& 31)) - (1 : Int32))]) F (ct_X8_hereBits l D cI cZ cO a hz9) (cut_V_id cI cZ cO a u u) rfl rfl rfl qw3_114 qw3_115 qw3_116 qw1_8 qw3_117 hvX8_hereBits ⟨Nat.le_of_ble_eq_true rfl, Nat.le_of_ble_eq_true rfl⟩ ⟨Nat.zero_le _, Nat.zero_le _⟩ 0 8 rfl rfl rfl rfl (Nat.le_of_ble_eq_true rfl) E0_b (fun _ _ _ _ _ _ => trivial) rfl dX8_forgottenBits_9 [.int z9, .int (((1 : Int32) <<< ((gV_people u) &&& 31)) - (1 : Int32))] rfl ?_
  refine sm_iconst F dX8_forgottenBits_12 kc_i_m1 ?_
  refine sm_ixor F dX8_forgottenBits_13 ?_
  refine sm_iand F dX8_forgottenBits_14 ?_
  exact sm_iret F dX8_forgottenBits_15 (Option.some.inj hf) rfl
/-! SoManyForgotten$Valley.owedTogether()I -/
abbrev rmX8_owedTogether : Room := { frames := 0, cells := 0, slots := 0, locals := 0 }
set_option maxRecDepth 100000 in
theorem hvX8_owedTogether : yX8_owedTogether.cls = RX8 ∧ yX8_owedTogether.cls ≠ "java/lang/invoke/MethodHandle" ∧ yX8_owedTogether.cls ≠ "java/lang/invoke/VarHandle" ∧ (parseMethodDescriptor yX8_owedTogether.desc).map (fun d => d.parameters.length) = some 0 := by decide +kernel
set_option maxRecDepth 100000 in
set_option maxHeartbeats 4000000 in
theorem s_X8_owedTogether_4_b {p : Program} {l : Launch} {e : Env} {s : State} {m : MethodId} {args : Array Value} {below : List Frame} {meth : Method} {c : Code} {A : Nat → Prop} {D : va_G} {cI cZ cO : ClassId} {a : Nat → Nat} {r : Int32} (F : smF p s m args meth c cX8_owedTogether 3 (some .int) RX8 D (tyL cI cZ cO) A) (u : VS) (k4 : Int32 → Int32 → Option Int32) (hk4 : ∀ (x1' : Int32) (x2' : Int32), k4 x1' x2' = some r → Sm p l e rmX8_owedTogether s m args below meth c D A 3 0 0 (smQ below args s D A (some (.int r)) (wV cI cZ cO a u)) 4 [(0, .ref (a 0)), (1, .int x1'), (2, .int x2')] [] (wV cI cZ cO a u)) (x1 : Int32) (x2 : Int32) (hf : b_X8_owedTogether_4 u  k4 x1 x2 = some r) : Sm p l e rmX8_owedTogether s m args below meth c D A 3 0 0 (smQ below args s D A (some (.int r)) (wV cI cZ cO a u)) 4 [(0, .ref (a 0)), (1, .int x1), (2, .int x2)] [] (wV cI cZ cO a u) := by
  unfold b_X8_owedTogether_4 at hf
  refine sm_iload_n F dX8_owedTogether_4 rfl 2 rfl ?_
  refine sm_aload_n F dX8_owedTogether_5 rfl 0 rfl ?_
  refine sm_get (v := .int (gV_people u)) F inX8 0 rfl rfl 6 (by decide) qw1_94 rfl rfl dX8_owedTogether_6 ?_
  refine sm_icmp_ge (tgt := 27) F dX8_owedTogether_9 (by decide) (fun c9 => ?_) (fun c9 => ?_)
  · replace hf := if_t c9 hf
    refine sm_iload_n F dX8_owedTogether_27 rfl 1 rfl ?_
    exact sm_iret F dX8_owedTogether_28 (Option.some.inj hf) rfl
  · replace hf := if_f c9 hf
    refine sm_iload_n F dX8_owedTogether_12 rfl 1 rfl ?_
    refine sm_aload_n F dX8_owedTogether_13 rfl 0 rfl ?_
    refine sm_get (v := .ref (a 3)) F inX8 0 rfl rfl 3 (by decide) qw1_85 rfl rfl dX8_owedTogether_14 ?_
    refine sm_iload_n F dX8_owedTogether_17 rfl 2 rfl ?_
    obtain ⟨h18, hf⟩ := ck_some hf
    refine sm_iald F 3 0 rfl rfl h18 dX8_owedTogether_18 ?_
    refine sm_iadd F dX8_owedTogether_19 ?_
    refine sm_istore_n F [(0, .ref (a 0)), (1, .int (x1 + ((gV_owed u) (Int32.toNatClampNeg x2)))), (2, .int x2)] [1, 0, 2] dX8_owedTogether_20 rfl (by decide) rfl ?_
    refine sm_iinc F [(0, .ref (a 0)), (1, .int (x1 + ((gV_owed u) (Int32.toNatClampNeg x2)))), (2, .int (x2 + 1))] 2 [1, 2, 0] dX8_owedTogether_21 rfl kc_i_1 (by decide) rfl ?_
    refine sm_goto (tgt := 4) F dX8_owedTogether_24 (by decide) ?_
    exact hk4 (x1 + ((gV_owed u) (Int32.toNatClampNeg x2))) (x2 + 1) hf
set_option maxRecDepth 100000 in
set_option maxHeartbeats 4000000 in
theorem s_X8_owedTogether_4 {p : Program} {l : Launch} {e : Env} {s : State} {m : MethodId} {args : Array Value} {below : List Frame} {meth : Method} {c : Code} {A : Nat → Prop} {D : va_G} {cI cZ cO : ClassId} {a : Nat → Nat} {r : Int32} (F : smF p s m args meth c cX8_owedTogether 3 (some .int) RX8 D (tyL cI cZ cO) A) (u : VS)  (n : Nat) (x1 : Int32) (x2 : Int32) (hf : f_X8_owedTogether_4 u  n x1 x2 = some r) : Sm p l e rmX8_owedTogether s m args below meth c D A 3 0 0 (smQ below args s D A (some (.int r)) (wV cI cZ cO a u)) 4 [(0, .ref (a 0)), (1, .int x1), (2, .int x2)] [] (wV cI cZ cO a u) :=
  lq2_ind (P := fun (x1 : Int32) (x2 : Int32) => Sm p l e rmX8_owedTogether s m args below meth c D A 3 0 0 (smQ below args s D A (some (.int r)) (wV cI cZ cO a u)) 4 [(0, .ref (a 0)), (1, .int x1), (2, .int x2)] [] (wV cI cZ cO a u)) (fun k4 hk4 x1 x2 h9 => s_X8_owedTogether_4_b F u  k4 hk4 x1 x2 h9) n x1 x2 hf
set_option maxRecDepth 100000 in
set_option maxHeartbeats 4000000 in
theorem ct_X8_owedTogether (l : Launch) (D : va_G) (cI cZ cO : ClassId) (a : Nat → Nat) {u : VS} {r : Int32} (hf : f_X8_owedTogether u = some r) : Ct l yX8_owedTogether (uw (Cond.code yX8_owedTogether cX8_owedTogether 3 (some .int))) rmX8_owedTogether D (tyL cI cZ cO) E0 [.ref (a 0)] (wV cI cZ cO a u) (some (.int r)) (wV cI cZ cO a u) := by
  refine sm_start (cc := cX8_owedTogether) (maxL := 3) (ret := (some .int)) (own := RX8) (by decide) rfl rfl (Nat.le_of_ble_eq_true rfl) (lv := [(0, .ref (a 0))]) rfl ?_
  intro p e s m below meth c A F hE hA
  unfold f_X8_owedTogether at hf
  refine sm_iconst F dX8_owedTogether_0 kc_i_0 ?_
  refine sm_istore_n F [(0, .ref (a 0)), (1, .int (0 : Int32))] [1, 0] dX8_owedTogether_1 rfl (by decide) rfl ?_
  refine sm_iconst F dX8_owedTogether_2 kc_i_0 ?_
  refine sm_istore_n F [(0, .ref (a 0)), (1, .int (0 : Int32)), (2, .int (0 : Int32))] [1, 2, 0] dX8_owedTogether_3 rfl (by decide) rfl ?_
  exact s_X8_owedTogether_4 F u smN (0 : Int32) (0 : Int32) hf
/-! SoManyForgotten$Valley.areCold(II)Z -/
abbrev rmX8_areCold : Room := { frames := 3, cells := 0, slots := 0, locals := 64 }
set_option maxRecDepth 100000 in
theorem hvX8_areCold : yX8_areCold.cls = RX8 ∧ yX8_areCold.cls ≠ "java/lang/invoke/MethodHandle" ∧ yX8_areCold.cls ≠ "java/lang/invoke/VarHandle" ∧ (parseMethodDescriptor yX8_areCold.desc).map (fun d => d.parameters.length) = some 2 := by decide +kernel
set_option maxRecDepth 100000 in
set_option maxHeartbeats 4000000 in
theorem ct_X8_areCold (l : Launch) (D : va_G) (cI cZ cO : ClassId) (a : Nat → Nat) {u : VS} {x1 : Int32} {x2 : Int32} {r : Int32} (hf : f_X8_areCold u x1 x2 = some r) : Ct l yX8_areCold (uw (Cond.code yX8_areCold cX8_areCold 3 (some .boolean))) rmX8_areCold D (tyL cI cZ cO) E0 [.ref (a 0), .int x1, .int x2] (wV cI cZ cO a u) (some (.int r)) (wV cI cZ cO a u) := by
  refine sm_start (cc := cX8_areCold) (maxL := 3) (ret := (some .boolean)) (own := RX8) (by decide) rfl rfl (Nat.le_of_ble_eq_true rfl) (lv := [(0, .ref (a 0)), (1, .int x1), (2, .int x2)]) rfl ?_
  intro p e s m below meth c A F hE hA
  unfold f_X8_areCold at hf
  refine sm_aload_n F dX8_areCold_0 rfl 0 rfl ?_
  refine sm_iload_n F dX8_areCold_1 rfl 1 rfl ?_
  refine sm_iload_n F dX8_areCold_2 rfl 2 rfl ?_
  obtain ⟨z3, hz3, hf⟩ := bd_some hf
  refine sm_callV (rest := []) F (ct_X8_areTwoHere l D cI cZ cO a hz3) (cut_V_id cI cZ cO a u u) rfl rfl rfl qw4_38 qw2_189 qw2_190 qw1_8 qw2_191 hvX8_areTwoHere ⟨Nat.le_of_ble_eq_true rfl, Nat.le_of_ble_eq_true rfl⟩ ⟨Nat.zero_le _, Nat.zero_le _⟩ 0 8 rfl rfl rfl rfl (Nat.le_of_ble_eq_true rfl) E0_b (fun _ _ _ _ _ _ => trivial) rfl dX8_areCold_3 [.int z3] rfl ?_
  refine sm_if_eq (tgt := 31) F dX8_areCold_6 (by decide) (fun c6 => ?_) (fun c6 => ?_)
  · replace hf := if_t c6 hf
    refine sm_iconst F dX8_areCold_31 kc_i_0 ?_
    exact sm_zret F dX8_areCold_32 rfl (Option.some.inj hf) rfl
  · replace hf := if_f c6 hf
    refine sm_aload_n F dX8_areCold_9 rfl 0 rfl ?_
    refine sm_iload_n F dX8_areCold_10 rfl 1 rfl ?_
    refine sm_iload_n F dX8_areCold_11 rfl 2 rfl ?_
    obtain ⟨z12, hz12, hf⟩ := bd_some hf
    refine sm_callV (rest := []) F (ct_X8_memoryOf l D cI cZ cO a hz12) (cut_V_id cI cZ cO a u u) rfl rfl rfl qw4_39 qw3_79 qw3_80 qw1_8 qw3_81 hvX8_memoryOf ⟨Nat.le_of_ble_eq_true rfl, Nat.le_of_ble_eq_true rfl⟩ ⟨Nat.zero_le _, Nat.zero_le _⟩ 0 8 rfl rfl rfl rfl (Nat.le_of_ble_eq_true rfl) E0_b (fun _ _ _ _ _ _ => trivial) rfl dX8_areCold_12 [.int z12] rfl ?_
    refine sm_if_ne (tgt := 31) F dX8_areCold_15 (by decide) (fun c15 => ?_) (fun c15 => ?_)
    · replace hf := if_f c15 hf
      refine sm_iconst F dX8_areCold_31 kc_i_0 ?_
      exact sm_zret F dX8_areCold_32 rfl (Option.some.inj hf) rfl
    · replace hf := if_t c15 hf
      refine sm_aload_n F dX8_areCold_18 rfl 0 rfl ?_
      refine sm_iload_n F dX8_areCold_19 rfl 2 rfl ?_
      refine sm_iload_n F dX8_areCold_20 rfl 1 rfl ?_
      obtain ⟨z21, hz21, hf⟩ := bd_some hf
      refine sm_callV (rest := []) F (ct_X8_memoryOf l D cI cZ cO a hz21) (cut_V_id cI cZ cO a u u) rfl rfl rfl qw4_39 qw3_79 qw3_80 qw1_8 qw3_81 hvX8_memoryOf ⟨Nat.le_of_ble_eq_true rfl, Nat.le_of_ble_eq_true rfl⟩ ⟨Nat.zero_le _, Nat.zero_le _⟩ 0 8 rfl rfl rfl rfl (Nat.le_of_ble_eq_true rfl) E0_b (fun _ _ _ _ _ _ => trivial) rfl dX8_areCold_21 [.int z21] rfl ?_
      refine sm_if_ne (tgt := 31) F dX8_areCold_24 (by decide) (fun c24 => ?_) (fun c24 => ?_)
      · replace hf := if_f c24 hf
        refine sm_iconst F dX8_areCold_31 kc_i_0 ?_
        exact sm_zret F dX8_areCold_32 rfl (Option.some.inj hf) rfl
      · replace hf := if_t c24 hf
        refine sm_iconst F dX8_areCold_27 kc_i_1 ?_
        refine sm_goto (tgt := 32) F dX8_areCold_28 (by decide) ?_
        exact sm_zret F dX8_areCold_32 rfl (Option.some.inj hf) rfl
/-! SoManyForgotten$Valley.countCold()I -/
abbrev rmX8_countCold : Room := { frames := 4, cells := 0, slots := 0, locals := 86 }
set_option maxRecDepth 100000 in
theorem hvX8_countCold : yX8_countCold.cls = RX8 ∧ yX8_countCold.cls ≠ "java/lang/invoke/MethodHandle" ∧ yX8_countCold.cls ≠ "java/lang/invoke/VarHandle" ∧ (parseMethodDescriptor yX8_countCold.desc).map (fun d => d.parameters.length) = some 0 := by decide +kernel
set_option maxRecDepth 100000 in
set_option maxHeartbeats 4000000 in
theorem s_X8_countCold_16_b {p : Program} {l : Launch} {e : Env} {s : State} {m : MethodId} {args : Array Value} {below : List Frame} {meth : Method} {c : Code} {A : Nat → Prop} {D : va_G} {cI cZ cO : ClassId} {a : Nat → Nat} {r : Int32} (F : smF p s m args meth c cX8_countCold 4 (some .int) RX8 D (tyL cI cZ cO) A) (u : VS) (k4 : Int32 → Int32 → Option Int32) (hk4 : ∀ (x1' : Int32) (x2' : Int32), k4 x1' x2' = some r → Sm p l e rmX8_countCold s m args below meth c D A 4 0 0 (smQ below args s D A (some (.int r)) (wV cI cZ cO a u)) 4 [(0, .ref (a 0)), (1, .int x1'), (2, .int x2')] [] (wV cI cZ cO a u)) (k16 : Int32 → Int32 → Int32 → Option Int32) (hk16 : ∀ (x1' : Int32) (x2' : Int32) (x3' : Int32), k16 x1' x2' x3' = some r → Sm p l e rmX8_countCold s m args below meth c D A 4 0 0 (smQ below args s D A (some (.int r)) (wV cI cZ cO a u)) 16 [(0, .ref (a 0)), (1, .int x1'), (2, .int x2'), (3, .int x3')] [] (wV cI cZ cO a u)) (x1 : Int32) (x2 : Int32) (x3 : Int32) (hf : b_X8_countCold_16 u k4 k16 x1 x2 x3 = some r) : Sm p l e rmX8_countCold s m args below meth c D A 4 0 0 (smQ below args s D A (some (.int r)) (wV cI cZ cO a u)) 16 [(0, .ref (a 0)), (1, .int x1), (2, .int x2), (3, .int x3)] [] (wV cI cZ cO a u) := by
  unfold b_X8_countCold_16 at hf
  refine sm_iload_n F dX8_countCold_16 rfl 3 rfl ?_
  refine sm_aload_n F dX8_countCold_17 rfl 0 rfl ?_
  refine sm_get (v := .int (gV_people u)) F inX8 0 rfl rfl 6 (by decide) qw1_94 rfl rfl dX8_countCold_18 ?_
  refine sm_icmp_ge (tgt := 47) F dX8_countCold_21 (by decide) (fun c21 => ?_) (fun c21 => ?_)
  · replace hf := if_t c21 hf
    refine sm_iinc F [(0, .ref (a 0)), (1, .int x1), (2, .int (x2 + 1)), (3, .int x3)] 2 [1, 2, 0, 3] dX8_countCold_47 rfl kc_i_1 (by decide) rfl ?_
    refine sm_goto (tgt := 4) F dX8_countCold_50 (by decide) ?_
    refine sm_sub (lv' := [(0, .ref (a 0)), (1, .int x1), (2, .int (x2 + 1))]) [0, 1, 2] rfl ?_
    exact hk4 x1 (x2 + 1) hf
  · replace hf := if_f c21 hf
    refine sm_iload_n F dX8_countCold_24 rfl 1 rfl ?_
    refine sm_aload_n F dX8_countCold_25 rfl 0 rfl ?_
    refine sm_iload_n F dX8_countCold_26 rfl 2 rfl ?_
    refine sm_iload_n F dX8_countCold_27 rfl 3 rfl ?_
    obtain ⟨z28, hz28, hf⟩ := bd_some hf
    refine sm_callV (rest := [.int x1]) F (ct_X8_areCold l D cI cZ cO a hz28) (cut_V_id cI cZ cO a u u) rfl rfl rfl qw4_63 qw4_65 qw0_22 qw1_8 qw4_66 hvX8_areCold ⟨Nat.le_of_ble_eq_true rfl, Nat.le_of_ble_eq_true rfl⟩ ⟨Nat.zero_le _, Nat.zero_le _⟩ 0 8 rfl rfl rfl rfl (Nat.le_of_ble_eq_true rfl) E0_b (fun _ _ _ _ _ _ => trivial) rfl dX8_countCold_28 [.int z28, .int x1] rfl ?_
    refine sm_if_eq (tgt := 38) F dX8_countCold_31 (by decide) (fun c31 => ?_) (fun c31 => ?_)
    · replace hf := if_t c31 hf
      refine sm_iconst F dX8_countCold_38 kc_i_0 ?_
      refine sm_iadd F dX8_countCold_39 ?_
      refine sm_istore_n F [(0, .ref (a 0)), (1, .int (x1 + (0 : Int32))), (2, .int x2), (3, .int x3)] [1, 0, 2, 3] dX8_countCold_40 rfl (by decide) rfl ?_
      refine sm_iinc F [(0, .ref (a 0)), (1, .int (x1 + (0 : Int32))), (2, .int x2), (3, .int (x3 + 1))] 3 [1, 2, 3, 0] dX8_countCold_41 rfl kc_i_1 (by decide) rfl ?_
      refine sm_goto (tgt := 16) F dX8_countCold_44 (by decide) ?_
      exact hk16 (x1 + (0 : Int32)) x2 (x3 + 1) hf
    · replace hf := if_f c31 hf
      refine sm_iconst F dX8_countCold_34 kc_i_1 ?_
      refine sm_goto (tgt := 39) F dX8_countCold_35 (by decide) ?_
      refine sm_iadd F dX8_countCold_39 ?_
      refine sm_istore_n F [(0, .ref (a 0)), (1, .int (x1 + (1 : Int32))), (2, .int x2), (3, .int x3)] [1, 0, 2, 3] dX8_countCold_40 rfl (by decide) rfl ?_
      refine sm_iinc F [(0, .ref (a 0)), (1, .int (x1 + (1 : Int32))), (2, .int x2), (3, .int (x3 + 1))] 3 [1, 2, 3, 0] dX8_countCold_41 rfl kc_i_1 (by decide) rfl ?_
      refine sm_goto (tgt := 16) F dX8_countCold_44 (by decide) ?_
      exact hk16 (x1 + (1 : Int32)) x2 (x3 + 1) hf
set_option maxRecDepth 100000 in
set_option maxHeartbeats 4000000 in
theorem s_X8_countCold_16 {p : Program} {l : Launch} {e : Env} {s : State} {m : MethodId} {args : Array Value} {below : List Frame} {meth : Method} {c : Code} {A : Nat → Prop} {D : va_G} {cI cZ cO : ClassId} {a : Nat → Nat} {r : Int32} (F : smF p s m args meth c cX8_countCold 4 (some .int) RX8 D (tyL cI cZ cO) A) (u : VS) (k4 : Int32 → Int32 → Option Int32) (hk4 : ∀ (x1' : Int32) (x2' : Int32), k4 x1' x2' = some r → Sm p l e rmX8_countCold s m args below meth c D A 4 0 0 (smQ below args s D A (some (.int r)) (wV cI cZ cO a u)) 4 [(0, .ref (a 0)), (1, .int x1'), (2, .int x2')] [] (wV cI cZ cO a u)) (n : Nat) (x1 : Int32) (x2 : Int32) (x3 : Int32) (hf : f_X8_countCold_16 u k4 n x1 x2 x3 = some r) : Sm p l e rmX8_countCold s m args below meth c D A 4 0 0 (smQ below args s D A (some (.int r)) (wV cI cZ cO a u)) 16 [(0, .ref (a 0)), (1, .int x1), (2, .int x2), (3, .int x3)] [] (wV cI cZ cO a u) :=
  lq3_ind (P := fun (x1 : Int32) (x2 : Int32) (x3 : Int32) => Sm p l e rmX8_countCold s m args below meth c D A 4 0 0 (smQ below args s D A (some (.int r)) (wV cI cZ cO a u)) 16 [(0, .ref (a 0)), (1, .int x1), (2, .int x2), (3, .int x3)] [] (wV cI cZ cO a u)) (fun k16 hk16 x1 x2 x3 h9 => s_X8_countCold_16_b F u k4 hk4 k16 hk16 x1 x2 x3 h9) n x1 x2 x3 hf
set_option maxRecDepth 100000 in
set_option maxHeartbeats 4000000 in
theorem s_X8_countCold_4_b {p : Program} {l : Launch} {e : Env} {s : State} {m : MethodId} {args : Array Value} {below : List Frame} {meth : Method} {c : Code} {A : Nat → Prop} {D : va_G} {cI cZ cO : ClassId} {a : Nat → Nat} {r : Int32} (F : smF p s m args meth c cX8_countCold 4 (some .int) RX8 D (tyL cI cZ cO) A) (u : VS) (k4 : Int32 → Int32 → Option Int32) (hk4 : ∀ (x1' : Int32) (x2' : Int32), k4 x1' x2' = some r → Sm p l e rmX8_countCold s m args below meth c D A 4 0 0 (smQ below args s D A (some (.int r)) (wV cI cZ cO a u)) 4 [(0, .ref (a 0)), (1, .int x1'), (2, .int x2')] [] (wV cI cZ cO a u)) (x1 : Int32) (x2 : Int32) (hf : b_X8_countCold_4 u  k4 x1 x2 = some r) : Sm p l e rmX8_countCold s m args below meth c D A 4 0 0 (smQ below args s D A (some (.int r)) (wV cI cZ cO a u)) 4 [(0, .ref (a 0)), (1, .int x1), (2, .int x2)] [] (wV cI cZ cO a u) := by
  unfold b_X8_countCold_4 at hf
  refine sm_iload_n F dX8_countCold_4 rfl 2 rfl ?_
  refine sm_aload_n F dX8_countCold_5 rfl 0 rfl ?_
  refine sm_get (v := .int (gV_people u)) F inX8 0 rfl rfl 6 (by decide) qw1_94 rfl rfl dX8_countCold_6 ?_
  refine sm_icmp_ge (tgt := 53) F dX8_countCold_9 (by decide) (fun c9 => ?_) (fun c9 => ?_)
  · replace hf := if_t c9 hf
    refine sm_iload_n F dX8_countCold_53 rfl 1 rfl ?_
    exact sm_iret F dX8_countCold_54 (Option.some.inj hf) rfl
  · replace hf := if_f c9 hf
    refine sm_iload_n F dX8_countCold_12 rfl 2 rfl ?_
    refine sm_iconst F dX8_countCold_13 kc_i_1 ?_
    refine sm_iadd F dX8_countCold_14 ?_
    refine sm_istore_n F [(0, .ref (a 0)), (1, .int x1), (2, .int x2), (3, .int (x2 + (1 : Int32)))] [1, 2, 3, 0] dX8_countCold_15 rfl (by decide) rfl ?_
    exact s_X8_countCold_16 F u k4 hk4 smN x1 x2 (x2 + (1 : Int32)) hf
set_option maxRecDepth 100000 in
set_option maxHeartbeats 4000000 in
theorem s_X8_countCold_4 {p : Program} {l : Launch} {e : Env} {s : State} {m : MethodId} {args : Array Value} {below : List Frame} {meth : Method} {c : Code} {A : Nat → Prop} {D : va_G} {cI cZ cO : ClassId} {a : Nat → Nat} {r : Int32} (F : smF p s m args meth c cX8_countCold 4 (some .int) RX8 D (tyL cI cZ cO) A) (u : VS)  (n : Nat) (x1 : Int32) (x2 : Int32) (hf : f_X8_countCold_4 u  n x1 x2 = some r) : Sm p l e rmX8_countCold s m args below meth c D A 4 0 0 (smQ below args s D A (some (.int r)) (wV cI cZ cO a u)) 4 [(0, .ref (a 0)), (1, .int x1), (2, .int x2)] [] (wV cI cZ cO a u) :=
  lq2_ind (P := fun (x1 : Int32) (x2 : Int32) => Sm p l e rmX8_countCold s m args below meth c D A 4 0 0 (smQ below args s D A (some (.int r)) (wV cI cZ cO a u)) 4 [(0, .ref (a 0)), (1, .int x1), (2, .int x2)] [] (wV cI cZ cO a u)) (fun k4 hk4 x1 x2 h9 => s_X8_countCold_4_b F u  k4 hk4 x1 x2 h9) n x1 x2 hf
set_option maxRecDepth 100000 in
set_option maxHeartbeats 4000000 in
theorem ct_X8_countCold (l : Launch) (D : va_G) (cI cZ cO : ClassId) (a : Nat → Nat) {u : VS} {r : Int32} (hf : f_X8_countCold u = some r) : Ct l yX8_countCold (uw (Cond.code yX8_countCold cX8_countCold 4 (some .int))) rmX8_countCold D (tyL cI cZ cO) E0 [.ref (a 0)] (wV cI cZ cO a u) (some (.int r)) (wV cI cZ cO a u) := by
  refine sm_start (cc := cX8_countCold) (maxL := 4) (ret := (some .int)) (own := RX8) (by decide) rfl rfl (Nat.le_of_ble_eq_true rfl) (lv := [(0, .ref (a 0))]) rfl ?_
  intro p e s m below meth c A F hE hA
  unfold f_X8_countCold at hf
  refine sm_iconst F dX8_countCold_0 kc_i_0 ?_
  refine sm_istore_n F [(0, .ref (a 0)), (1, .int (0 : Int32))] [1, 0] dX8_countCold_1 rfl (by decide) rfl ?_
  refine sm_iconst F dX8_countCold_2 kc_i_0 ?_
  refine sm_istore_n F [(0, .ref (a 0)), (1, .int (0 : Int32)), (2, .int (0 : Int32))] [1, 2, 0] dX8_countCold_3 rfl (by decide) rfl ?_
  exact s_X8_countCold_4 F u smN (0 : Int32) (0 : Int32) hf
/-! SoManyForgotten$Valley.firstCold()I -/
abbrev rmX8_firstCold : Room := { frames := 4, cells := 0, slots := 0, locals := 86 }
set_option maxRecDepth 100000 in
theorem hvX8_firstCold : yX8_firstCold.cls = RX8 ∧ yX8_firstCold.cls ≠ "java/lang/invoke/MethodHandle" ∧ yX8_firstCold.cls ≠ "java/lang/invoke/VarHandle" ∧ (parseMethodDescriptor yX8_firstCold.desc).map (fun d => d.parameters.length) = some 0 := by decide +kernel
set_option maxRecDepth 100000 in
set_option maxHeartbeats 4000000 in
theorem s_X8_firstCold_14_b {p : Program} {l : Launch} {e : Env} {s : State} {m : MethodId} {args : Array Value} {below : List Frame} {meth : Method} {c : Code} {A : Nat → Prop} {D : va_G} {cI cZ cO : ClassId} {a : Nat → Nat} {r : Int32} (F : smF p s m args meth c cX8_firstCold 3 (some .int) RX8 D (tyL cI cZ cO) A) (u : VS) (k2 : Int32 → Option Int32) (hk2 : ∀ (x1' : Int32), k2 x1' = some r → Sm p l e rmX8_firstCold s m args below meth c D A 3 0 0 (smQ below args s D A (some (.int r)) (wV cI cZ cO a u)) 2 [(0, .ref (a 0)), (1, .int x1')] [] (wV cI cZ cO a u)) (k14 : Int32 → Int32 → Option Int32) (hk14 : ∀ (x1' : Int32) (x2' : Int32), k14 x1' x2' = some r → Sm p l e rmX8_firstCold s m args below meth c D A 3 0 0 (smQ below args s D A (some (.int r)) (wV cI cZ cO a u)) 14 [(0, .ref (a 0)), (1, .int x1'), (2, .int x2')] [] (wV cI cZ cO a u)) (x1 : Int32) (x2 : Int32) (hf : b_X8_firstCold_14 u k2 k14 x1 x2 = some r) : Sm p l e rmX8_firstCold s m args below meth c D A 3 0 0 (smQ below args s D A (some (.int r)) (wV cI cZ cO a u)) 14 [(0, .ref (a 0)), (1, .int x1), (2, .int x2)] [] (wV cI cZ cO a u) := by
  unfold b_X8_firstCold_14 at hf
  refine sm_iload_n F dX8_firstCold_14 rfl 2 rfl ?_
  refine sm_aload_n F dX8_firstCold_15 rfl 0 rfl ?_
  refine sm_get (v := .int (gV_people u)) F inX8 0 rfl rfl 6 (by decide) qw1_94 rfl rfl dX8_firstCold_16 ?_
  refine sm_icmp_ge (tgt := 44) F dX8_firstCold_19 (by decide) (fun c19 => ?_) (fun c19 => ?_)
  · replace hf := if_t c19 hf
    refine sm_iinc F [(0, .ref (a 0)), (1, .int (x1 + 1)), (2, .int x2)] 1 [1, 0, 2] dX8_firstCold_44 rfl kc_i_1 (by decide) rfl ?_
    refine sm_goto (tgt := 2) F dX8_firstCold_47 (by decide) ?_
    refine sm_sub (lv' := [(0, .ref (a 0)), (1, .int (x1 + 1))]) [0, 1] rfl ?_
    exact hk2 (x1 + 1) hf
  · replace hf := if_f c19 hf
    refine sm_aload_n F dX8_firstCold_22 rfl 0 rfl ?_
    refine sm_iload_n F dX8_firstCold_23 rfl 1 rfl ?_
    refine sm_iload_n F dX8_firstCold_24 rfl 2 rfl ?_
    obtain ⟨z25, hz25, hf⟩ := bd_some hf
    refine sm_callV (rest := []) F (ct_X8_areCold l D cI cZ cO a hz25) (cut_V_id cI cZ cO a u u) rfl rfl rfl qw4_63 qw4_65 qw0_22 qw1_8 qw4_66 hvX8_areCold ⟨Nat.le_of_ble_eq_true rfl, Nat.le_of_ble_eq_true rfl⟩ ⟨Nat.zero_le _, Nat.zero_le _⟩ 0 8 rfl rfl rfl rfl (Nat.le_of_ble_eq_true rfl) E0_b (fun _ _ _ _ _ _ => trivial) rfl dX8_firstCold_25 [.int z25] rfl ?_
    refine sm_if_eq (tgt := 38) F dX8_firstCold_28 (by decide) (fun c28 => ?_) (fun c28 => ?_)
    · replace hf := if_t c28 hf
      refine sm_iinc F [(0, .ref (a 0)), (1, .int x1), (2, .int (x2 + 1))] 2 [1, 2, 0] dX8_firstCold_38 rfl kc_i_1 (by decide) rfl ?_
      refine sm_goto (tgt := 14) F dX8_firstCold_41 (by decide) ?_
      exact hk14 x1 (x2 + 1) hf
    · replace hf := if_f c28 hf
      refine sm_bipush F dX8_firstCold_31 kc_b_10 ?_
      refine sm_iload_n F dX8_firstCold_33 rfl 1 rfl ?_
      refine sm_imul F dX8_firstCold_34 ?_
      refine sm_iload_n F dX8_firstCold_35 rfl 2 rfl ?_
      refine sm_iadd F dX8_firstCold_36 ?_
      exact sm_iret F dX8_firstCold_37 (Option.some.inj hf) rfl
set_option maxRecDepth 100000 in
set_option maxHeartbeats 4000000 in
theorem s_X8_firstCold_14 {p : Program} {l : Launch} {e : Env} {s : State} {m : MethodId} {args : Array Value} {below : List Frame} {meth : Method} {c : Code} {A : Nat → Prop} {D : va_G} {cI cZ cO : ClassId} {a : Nat → Nat} {r : Int32} (F : smF p s m args meth c cX8_firstCold 3 (some .int) RX8 D (tyL cI cZ cO) A) (u : VS) (k2 : Int32 → Option Int32) (hk2 : ∀ (x1' : Int32), k2 x1' = some r → Sm p l e rmX8_firstCold s m args below meth c D A 3 0 0 (smQ below args s D A (some (.int r)) (wV cI cZ cO a u)) 2 [(0, .ref (a 0)), (1, .int x1')] [] (wV cI cZ cO a u)) (n : Nat) (x1 : Int32) (x2 : Int32) (hf : f_X8_firstCold_14 u k2 n x1 x2 = some r) : Sm p l e rmX8_firstCold s m args below meth c D A 3 0 0 (smQ below args s D A (some (.int r)) (wV cI cZ cO a u)) 14 [(0, .ref (a 0)), (1, .int x1), (2, .int x2)] [] (wV cI cZ cO a u) :=
  lq2_ind (P := fun (x1 : Int32) (x2 : Int32) => Sm p l e rmX8_firstCold s m args below meth c D A 3 0 0 (smQ below args s D A (some (.int r)) (wV cI cZ cO a u)) 14 [(0, .ref (a 0)), (1, .int x1), (2, .int x2)] [] (wV cI cZ cO a u)) (fun k14 hk14 x1 x2 h9 => s_X8_firstCold_14_b F u k2 hk2 k14 hk14 x1 x2 h9) n x1 x2 hf
set_option maxRecDepth 100000 in
set_option maxHeartbeats 4000000 in
theorem s_X8_firstCold_2_b {p : Program} {l : Launch} {e : Env} {s : State} {m : MethodId} {args : Array Value} {below : List Frame} {meth : Method} {c : Code} {A : Nat → Prop} {D : va_G} {cI cZ cO : ClassId} {a : Nat → Nat} {r : Int32} (F : smF p s m args meth c cX8_firstCold 3 (some .int) RX8 D (tyL cI cZ cO) A) (u : VS) (k2 : Int32 → Option Int32) (hk2 : ∀ (x1' : Int32), k2 x1' = some r → Sm p l e rmX8_firstCold s m args below meth c D A 3 0 0 (smQ below args s D A (some (.int r)) (wV cI cZ cO a u)) 2 [(0, .ref (a 0)), (1, .int x1')] [] (wV cI cZ cO a u)) (x1 : Int32) (hf : b_X8_firstCold_2 u  k2 x1 = some r) : Sm p l e rmX8_firstCold s m args below meth c D A 3 0 0 (smQ below args s D A (some (.int r)) (wV cI cZ cO a u)) 2 [(0, .ref (a 0)), (1, .int x1)] [] (wV cI cZ cO a u) := by
  unfold b_X8_firstCold_2 at hf
  refine sm_iload_n F dX8_firstCold_2 rfl 1 rfl ?_
  refine sm_aload_n F dX8_firstCold_3 rfl 0 rfl ?_
  refine sm_get (v := .int (gV_people u)) F inX8 0 rfl rfl 6 (by decide) qw1_94 rfl rfl dX8_firstCold_4 ?_
  refine sm_icmp_ge (tgt := 50) F dX8_firstCold_7 (by decide) (fun c7 => ?_) (fun c7 => ?_)
  · replace hf := if_t c7 hf
    refine sm_bipush F dX8_firstCold_50 kc_b_m9 ?_
    exact sm_iret F dX8_firstCold_52 (Option.some.inj hf) rfl
  · replace hf := if_f c7 hf
    refine sm_iload_n F dX8_firstCold_10 rfl 1 rfl ?_
    refine sm_iconst F dX8_firstCold_11 kc_i_1 ?_
    refine sm_iadd F dX8_firstCold_12 ?_
    refine sm_istore_n F [(0, .ref (a 0)), (1, .int x1), (2, .int (x1 + (1 : Int32)))] [1, 2, 0] dX8_firstCold_13 rfl (by decide) rfl ?_
    exact s_X8_firstCold_14 F u k2 hk2 smN x1 (x1 + (1 : Int32)) hf
set_option maxRecDepth 100000 in
set_option maxHeartbeats 4000000 in
theorem s_X8_firstCold_2 {p : Program} {l : Launch} {e : Env} {s : State} {m : MethodId} {args : Array Value} {below : List Frame} {meth : Method} {c : Code} {A : Nat → Prop} {D : va_G} {cI cZ cO : ClassId} {a : Nat → Nat} {r : Int32} (F : smF p s m args meth c cX8_firstCold 3 (some .int) RX8 D (tyL cI cZ cO) A) (u : VS)  (n : Nat) (x1 : Int32) (hf : f_X8_firstCold_2 u  n x1 = some r) : Sm p l e rmX8_firstCold s m args below meth c D A 3 0 0 (smQ below args s D A (some (.int r)) (wV cI cZ cO a u)) 2 [(0, .ref (a 0)), (1, .int x1)] [] (wV cI cZ cO a u) :=
  lq1_ind (P := fun (x1 : Int32) => Sm p l e rmX8_firstCold s m args below meth c D A 3 0 0 (smQ below args s D A (some (.int r)) (wV cI cZ cO a u)) 2 [(0, .ref (a 0)), (1, .int x1)] [] (wV cI cZ cO a u)) (fun k2 hk2 x1 h9 => s_X8_firstCold_2_b F u  k2 hk2 x1 h9) n x1 hf
set_option maxRecDepth 100000 in
set_option maxHeartbeats 4000000 in
theorem ct_X8_firstCold (l : Launch) (D : va_G) (cI cZ cO : ClassId) (a : Nat → Nat) {u : VS} {r : Int32} (hf : f_X8_firstCold u = some r) : Ct l yX8_firstCold (uw (Cond.code yX8_firstCold cX8_firstCold 3 (some .int))) rmX8_firstCold D (tyL cI cZ cO) E0 [.ref (a 0)] (wV cI cZ cO a u) (some (.int r)) (wV cI cZ cO a u) := by
  refine sm_start (cc := cX8_firstCold) (maxL := 3) (ret := (some .int)) (own := RX8) (by decide) rfl rfl (Nat.le_of_ble_eq_true rfl) (lv := [(0, .ref (a 0))]) rfl ?_
  intro p e s m below meth c A F hE hA
  unfold f_X8_firstCold at hf
  refine sm_iconst F dX8_firstCold_0 kc_i_0 ?_
  refine sm_istore_n F [(0, .ref (a 0)), (1, .int (0 : Int32))] [1, 0] dX8_firstCold_1 rfl (by decide) rfl ?_
  exact s_X8_firstCold_2 F u smN (0 : Int32) hf
/-! SoManyForgotten$Valley.leastRemembered(I)I -/
abbrev rmX8_leastRemembered : Room := { frames := 3, cells := 0, slots := 0, locals := 64 }
set_option maxRecDepth 100000 in
theorem hvX8_leastRemembered : yX8_leastRemembered.cls = RX8 ∧ yX8_leastRemembered.cls ≠ "java/lang/invoke/MethodHandle" ∧ yX8_leastRemembered.cls ≠ "java/lang/invoke/VarHandle" ∧ (parseMethodDescriptor yX8_leastRemembered.desc).map (fun d => d.parameters.length) = some 1 := by decide +kernel
set_option maxRecDepth 100000 in
set_option maxHeartbeats 4000000 in
theorem s_X8_leastRemembered_5_b {p : Program} {l : Launch} {e : Env} {s : State} {m : MethodId} {args : Array Value} {below : List Frame} {meth : Method} {c : Code} {A : Nat → Prop} {D : va_G} {cI cZ cO : ClassId} {a : Nat → Nat} {r : Int32} (F : smF p s m args meth c cX8_leastRemembered 4 (some .int) RX8 D (tyL cI cZ cO) A) (u : VS) (x1 : Int32) (k5 : Int32 → Int32 → Option Int32) (hk5 : ∀ (x2' : Int32) (x3' : Int32), k5 x2' x3' = some r → Sm p l e rmX8_leastRemembered s m args below meth c D A 4 0 0 (smQ below args s D A (some (.int r)) (wV cI cZ cO a u)) 5 [(0, .ref (a 0)), (1, .int x1), (2, .int x2'), (3, .int x3')] [] (wV cI cZ cO a u)) (x2 : Int32) (x3 : Int32) (hf : b_X8_leastRemembered_5 u x1  k5 x2 x3 = some r) : Sm p l e rmX8_leastRemembered s m args below meth c D A 4 0 0 (smQ below args s D A (some (.int r)) (wV cI cZ cO a u)) 5 [(0, .ref (a 0)), (1, .int x1), (2, .int x2), (3, .int x3)] [] (wV cI cZ cO a u) := by
  unfold b_X8_leastRemembered_5 at hf
  refine sm_iload_n F dX8_leastRemembered_5 rfl 3 rfl ?_
  refine sm_aload_n F dX8_leastRemembered_6 rfl 0 rfl ?_
  refine sm_get (v := .int (gV_people u)) F inX8 0 rfl rfl 6 (by decide) qw1_94 rfl rfl dX8_leastRemembered_7 ?_
  refine sm_icmp_ge (tgt := 51) F dX8_leastRemembered_10 (by decide) (fun c10 => ?_) (fun c10 => ?_)
  · replace hf := if_t c10 hf
    refine sm_iload_n F dX8_leastRemembered_51 rfl 2 rfl ?_
    exact sm_iret F dX8_leastRemembered_52 (Option.some.inj hf) rfl
  · replace hf := if_f c10 hf
    refine sm_aload_n F dX8_leastRemembered_13 rfl 0 rfl ?_
    refine sm_iload_n F dX8_leastRemembered_14 rfl 1 rfl ?_
    refine sm_iload_n F dX8_leastRemembered_15 rfl 3 rfl ?_
    obtain ⟨z16, hz16, hf⟩ := bd_some hf
    refine sm_callV (rest := []) F (ct_X8_areTwoHere l D cI cZ cO a hz16) (cut_V_id cI cZ cO a u u) rfl rfl rfl qw4_38 qw2_189 qw2_190 qw1_8 qw2_191 hvX8_areTwoHere ⟨Nat.le_of_ble_eq_true rfl, Nat.le_of_ble_eq_true rfl⟩ ⟨Nat.zero_le _, Nat.zero_le _⟩ 0 8 rfl rfl rfl rfl (Nat.le_of_ble_eq_true rfl) E0_b (fun _ _ _ _ _ _ => trivial) rfl dX8_leastRemembered_16 [.int z16] rfl ?_
    refine sm_if_eq (tgt := 45) F dX8_leastRemembered_19 (by decide) (fun c19 => ?_) (fun c19 => ?_)
    · replace hf := if_t c19 hf
      refine sm_iinc F [(0, .ref (a 0)), (1, .int x1), (2, .int x2), (3, .int (x3 + 1))] 3 [1, 2, 3, 0] dX8_leastRemembered_45 rfl kc_i_1 (by decide) rfl ?_
      refine sm_goto (tgt := 5) F dX8_leastRemembered_48 (by decide) ?_
      exact hk5 x2 (x3 + 1) hf
    · replace hf := if_f c19 hf
      refine sm_iload_n F dX8_leastRemembered_22 rfl 2 rfl ?_
      refine sm_bipush F dX8_leastRemembered_23 kc_b_m9 ?_
      refine sm_icmp_eq (tgt := 43) F dX8_leastRemembered_25 (by decide) (fun c25 => ?_) (fun c25 => ?_)
      · replace hf := if_t c25 hf
        refine sm_iload_n F dX8_leastRemembered_43 rfl 3 rfl ?_
        refine sm_istore_n F [(0, .ref (a 0)), (1, .int x1), (2, .int x3), (3, .int x3)] [1, 2, 0, 3] dX8_leastRemembered_44 rfl (by decide) rfl ?_
        refine sm_iinc F [(0, .ref (a 0)), (1, .int x1), (2, .int x3), (3, .int (x3 + 1))] 3 [1, 2, 3, 0] dX8_leastRemembered_45 rfl kc_i_1 (by decide) rfl ?_
        refine sm_goto (tgt := 5) F dX8_leastRemembered_48 (by decide) ?_
        exact hk5 x3 (x3 + 1) hf
      · replace hf := if_f c25 hf
        refine sm_aload_n F dX8_leastRemembered_28 rfl 0 rfl ?_
        refine sm_iload_n F dX8_leastRemembered_29 rfl 1 rfl ?_
        refine sm_iload_n F dX8_leastRemembered_30 rfl 3 rfl ?_
        obtain ⟨z31, hz31, hf⟩ := bd_some hf
        refine sm_callV (rest := []) F (ct_X8_memoryOf l D cI cZ cO a hz31) (cut_V_id cI cZ cO a u u) rfl rfl rfl qw4_39 qw3_79 qw3_80 qw1_8 qw3_81 hvX8_memoryOf ⟨Nat.le_of_ble_eq_true rfl, Nat.le_of_ble_eq_true rfl⟩ ⟨Nat.zero_le _, Nat.zero_le _⟩ 0 8 rfl rfl rfl rfl (Nat.le_of_ble_eq_true rfl) E0_b (fun _ _ _ _ _ _ => trivial) rfl dX8_leastRemembered_31 [.int z31] rfl ?_
        refine sm_aload_n F dX8_leastRemembered_34 rfl 0 rfl ?_
        refine sm_iload_n F dX8_leastRemembered_35 rfl 1 rfl ?_
        refine sm_iload_n F dX8_leastRemembered_36 rfl 2 rfl ?_
        obtain ⟨z37, hz37, hf⟩ := bd_some hf
        refine sm_callV (rest := [.int z31]) F (ct_X8_memoryOf l D cI cZ cO a hz37) (cut_V_id cI cZ cO a u u) rfl rfl rfl qw4_39 qw3_79 qw3_80 qw1_8 qw3_81 hvX8_memoryOf ⟨Nat.le_of_ble_eq_true rfl, Nat.le_of_ble_eq_true rfl⟩ ⟨Nat.zero_le _, Nat.zero_le _⟩ 0 8 rfl rfl rfl rfl (Nat.le_of_ble_eq_true rfl) E0_b (fun _ _ _ _ _ _ => trivial) rfl dX8_leastRemembered_37 [.int z37, .int z31] rfl ?_
        refine sm_icmp_ge (tgt := 45) F dX8_leastRemembered_40 (by decide) (fun c40 => ?_) (fun c40 => ?_)
        · replace hf := if_t c40 hf
          refine sm_iinc F [(0, .ref (a 0)), (1, .int x1), (2, .int x2), (3, .int (x3 + 1))] 3 [1, 2, 3, 0] dX8_leastRemembered_45 rfl kc_i_1 (by decide) rfl ?_
          refine sm_goto (tgt := 5) F dX8_leastRemembered_48 (by decide) ?_
          exact hk5 x2 (x3 + 1) hf
        · replace hf := if_f c40 hf
          refine sm_iload_n F dX8_leastRemembered_43 rfl 3 rfl ?_
          refine sm_istore_n F [(0, .ref (a 0)), (1, .int x1), (2, .int x3), (3, .int x3)] [1, 2, 0, 3] dX8_leastRemembered_44 rfl (by decide) rfl ?_
          refine sm_iinc F [(0, .ref (a 0)), (1, .int x1), (2, .int x3), (3, .int (x3 + 1))] 3 [1, 2, 3, 0] dX8_leastRemembered_45 rfl kc_i_1 (by decide) rfl ?_
          refine sm_goto (tgt := 5) F dX8_leastRemembered_48 (by decide) ?_
          exact hk5 x3 (x3 + 1) hf
set_option maxRecDepth 100000 in
set_option maxHeartbeats 4000000 in
theorem s_X8_leastRemembered_5 {p : Program} {l : Launch} {e : Env} {s : State} {m : MethodId} {args : Array Value} {below : List Frame} {meth : Method} {c : Code} {A : Nat → Prop} {D : va_G} {cI cZ cO : ClassId} {a : Nat → Nat} {r : Int32} (F : smF p s m args meth c cX8_leastRemembered 4 (some .int) RX8 D (tyL cI cZ cO) A) (u : VS) (x1 : Int32)  (n : Nat) (x2 : Int32) (x3 : Int32) (hf : f_X8_leastRemembered_5 u x1  n x2 x3 = some r) : Sm p l e rmX8_leastRemembered s m args below meth c D A 4 0 0 (smQ below args s D A (some (.int r)) (wV cI cZ cO a u)) 5 [(0, .ref (a 0)), (1, .int x1), (2, .int x2), (3, .int x3)] [] (wV cI cZ cO a u) :=
  lq2_ind (P := fun (x2 : Int32) (x3 : Int32) => Sm p l e rmX8_leastRemembered s m args below meth c D A 4 0 0 (smQ below args s D A (some (.int r)) (wV cI cZ cO a u)) 5 [(0, .ref (a 0)), (1, .int x1), (2, .int x2), (3, .int x3)] [] (wV cI cZ cO a u)) (fun k5 hk5 x2 x3 h9 => s_X8_leastRemembered_5_b F u x1  k5 hk5 x2 x3 h9) n x2 x3 hf
set_option maxRecDepth 100000 in
set_option maxHeartbeats 4000000 in
theorem ct_X8_leastRemembered (l : Launch) (D : va_G) (cI cZ cO : ClassId) (a : Nat → Nat) {u : VS} {x1 : Int32} {r : Int32} (hf : f_X8_leastRemembered u x1 = some r) : Ct l yX8_leastRemembered (uw (Cond.code yX8_leastRemembered cX8_leastRemembered 4 (some .int))) rmX8_leastRemembered D (tyL cI cZ cO) E0 [.ref (a 0), .int x1] (wV cI cZ cO a u) (some (.int r)) (wV cI cZ cO a u) := by
  refine sm_start (cc := cX8_leastRemembered) (maxL := 4) (ret := (some .int)) (own := RX8) (by decide) rfl rfl (Nat.le_of_ble_eq_true rfl) (lv := [(0, .ref (a 0)), (1, .int x1)]) rfl ?_
  intro p e s m below meth c A F hE hA
  unfold f_X8_leastRemembered at hf
  refine sm_bipush F dX8_leastRemembered_0 kc_b_m9 ?_
  refine sm_istore_n F [(0, .ref (a 0)), (1, .int x1), (2, .int ((-9) : Int32))] [1, 2, 0] dX8_leastRemembered_2 rfl (by decide) rfl ?_
  refine sm_iconst F dX8_leastRemembered_3 kc_i_0 ?_
  refine sm_istore_n F [(0, .ref (a 0)), (1, .int x1), (2, .int ((-9) : Int32)), (3, .int (0 : Int32))] [1, 2, 3, 0] dX8_leastRemembered_4 rfl (by decide) rfl ?_
  exact s_X8_leastRemembered_5 F u x1 smN ((-9) : Int32) (0 : Int32) hf
/-! SoManyForgotten$Valley.memoryOverTheHill()I -/
abbrev rmX8_memoryOverTheHill : Room := { frames := 1, cells := 0, slots := 0, locals := 22 }
set_option maxRecDepth 100000 in
theorem hvX8_memoryOverTheHill : yX8_memoryOverTheHill.cls = RX8 ∧ yX8_memoryOverTheHill.cls ≠ "java/lang/invoke/MethodHandle" ∧ yX8_memoryOverTheHill.cls ≠ "java/lang/invoke/VarHandle" ∧ (parseMethodDescriptor yX8_memoryOverTheHill.desc).map (fun d => d.parameters.length) = some 0 := by decide +kernel
set_option maxRecDepth 100000 in
set_option maxHeartbeats 4000000 in
theorem s_X8_memoryOverTheHill_14_b {p : Program} {l : Launch} {e : Env} {s : State} {m : MethodId} {args : Array Value} {below : List Frame} {meth : Method} {c : Code} {A : Nat → Prop} {D : va_G} {cI cZ cO : ClassId} {a : Nat → Nat} {r : Int32} (F : smF p s m args meth c cX8_memoryOverTheHill 4 (some .int) RX8 D (tyL cI cZ cO) A) (u : VS) (k4 : Int32 → Int32 → Option Int32) (hk4 : ∀ (x1' : Int32) (x2' : Int32), k4 x1' x2' = some r → Sm p l e rmX8_memoryOverTheHill s m args below meth c D A 4 0 0 (smQ below args s D A (some (.int r)) (wV cI cZ cO a u)) 4 [(0, .ref (a 0)), (1, .int x1'), (2, .int x2')] [] (wV cI cZ cO a u)) (k14 : Int32 → Int32 → Int32 → Option Int32) (hk14 : ∀ (x1' : Int32) (x2' : Int32) (x3' : Int32), k14 x1' x2' x3' = some r → Sm p l e rmX8_memoryOverTheHill s m args below meth c D A 4 0 0 (smQ below args s D A (some (.int r)) (wV cI cZ cO a u)) 14 [(0, .ref (a 0)), (1, .int x1'), (2, .int x2'), (3, .int x3')] [] (wV cI cZ cO a u)) (x1 : Int32) (x2 : Int32) (x3 : Int32) (hf : b_X8_memoryOverTheHill_14 u k4 k14 x1 x2 x3 = some r) : Sm p l e rmX8_memoryOverTheHill s m args below meth c D A 4 0 0 (smQ below args s D A (some (.int r)) (wV cI cZ cO a u)) 14 [(0, .ref (a 0)), (1, .int x1), (2, .int x2), (3, .int x3)] [] (wV cI cZ cO a u) := by
  unfold b_X8_memoryOverTheHill_14 at hf
  refine sm_iload_n F dX8_memoryOverTheHill_14 rfl 3 rfl ?_
  refine sm_aload_n F dX8_memoryOverTheHill_15 rfl 0 rfl ?_
  refine sm_get (v := .int (gV_people u)) F inX8 0 rfl rfl 6 (by decide) qw1_94 rfl rfl dX8_memoryOverTheHill_16 ?_
  refine sm_icmp_ge (tgt := 64) F dX8_memoryOverTheHill_19 (by decide) (fun c19 => ?_) (fun c19 => ?_)
  · replace hf := if_t c19 hf
    refine sm_iinc F [(0, .ref (a 0)), (1, .int x1), (2, .int (x2 + 1)), (3, .int x3)] 2 [1, 2, 0, 3] dX8_memoryOverTheHill_64 rfl kc_i_1 (by decide) rfl ?_
    refine sm_goto (tgt := 4) F dX8_memoryOverTheHill_67 (by decide) ?_
    refine sm_sub (lv' := [(0, .ref (a 0)), (1, .int x1), (2, .int (x2 + 1))]) [0, 1, 2] rfl ?_
    exact hk4 x1 (x2 + 1) hf
  · replace hf := if_f c19 hf
    refine sm_iload_n F dX8_memoryOverTheHill_22 rfl 1 rfl ?_
    refine sm_iload_n F dX8_memoryOverTheHill_23 rfl 2 rfl ?_
    refine sm_iload_n F dX8_memoryOverTheHill_24 rfl 3 rfl ?_
    refine sm_icmp_eq (tgt := 55) F dX8_memoryOverTheHill_25 (by decide) (fun c25 => ?_) (fun c25 => ?_)
    · replace hf := if_t c25 hf
      refine sm_iconst F dX8_memoryOverTheHill_55 kc_i_0 ?_
      refine sm_iadd F dX8_memoryOverTheHill_56 ?_
      refine sm_istore_n F [(0, .ref (a 0)), (1, .int (x1 + (0 : Int32))), (2, .int x2), (3, .int x3)] [1, 0, 2, 3] dX8_memoryOverTheHill_57 rfl (by decide) rfl ?_
      refine sm_iinc F [(0, .ref (a 0)), (1, .int (x1 + (0 : Int32))), (2, .int x2), (3, .int (x3 + 1))] 3 [1, 2, 3, 0] dX8_memoryOverTheHill_58 rfl kc_i_1 (by decide) rfl ?_
      refine sm_goto (tgt := 14) F dX8_memoryOverTheHill_61 (by decide) ?_
      exact hk14 (x1 + (0 : Int32)) x2 (x3 + 1) hf
    · replace hf := if_f c25 hf
      refine sm_aload_n F dX8_memoryOverTheHill_28 rfl 0 rfl ?_
      refine sm_get (v := .ref (a 4)) F inX8 0 rfl rfl 4 (by decide) qw1_89 rfl rfl dX8_memoryOverTheHill_29 ?_
      refine sm_iload_n F dX8_memoryOverTheHill_32 rfl 2 rfl ?_
      obtain ⟨h33, hf⟩ := ck_some hf
      refine sm_zald F 4 1 rfl rfl h33 dX8_memoryOverTheHill_33 ?_
      refine sm_if_ne (tgt := 55) F dX8_memoryOverTheHill_34 (by decide) (fun c34 => ?_) (fun c34 => ?_)
      · replace hf := if_f c34 hf
        refine sm_iconst F dX8_memoryOverTheHill_55 kc_i_0 ?_
        refine sm_iadd F dX8_memoryOverTheHill_56 ?_
        refine sm_istore_n F [(0, .ref (a 0)), (1, .int (x1 + (0 : Int32))), (2, .int x2), (3, .int x3)] [1, 0, 2, 3] dX8_memoryOverTheHill_57 rfl (by decide) rfl ?_
        refine sm_iinc F [(0, .ref (a 0)), (1, .int (x1 + (0 : Int32))), (2, .int x2), (3, .int (x3 + 1))] 3 [1, 2, 3, 0] dX8_memoryOverTheHill_58 rfl kc_i_1 (by decide) rfl ?_
        refine sm_goto (tgt := 14) F dX8_memoryOverTheHill_61 (by decide) ?_
        exact hk14 (x1 + (0 : Int32)) x2 (x3 + 1) hf
      · replace hf := if_t c34 hf
        refine sm_aload_n F dX8_memoryOverTheHill_37 rfl 0 rfl ?_
        refine sm_get (v := .ref (a 4)) F inX8 0 rfl rfl 4 (by decide) qw1_89 rfl rfl dX8_memoryOverTheHill_38 ?_
        refine sm_iload_n F dX8_memoryOverTheHill_41 rfl 3 rfl ?_
        obtain ⟨h42, hf⟩ := ck_some hf
        refine sm_zald F 4 1 rfl rfl h42 dX8_memoryOverTheHill_42 ?_
        refine sm_if_ne (tgt := 55) F dX8_memoryOverTheHill_43 (by decide) (fun c43 => ?_) (fun c43 => ?_)
        · replace hf := if_f c43 hf
          refine sm_iconst F dX8_memoryOverTheHill_55 kc_i_0 ?_
          refine sm_iadd F dX8_memoryOverTheHill_56 ?_
          refine sm_istore_n F [(0, .ref (a 0)), (1, .int (x1 + (0 : Int32))), (2, .int x2), (3, .int x3)] [1, 0, 2, 3] dX8_memoryOverTheHill_57 rfl (by decide) rfl ?_
          refine sm_iinc F [(0, .ref (a 0)), (1, .int (x1 + (0 : Int32))), (2, .int x2), (3, .int (x3 + 1))] 3 [1, 2, 3, 0] dX8_memoryOverTheHill_58 rfl kc_i_1 (by decide) rfl ?_
          refine sm_goto (tgt := 14) F dX8_memoryOverTheHill_61 (by decide) ?_
          exact hk14 (x1 + (0 : Int32)) x2 (x3 + 1) hf
        · replace hf := if_t c43 hf
          refine sm_aload_n F dX8_memoryOverTheHill_46 rfl 0 rfl ?_
          refine sm_iload_n F dX8_memoryOverTheHill_47 rfl 2 rfl ?_
          refine sm_iload_n F dX8_memoryOverTheHill_48 rfl 3 rfl ?_
          obtain ⟨z49, hz49, hf⟩ := bd_some hf
          refine sm_callV (rest := [.int x1]) F (ct_X8_memoryOf l D cI cZ cO a hz49) (cut_V_id cI cZ cO a u u) rfl rfl rfl qw4_39 qw3_79 qw3_80 qw1_8 qw3_81 hvX8_memoryOf ⟨Nat.le_of_ble_eq_true rfl, Nat.le_of_ble_eq_true rfl⟩ ⟨Nat.zero_le _, Nat.zero_le _⟩ 0 8 rfl rfl rfl rfl (Nat.le_of_ble_eq_true rfl) E0_b (fun _ _ _ _ _ _ => trivial) rfl dX8_memoryOverTheHill_49 [.int z49, .int x1] rfl ?_
          refine sm_goto (tgt := 56) F dX8_memoryOverTheHill_52 (by decide) ?_
          refine sm_iadd F dX8_memoryOverTheHill_56 ?_
          refine sm_istore_n F [(0, .ref (a 0)), (1, .int (x1 + z49)), (2, .int x2), (3, .int x3)] [1, 0, 2, 3] dX8_memoryOverTheHill_57 rfl (by decide) rfl ?_
          refine sm_iinc F [(0, .ref (a 0)), (1, .int (x1 + z49)), (2, .int x2), (3, .int (x3 + 1))] 3 [1, 2, 3, 0] dX8_memoryOverTheHill_58 rfl kc_i_1 (by decide) rfl ?_
          refine sm_goto (tgt := 14) F dX8_memoryOverTheHill_61 (by decide) ?_
          exact hk14 (x1 + z49) x2 (x3 + 1) hf
set_option maxRecDepth 100000 in
set_option maxHeartbeats 4000000 in
theorem s_X8_memoryOverTheHill_14 {p : Program} {l : Launch} {e : Env} {s : State} {m : MethodId} {args : Array Value} {below : List Frame} {meth : Method} {c : Code} {A : Nat → Prop} {D : va_G} {cI cZ cO : ClassId} {a : Nat → Nat} {r : Int32} (F : smF p s m args meth c cX8_memoryOverTheHill 4 (some .int) RX8 D (tyL cI cZ cO) A) (u : VS) (k4 : Int32 → Int32 → Option Int32) (hk4 : ∀ (x1' : Int32) (x2' : Int32), k4 x1' x2' = some r → Sm p l e rmX8_memoryOverTheHill s m args below meth c D A 4 0 0 (smQ below args s D A (some (.int r)) (wV cI cZ cO a u)) 4 [(0, .ref (a 0)), (1, .int x1'), (2, .int x2')] [] (wV cI cZ cO a u)) (n : Nat) (x1 : Int32) (x2 : Int32) (x3 : Int32) (hf : f_X8_memoryOverTheHill_14 u k4 n x1 x2 x3 = some r) : Sm p l e rmX8_memoryOverTheHill s m args below meth c D A 4 0 0 (smQ below args s D A (some (.int r)) (wV cI cZ cO a u)) 14 [(0, .ref (a 0)), (1, .int x1), (2, .int x2), (3, .int x3)] [] (wV cI cZ cO a u) :=
  lq3_ind (P := fun (x1 : Int32) (x2 : Int32) (x3 : Int32) => Sm p l e rmX8_memoryOverTheHill s m args below meth c D A 4 0 0 (smQ below args s D A (some (.int r)) (wV cI cZ cO a u)) 14 [(0, .ref (a 0)), (1, .int x1), (2, .int x2), (3, .int x3)] [] (wV cI cZ cO a u)) (fun k14 hk14 x1 x2 x3 h9 => s_X8_memoryOverTheHill_14_b F u k4 hk4 k14 hk14 x1 x2 x3 h9) n x1 x2 x3 hf
set_option maxRecDepth 100000 in
set_option maxHeartbeats 4000000 in
theorem s_X8_memoryOverTheHill_4_b {p : Program} {l : Launch} {e : Env} {s : State} {m : MethodId} {args : Array Value} {below : List Frame} {meth : Method} {c : Code} {A : Nat → Prop} {D : va_G} {cI cZ cO : ClassId} {a : Nat → Nat} {r : Int32} (F : smF p s m args meth c cX8_memoryOverTheHill 4 (some .int) RX8 D (tyL cI cZ cO) A) (u : VS) (k4 : Int32 → Int32 → Option Int32) (hk4 : ∀ (x1' : Int32) (x2' : Int32), k4 x1' x2' = some r → Sm p l e rmX8_memoryOverTheHill s m args below meth c D A 4 0 0 (smQ below args s D A (some (.int r)) (wV cI cZ cO a u)) 4 [(0, .ref (a 0)), (1, .int x1'), (2, .int x2')] [] (wV cI cZ cO a u)) (x1 : Int32) (x2 : Int32) (hf : b_X8_memoryOverTheHill_4 u  k4 x1 x2 = some r) : Sm p l e rmX8_memoryOverTheHill s m args below meth c D A 4 0 0 (smQ below args s D A (some (.int r)) (wV cI cZ cO a u)) 4 [(0, .ref (a 0)), (1, .int x1), (2, .int x2)] [] (wV cI cZ cO a u) := by
  unfold b_X8_memoryOverTheHill_4 at hf
  refine sm_iload_n F dX8_memoryOverTheHill_4 rfl 2 rfl ?_
  refine sm_aload_n F dX8_memoryOverTheHill_5 rfl 0 rfl ?_
  refine sm_get (v := .int (gV_people u)) F inX8 0 rfl rfl 6 (by decide) qw1_94 rfl rfl dX8_memoryOverTheHill_6 ?_
  refine sm_icmp_ge (tgt := 70) F dX8_memoryOverTheHill_9 (by decide) (fun c9 => ?_) (fun c9 => ?_)
  · replace hf := if_t c9 hf
    refine sm_iload_n F dX8_memoryOverTheHill_70 rfl 1 rfl ?_
    exact sm_iret F dX8_memoryOverTheHill_71 (Option.some.inj hf) rfl
  · replace hf := if_f c9 hf
    refine sm_iconst F dX8_memoryOverTheHill_12 kc_i_0 ?_
    refine sm_istore_n F [(0, .ref (a 0)), (1, .int x1), (2, .int x2), (3, .int (0 : Int32))] [1, 2, 3, 0] dX8_memoryOverTheHill_13 rfl (by decide) rfl ?_
    exact s_X8_memoryOverTheHill_14 F u k4 hk4 smN x1 x2 (0 : Int32) hf
set_option maxRecDepth 100000 in
set_option maxHeartbeats 4000000 in
theorem s_X8_memoryOverTheHill_4 {p : Program} {l : Launch} {e : Env} {s : State} {m : MethodId} {args : Array Value} {below : List Frame} {meth : Method} {c : Code} {A : Nat → Prop} {D : va_G} {cI cZ cO : ClassId} {a : Nat → Nat} {r : Int32} (F : smF p s m args meth c cX8_memoryOverTheHill 4 (some .int) RX8 D (tyL cI cZ cO) A) (u : VS)  (n : Nat) (x1 : Int32) (x2 : Int32) (hf : f_X8_memoryOverTheHill_4 u  n x1 x2 = some r) : Sm p l e rmX8_memoryOverTheHill s m args below meth c D A 4 0 0 (smQ below args s D A (some (.int r)) (wV cI cZ cO a u)) 4 [(0, .ref (a 0)), (1, .int x1), (2, .int x2)] [] (wV cI cZ cO a u) :=
  lq2_ind (P := fun (x1 : Int32) (x2 : Int32) => Sm p l e rmX8_memoryOverTheHill s m args below meth c D A 4 0 0 (smQ below args s D A (some (.int r)) (wV cI cZ cO a u)) 4 [(0, .ref (a 0)), (1, .int x1), (2, .int x2)] [] (wV cI cZ cO a u)) (fun k4 hk4 x1 x2 h9 => s_X8_memoryOverTheHill_4_b F u  k4 hk4 x1 x2 h9) n x1 x2 hf
set_option maxRecDepth 100000 in
set_option maxHeartbeats 4000000 in
theorem ct_X8_memoryOverTheHill (l : Launch) (D : va_G) (cI cZ cO : ClassId) (a : Nat → Nat) {u : VS} {r : Int32} (hf : f_X8_memoryOverTheHill u = some r) : Ct l yX8_memoryOverTheHill (uw (Cond.code yX8_memoryOverTheHill cX8_memoryOverTheHill 4 (some .int))) rmX8_memoryOverTheHill D (tyL cI cZ cO) E0 [.ref (a 0)] (wV cI cZ cO a u) (some (.int r)) (wV cI cZ cO a u) := by
  refine sm_start (cc := cX8_memoryOverTheHill) (maxL := 4) (ret := (some .int)) (own := RX8) (by decide) rfl rfl (Nat.le_of_ble_eq_true rfl) (lv := [(0, .ref (a 0))]) rfl ?_
  intro p e s m below meth c A F hE hA
  unfold f_X8_memoryOverTheHill at hf
  refine sm_iconst F dX8_memoryOverTheHill_0 kc_i_0 ?_
  refine sm_istore_n F [(0, .ref (a 0)), (1, .int (0 : Int32))] [1, 0] dX8_memoryOverTheHill_1 rfl (by decide) rfl ?_
  refine sm_iconst F dX8_memoryOverTheHill_2 kc_i_0 ?_
  refine sm_istore_n F [(0, .ref (a 0)), (1, .int (0 : Int32)), (2, .int (0 : Int32))] [1, 2, 0] dX8_memoryOverTheHill_3 rfl (by decide) rfl ?_
  exact s_X8_memoryOverTheHill_4 F u smN (0 : Int32) (0 : Int32) hf
