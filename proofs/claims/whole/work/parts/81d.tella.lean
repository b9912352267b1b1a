set_option maxRecDepth 100000 in
theorem qw2_82 : Cond.methodLink RX7 70 yJ0_indexOf_0f7a4 ∈ LW := lwm (tb2 (List.mem_of_getElem? (i := 82) (by decide +kernel))) rfl
set_option maxRecDepth 100000 in
theorem qw2_83 : Cond.instanceMethod yJ0_indexOf_0f7a4 ∈ LW := lwm (tb2 (List.mem_of_getElem? (i := 83) (by decide +kernel))) rfl
set_option maxRecDepth 100000 in
theorem qw2_84 : Cond.selects RJ0 yJ0_indexOf_0f7a4 yJ0_indexOf_0f7a4 ∈ LW := lwm (tb2 (List.mem_of_getElem? (i := 84) (by decide +kernel))) rfl
set_option maxRecDepth 100000 in
theorem qw2_85 : Cond.code yJ0_indexOf_0f7a4 cJ0_indexOf_0f7a4 2 (some .int) ∈ LW := lwm (tb2 (List.mem_of_getElem? (i := 85) (by decide +kernel))) rfl
abbrev rmX7_shapeOf : Room := { frames := 0, cells := 0, slots := 0, locals := 0 }
set_option maxRecDepth 100000 in
theorem hsX7_shapeOf : yX7_shapeOf.cls ≠ "java/lang/invoke/MethodHandle" ∧ yX7_shapeOf.cls ≠ "java/lang/invoke/VarHandle" ∧ (parseMethodDescriptor yX7_shapeOf.desc).map (fun d => d.parameters.length) = some 1 := by decide +kernel
set_option maxRecDepth 100000 in
set_option maxHeartbeats 4000000 in
theorem ct_X7_shapeOf (l : Launch) (D : va_G) (tys : List (ClassId × FieldType)) (adK adV : Nat → Nat) (zf : Nat) {x0 : Int32} {k : Nat} (hf : f_X7_shapeOf x0 = some k) : Ct l yX7_shapeOf (uw (Cond.code yX7_shapeOf cX7_shapeOf 1 (some (.object "java/lang/String")))) rmX7_shapeOf D tys (ES adK adV zf []) [.int x0] [] (some (.ref (adK k))) [] := by
  refine sm_start (cc := cX7_shapeOf) (maxL := 1) (ret := (some (.object "java/lang/String"))) (own := RX7) (by decide) rfl rfl (Nat.le_of_ble_eq_true rfl) (lv := [(0, .int x0)]) rfl ?_
  intro p e s m below meth c A F hE hA
  unfold f_X7_shapeOf at hf
  refine sm_iload_n F dX7_shapeOf_0 rfl 0 rfl ?_
  by_cases w1_98 : x0 = 98
  · replace hf := if_t w1_98 hf
    refine sm_tableIn (off := 115) (tgt := 116) F dX7_shapeOf_1 (by rw [w1_98]; decide) (by rw [w1_98]; decide) (by rw [w1_98]; rfl) (by decide) ?_
    refine sm_ldcS F (hE.2 5 (by decide)) dX7_shapeOf_116 ?_
    exact sm_aret F dX7_shapeOf_118 (congrArg adK (Option.some.inj hf)) rfl
  replace hf := if_f w1_98 hf
  by_cases w1_110 : x0 = 110
  · replace hf := if_t w1_110 hf
    refine sm_tableIn (off := 118) (tgt := 119) F dX7_shapeOf_1 (by rw [w1_110]; decide) (by rw [w1_110]; decide) (by rw [w1_110]; rfl) (by decide) ?_
    refine sm_ldcS F (hE.2 6 (by decide)) dX7_shapeOf_119 ?_
    exact sm_aret F dX7_shapeOf_121 (congrArg adK (Option.some.inj hf)) rfl
  replace hf := if_f w1_110 hf
  by_cases w1_111 : x0 = 111
  · replace hf := if_t w1_111 hf
    refine sm_tableIn (off := 109) (tgt := 110) F dX7_shapeOf_1 (by rw [w1_111]; decide) (by rw [w1_111]; decide) (by rw [w1_111]; rfl) (by decide) ?_
    refine sm_ldcS F (hE.2 3 (by decide)) dX7_shapeOf_110 ?_
    exact sm_aret F dX7_shapeOf_112 (congrArg adK (Option.some.inj hf)) rfl
  replace hf := if_f w1_111 hf
  by_cases w1_112 : x0 = 112
  · replace hf := if_t w1_112 hf
    refine sm_tableIn (off := 103) (tgt := 104) F dX7_shapeOf_1 (by rw [w1_112]; decide) (by rw [w1_112]; decide) (by rw [w1_112]; rfl) (by decide) ?_
    refine sm_ldcS F (hE.2 1 (by decide)) dX7_shapeOf_104 ?_
    exact sm_aret F dX7_shapeOf_106 (congrArg adK (Option.some.inj hf)) rfl
  replace hf := if_f w1_112 hf
  by_cases w1_114 : x0 = 114
  · replace hf := if_t w1_114 hf
    refine sm_tableIn (off := 106) (tgt := 107) F dX7_shapeOf_1 (by rw [w1_114]; decide) (by rw [w1_114]; decide) (by rw [w1_114]; rfl) (by decide) ?_
    refine sm_ldcS F (hE.2 2 (by decide)) dX7_shapeOf_107 ?_
    exact sm_aret F dX7_shapeOf_109 (congrArg adK (Option.some.inj hf)) rfl
  replace hf := if_f w1_114 hf
  by_cases w1_115 : x0 = 115
  · replace hf := if_t w1_115 hf
    refine sm_tableIn (off := 112) (tgt := 113) F dX7_shapeOf_1 (by rw [w1_115]; decide) (by rw [w1_115]; decide) (by rw [w1_115]; rfl) (by decide) ?_
    refine sm_ldcS F (hE.2 4 (by decide)) dX7_shapeOf_113 ?_
    exact sm_aret F dX7_shapeOf_115 (congrArg adK (Option.some.inj hf)) rfl
  replace hf := if_f w1_115 hf
  by_cases w1_119 : x0 = 119
  · replace hf := if_t w1_119 hf
    refine sm_tableIn (off := 121) (tgt := 122) F dX7_shapeOf_1 (by rw [w1_119]; decide) (by rw [w1_119]; decide) (by rw [w1_119]; rfl) (by decide) ?_
    refine sm_ldcS F (hE.2 7 (by decide)) dX7_shapeOf_122 ?_
    exact sm_aret F dX7_shapeOf_124 (congrArg adK (Option.some.inj hf)) rfl
  replace hf := if_f w1_119 hf
  have e1_98 := lv_neT w1_98 (a := 98) rfl
  have e1_110 := lv_neT w1_110 (a := 110) rfl
  have e1_111 := lv_neT w1_111 (a := 111) rfl
  have e1_112 := lv_neT w1_112 (a := 112) rfl
  have e1_114 := lv_neT w1_114 (a := 114) rfl
  have e1_115 := lv_neT w1_115 (a := 115) rfl
  have e1_119 := lv_neT w1_119 (a := 119) rfl
  have T1 : ∀ i : Nat, i < 22 → (#[115, 124, 124, 124, 124, 124, 124, 124, 124, 124, 124, 124, 118, 109, 103, 124, 106, 112, 124, 124, 124, 121] : Array Int)[i]? = some 124 ∨ i ∈ ([0, 12, 13, 14, 16, 17, 21] : List Nat) := by decide
  refine sm_tableX (tgt := 125) F dX7_shapeOf_1 (by decide) (fun i hi hx => (T1 i hi).elim id (fun q => by simp only [List.mem_cons, List.not_mem_nil, or_false] at q; exfalso; omega)) (by decide) ?_
  refine sm_ldcS F (hE.2 0 (by decide)) dX7_shapeOf_125 ?_
  exact sm_aret F dX7_shapeOf_127 (congrArg adK (Option.some.inj hf)) rfl
abbrev rmX7_fits : Room := { frames := 7, cells := 0, slots := 0, locals := 230 }
set_option maxRecDepth 100000 in
theorem hsX7_fits : yX7_fits.cls ≠ "java/lang/invoke/MethodHandle" ∧ yX7_fits.cls ≠ "java/lang/invoke/VarHandle" ∧ (parseMethodDescriptor yX7_fits.desc).map (fun d => d.parameters.length) = some 2 := by decide +kernel
theorem lk_48 : Op.lookupswitch.offset [(48, 43), (107, 27)] 61 (48 : Int32).toInt = 43 := by decide
theorem lk_107 : Op.lookupswitch.offset [(48, 43), (107, 27)] 61 (107 : Int32).toInt = 27 := by decide
theorem lk_no {x : Int32} (h1 : ¬ x = 48) (h2 : ¬ x = 107) : Op.lookupswitch.offset [(48, 43), (107, 27)] 61 x.toInt = 61 := by
  have e1 := lv_neT h1 (a := 48) rfl
  have e2 := lv_neT h2 (a := 107) rfl
  simp [Op.lookupswitch.offset, e1, e2, Ne.symm e1, Ne.symm e2]
set_option maxRecDepth 100000 in
set_option maxHeartbeats 4000000 in
theorem ct_X7_fits (l : Launch) (D : va_G) (tys : List (ClassId × FieldType)) (adK adV : Nat → Nat) (zf : Nat) {x0 x1 r : Int32} (hf : f_X7_fits x0 x1 = some r) : Ct l yX7_fits (uw (Cond.code yX7_fits cX7_fits 2 (some .boolean))) rmX7_fits D tys (ES adK adV zf []) [.int x0, .int x1] [] (some (.int r)) [] := by
  refine sm_start (cc := cX7_fits) (maxL := 2) (ret := (some .boolean)) (own := RX7) (by decide) rfl rfl (Nat.le_of_ble_eq_true rfl) (lv := [(0, .int x0), (1, .int x1)]) rfl ?_
  intro p e s m below meth c A F hE hA
  have hS := ES_at hE hA
  unfold f_X7_fits at hf
  refine sm_iload_n F dX7_fits_0 rfl 1 rfl ?_
  by_cases w1 : x1 = 48
  · replace hf := if_t w1 hf
    refine sm_lookup (off := 43) (tgt := 44) F dX7_fits_1 (by decide) (by rw [w1]; exact lk_48) (by decide) ?_
    refine sm_iload_n F dX7_fits_44 rfl 0 rfl ?_
    refine sm_bipush F dX7_fits_45 kc_b_48 ?_
    refine sm_icmp_lt (tgt := 60) F dX7_fits_47 (by decide) (fun c1 => ?_) (fun c1 => ?_)
    · replace hf := if_t c1 hf
      refine sm_iconst F dX7_fits_60 kc_i_0 ?_
      exact sm_zret F dX7_fits_61 rfl (Option.some.inj hf) rfl
    · replace hf := if_f c1 hf
      refine sm_iload_n F dX7_fits_50 rfl 0 rfl ?_
      refine sm_bipush F dX7_fits_51 kc_b_57 ?_
      refine sm_icmp_gt (tgt := 60) F dX7_fits_53 (by decide) (fun c2 => ?_) (fun c2 => ?_)
      · replace hf := if_t c2 hf
        refine sm_iconst F dX7_fits_60 kc_i_0 ?_
        exact sm_zret F dX7_fits_61 rfl (Option.some.inj hf) rfl
      · replace hf := if_f c2 hf
        refine sm_iconst F dX7_fits_56 kc_i_1 ?_
        refine sm_goto (tgt := 61) F dX7_fits_57 (by decide) ?_
        exact sm_zret F dX7_fits_61 rfl (Option.some.inj hf) rfl
  replace hf := if_f w1 hf
  by_cases w2 : x1 = 107
  · replace hf := if_t w2 hf
    refine sm_lookup (off := 27) (tgt := 28) F dX7_fits_1 (by decide) (by rw [w2]; exact lk_107) (by decide) ?_
    refine sm_ldcS F (hE.2 8 (by decide)) dX7_fits_28 ?_
    refine sm_iload_n F dX7_fits_30 rfl 0 rfl ?_
    refine sm_i2c F dX7_fits_31 ?_
    refine sm_callT (rest := []) F (ct_J0_indexOf_0f7a4 l D tys adK adV zf (k := i2cV x0)) cut_N_none rfl rfl rfl qw2_82 qw2_83 qw2_84 qw1_14 qw2_85 hvJ0_indexOf_0f7a4 ⟨Nat.le_of_ble_eq_true rfl, Nat.le_of_ble_eq_true rfl⟩ ⟨Nat.zero_le _, Nat.zero_le _⟩ (SE_rec hS (show 8 < 9 by decide)) rfl (Nat.le_of_ble_eq_true rfl) ES_b (ES_w hS hE.2 F.2.2.1 ES_n) rfl dX7_fits_32 [.int (kix (i2cV x0))] rfl ?_
    refine sm_if_lt (tgt := 42) F dX7_fits_35 (by decide) (fun c1 => ?_) (fun c1 => ?_)
    · replace hf := if_t c1 hf
      refine sm_iconst F dX7_fits_42 kc_i_0 ?_
      exact sm_zret F dX7_fits_43 rfl (Option.some.inj hf) rfl
    · replace hf := if_f c1 hf
      refine sm_iconst F dX7_fits_38 kc_i_1 ?_
      refine sm_goto (tgt := 43) F dX7_fits_39 (by decide) ?_
      exact sm_zret F dX7_fits_43 rfl (Option.some.inj hf) rfl
  replace hf := if_f w2 hf
  refine sm_lookup (off := 61) (tgt := 62) F dX7_fits_1 (by decide) (lk_no w1 w2) (by decide) ?_
  refine sm_iload_n F dX7_fits_62 rfl 0 rfl ?_
  refine sm_iload_n F dX7_fits_63 rfl 1 rfl ?_
  refine sm_icmp_ne (tgt := 71) F dX7_fits_64 (by decide) (fun c1 => ?_) (fun c1 => ?_)
  · replace hf := if_f c1 hf
    refine sm_iconst F dX7_fits_71 kc_i_0 ?_
    exact sm_zret F dX7_fits_72 rfl (Option.some.inj hf) rfl
  · replace hf := if_t c1 hf
    refine sm_iconst F dX7_fits_67 kc_i_1 ?_
    refine sm_goto (tgt := 72) F dX7_fits_68 (by decide) ?_
    exact sm_zret F dX7_fits_72 rfl (Option.some.inj hf) rfl
