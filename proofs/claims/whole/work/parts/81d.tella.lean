set_option maxRecDepth 100000 in
theorem qw1_96 : Cond.fieldLink RX7 103 "SoManyForgotten$Valley" "people" "I" ∈ LW := lwm (tb1 (List.mem_of_getElem? (i := 96) (by decide +kernel))) rfl
set_option maxRecDepth 100000 in
theorem qw2_157 : Cond.methodLink RX7 108 yX8_comes ∈ LW := lwm (tb2 (List.mem_of_getElem? (i := 157) (by decide +kernel))) rfl
set_option maxRecDepth 100000 in
theorem qw2_158 : Cond.instanceMethod yX8_comes ∈ LW := lwm (tb2 (List.mem_of_getElem? (i := 158) (by decide +kernel))) rfl
set_option maxRecDepth 100000 in
theorem qw2_159 : Cond.selects RX8 yX8_comes yX8_comes ∈ LW := lwm (tb2 (List.mem_of_getElem? (i := 159) (by decide +kernel))) rfl
set_option maxRecDepth 100000 in
theorem qw2_16 : Cond.methodLink RX7 33 yJ0_length_8abf5 ∈ LW := lwm (tb2 (List.mem_of_getElem? (i := 16) (by decide +kernel))) rfl
set_option maxRecDepth 100000 in
theorem qw2_160 : Cond.code yX8_comes cX8_comes 5 none ∈ LW := lwm (tb2 (List.mem_of_getElem? (i := 160) (by decide +kernel))) rfl
set_option maxRecDepth 100000 in
theorem qw2_26 : Cond.methodLink RX7 38 yX7_shapeOf ∈ LW := lwm (tb2 (List.mem_of_getElem? (i := 26) (by decide +kernel))) rfl
set_option maxRecDepth 100000 in
theorem qw2_27 : Cond.static yX7_shapeOf ∈ LW := lwm (tb2 (List.mem_of_getElem? (i := 27) (by decide +kernel))) rfl
set_option maxRecDepth 100000 in
theorem qw2_28 : Cond.code yX7_shapeOf cX7_shapeOf 1 (some (.object "java/lang/String")) ∈ LW := lwm (tb2 (List.mem_of_getElem? (i := 28) (by decide +kernel))) rfl
set_option maxRecDepth 100000 in
theorem qw2_36 : Cond.methodLink RX7 42 yJ0_isEmpty_aae02 ∈ LW := lwm (tb2 (List.mem_of_getElem? (i := 36) (by decide +kernel))) rfl
set_option maxRecDepth 100000 in
theorem qw2_37 : Cond.instanceMethod yJ0_isEmpty_aae02 ∈ LW := lwm (tb2 (List.mem_of_getElem? (i := 37) (by decide +kernel))) rfl
set_option maxRecDepth 100000 in
theorem qw2_38 : Cond.selects RJ0 yJ0_isEmpty_aae02 yJ0_isEmpty_aae02 ∈ LW := lwm (tb2 (List.mem_of_getElem? (i := 38) (by decide +kernel))) rfl
set_option maxRecDepth 100000 in
theorem qw2_39 : Cond.code yJ0_isEmpty_aae02 cJ0_isEmpty_aae02 1 (some .boolean) ∈ LW := lwm (tb2 (List.mem_of_getElem? (i := 39) (by decide +kernel))) rfl
set_option maxRecDepth 100000 in
theorem qw2_40 : Cond.methodLink RX7 46 yJ0_charAt_5068e ∈ LW := lwm (tb2 (List.mem_of_getElem? (i := 40) (by decide +kernel))) rfl
set_option maxRecDepth 100000 in
theorem qw2_41 : Cond.instanceMethod yJ0_charAt_5068e ∈ LW := lwm (tb2 (List.mem_of_getElem? (i := 41) (by decide +kernel))) rfl
set_option maxRecDepth 100000 in
theorem qw2_42 : Cond.selects RJ0 yJ0_charAt_5068e yJ0_charAt_5068e ∈ LW := lwm (tb2 (List.mem_of_getElem? (i := 42) (by decide +kernel))) rfl
set_option maxRecDepth 100000 in
theorem qw2_43 : Cond.code yJ0_charAt_5068e cJ0_charAt_5068e 2 (some .char) ∈ LW := lwm (tb2 (List.mem_of_getElem? (i := 43) (by decide +kernel))) rfl
set_option maxRecDepth 100000 in
theorem qw2_78 : Cond.methodLink RX7 50 yX7_fits ∈ LW := lwm (tb2 (List.mem_of_getElem? (i := 78) (by decide +kernel))) rfl
set_option maxRecDepth 100000 in
theorem qw2_79 : Cond.static yX7_fits ∈ LW := lwm (tb2 (List.mem_of_getElem? (i := 79) (by decide +kernel))) rfl
set_option maxRecDepth 100000 in
theorem qw2_80 : Cond.code yX7_fits cX7_fits 2 (some .boolean) ∈ LW := lwm (tb2 (List.mem_of_getElem? (i := 80) (by decide +kernel))) rfl
set_option maxRecDepth 100000 in
theorem qw2_82 : Cond.methodLink RX7 70 yJ0_indexOf_0f7a4 ∈ LW := lwm (tb2 (List.mem_of_getElem? (i := 82) (by decide +kernel))) rfl
set_option maxRecDepth 100000 in
theorem qw2_83 : Cond.instanceMethod yJ0_indexOf_0f7a4 ∈ LW := lwm (tb2 (List.mem_of_getElem? (i := 83) (by decide +kernel))) rfl
set_option maxRecDepth 100000 in
theorem qw2_84 : Cond.selects RJ0 yJ0_indexOf_0f7a4 yJ0_indexOf_0f7a4 ∈ LW := lwm (tb2 (List.mem_of_getElem? (i := 84) (by decide +kernel))) rfl
set_option maxRecDepth 100000 in
theorem qw2_85 : Cond.code yJ0_indexOf_0f7a4 cJ0_indexOf_0f7a4 2 (some .int) ∈ LW := lwm (tb2 (List.mem_of_getElem? (i := 85) (by decide +kernel))) rfl
abbrev rmX7_shapeOf : Room := { frames := 0, cells := 0, slots := 0, locals := 0 }
set_option maxRecDepth 100000 in
theorem hsX7_shapeOf : yX7_shapeOf.cls ≠ "java/lang/invoke/MethodHandle" ∧ yX7_shapeOf.cls ≠ "java/lang/invoke/VarHandle" ∧ (parseMethodDescriptor yX7_shapeOf.desc).map (fun d => d.parameters.length) = some 1 := by decide +kernel
set_option maxRecDepth 100000 in
set_option maxHeartbeats 4000000 in
theorem ct_X7_shapeOf (l : Launch) (D : va_G) (tys : List (ClassId × FieldType)) (adK adV : Nat → Nat) (zf : Option Nat) {x0 : Int32} {k : Nat} (hf : f_X7_shapeOf x0 = some k) : Ct l yX7_shapeOf (uw (Cond.code yX7_shapeOf cX7_shapeOf 1 (some (.object "java/lang/String")))) rmX7_shapeOf D tys (ES adK adV zf []) [.int x0] [] (some (.ref (adK k))) [] := by
  refine sm_start (cc := cX7_shapeOf) (maxL := 1) (ret := (some (.object "java/lang/String"))) (own := RX7) (by decide) rfl rfl (Nat.le_of_ble_eq_true rfl) (lv := [(0, .int x0)]) rfl ?_
  intro p e s m below meth c A F hE hA
  unfold f_X7_shapeOf at hf
  refine sm_iload_n F dX7_shapeOf_0 rfl 0 rfl ?_
  by_cases w1_98 : x0 = 98
  · replace hf := if_t w1_98 hf
    refine sm_tableIn (off := 115) (tgt := 116) F dX7_shapeOf_1 (by rw [w1_98]; decide) (by rw [w1_98]; decide) (by rw [w1_98]; rfl) (by decide) ?_
    refine sm_ldcS F (hE.2 5 (by decide)) dX7_shapeOf_116 ?_
    exact sm_aret F dX7_shapeOf_118 (congrArg adK (Option.some.inj hf)) rfl
  replace hf := if_f w1_98 hf
  by_cases w1_110 : x0 = 110
  · replace hf := if_t w1_110 hf
    refine sm_tableIn (off := 118) (tgt := 119) F dX7_shapeOf_1 (by rw [w1_110]; decide) (by rw [w1_110]; decide) (by rw [w1_110]; rfl) (by decide) ?_
    refine sm_ldcS F (hE.2 6 (by decide)) dX7_shapeOf_119 ?_
    exact sm_aret F dX7_shapeOf_121 (congrArg adK (Option.some.inj hf)) rfl
  replace hf := if_f w1_110 hf
  by_cases w1_111 : x0 = 111
  · replace hf := if_t w1_111 hf
    refine sm_tableIn (off := 109) (tgt := 110) F dX7_shapeOf_1 (by rw [w1_111]; decide) (by rw [w1_111]; decide) (by rw [w1_111]; rfl) (by decide) ?_
    refine sm_ldcS F (hE.2 3 (by decide)) dX7_shapeOf_110 ?_
    exact sm_aret F dX7_shapeOf_112 (congrArg adK (Option.some.inj hf)) rfl
  replace hf := if_f w1_111 hf
  by_cases w1_112 : x0 = 112
  · replace hf := if_t w1_112 hf
    refine sm_tableIn (off := 103) (tgt := 104) F dX7_shapeOf_1 (by rw [w1_112]; decide) (by rw [w1_112]; decide) (by rw [w1_112]; rfl) (by decide) ?_
    refine sm_ldcS F (hE.2 1 (by decide)) dX7_shapeOf_104 ?_
    exact sm_aret F dX7_shapeOf_106 (congrArg adK (Option.some.inj hf)) rfl
  replace hf := if_f w1_112 hf
  by_cases w1_114 : x0 = 114
  · replace hf := if_t w1_114 hf
    refine sm_tableIn (off := 106) (tgt := 107) F dX7_shapeOf_1 (by rw [w1_114]; decide) (by rw [w1_114]; decide) (by rw [w1_114]; rfl) (by decide) ?_
    refine sm_ldcS F (hE.2 2 (by decide)) dX7_shapeOf_107 ?_
    exact sm_aret F dX7_shapeOf_109 (congrArg adK (Option.some.inj hf)) rfl
  replace hf := if_f w1_114 hf
  by_cases w1_115 : x0 = 115
  · replace hf := if_t w1_115 hf
    refine sm_tableIn (off := 112) (tgt := 113) F dX7_shapeOf_1 (by rw [w1_115]; decide) (by rw [w1_115]; decide) (by rw [w1_115]; rfl) (by decide) ?_
    refine sm_ldcS F (hE.2 4 (by decide)) dX7_shapeOf_113 ?_
    exact sm_aret F dX7_shapeOf_115 (congrArg adK (Option.some.inj hf)) rfl
  replace hf := if_f w1_115 hf
  by_cases w1_119 : x0 = 119
  · replace hf := if_t w1_119 hf
    refine sm_tableIn (off := 121) (tgt := 122) F dX7_shapeOf_1 (by rw [w1_119]; decide) (by rw [w1_119]; decide) (by rw [w1_119]; rfl) (by decide) ?_
    refine sm_ldcS F (hE.2 7 (by decide)) dX7_shapeOf_122 ?_
    exact sm_aret F dX7_shapeOf_124 (congrArg adK (Option.some.inj hf)) rfl
  replace hf := if_f w1_119 hf
  have e1_98 := lv_neT w1_98 (a := 98) rfl
  have e1_110 := lv_neT w1_110 (a := 110) rfl
  have e1_111 := lv_neT w1_111 (a := 111) rfl
  have e1_112 := lv_neT w1_112 (a := 112) rfl
  have e1_114 := lv_neT w1_114 (a := 114) rfl
  have e1_115 := lv_neT w1_115 (a := 115) rfl
  have e1_119 := lv_neT w1_119 (a := 119) rfl
  have T1 : ∀ i : Nat, i < 22 → (#[115, 124, 124, 124, 124, 124, 124, 124, 124, 124, 124, 124, 118, 109, 103, 124, 106, 112, 124, 124, 124, 121] : Array Int)[i]? = some 124 ∨ i ∈ ([0, 12, 13, 14, 16, 17, 21] : List Nat) := by decide
  refine sm_tableX (tgt := 125) F dX7_shapeOf_1 (by decide) (fun i hi hx => (T1 i hi).elim id (fun q => by simp only [List.mem_cons, List.not_mem_nil, or_false] at q; exfalso; omega)) (by decide) ?_
  refine sm_ldcS F (hE.2 0 (by decide)) dX7_shapeOf_125 ?_
  exact sm_aret F dX7_shapeOf_127 (congrArg adK (Option.some.inj hf)) rfl
abbrev rmX7_fits : Room := { frames := 7, cells := 0, slots := 0, locals := 230 }
set_option maxRecDepth 100000 in
theorem hsX7_fits : yX7_fits.cls ≠ "java/lang/invoke/MethodHandle" ∧ yX7_fits.cls ≠ "java/lang/invoke/VarHandle" ∧ (parseMethodDescriptor yX7_fits.desc).map (fun d => d.parameters.length) = some 2 := by decide +kernel
theorem lk_48 : Op.lookupswitch.offset [(48, 43), (107, 27)] 61 (48 : Int32).toInt = 43 := by decide
theorem lk_107 : Op.lookupswitch.offset [(48, 43), (107, 27)] 61 (107 : Int32).toInt = 27 := by decide
theorem lk_no {x : Int32} (h1 : ¬ x = 48) (h2 : ¬ x = 107) : Op.lookupswitch.offset [(48, 43), (107, 27)] 61 x.toInt = 61 := by
  have e1 := lv_neT h1 (a := 48) rfl
  have e2 := lv_neT h2 (a := 107) rfl
  simp [Op.lookupswitch.offset, e1, e2, Ne.symm e1, Ne.symm e2]
set_option maxRecDepth 100000 in
set_option maxHeartbeats 4000000 in
theorem ct_X7_fits (l : Launch) (D : va_G) (tys : List (ClassId × FieldType)) (adK adV : Nat → Nat) (zf : Option Nat) {x0 x1 r : Int32} (hf : f_X7_fits x0 x1 = some r) : Ct l yX7_fits (uw (Cond.code yX7_fits cX7_fits 2 (some .boolean))) rmX7_fits D tys (ES adK adV zf []) [.int x0, .int x1] [] (some (.int r)) [] := by
  refine sm_start (cc := cX7_fits) (maxL := 2) (ret := (some .boolean)) (own := RX7) (by decide) rfl rfl (Nat.le_of_ble_eq_true rfl) (lv := [(0, .int x0), (1, .int x1)]) rfl ?_
  intro p e s m below meth c A F hE hA
  have hS := ES_at hE hA
  unfold f_X7_fits at hf
  refine sm_iload_n F dX7_fits_0 rfl 1 rfl ?_
  by_cases w1 : x1 = 48
  · replace hf := if_t w1 hf
    refine sm_lookup (off := 43) (tgt := 44) F dX7_fits_1 (by decide) (by rw [w1]; exact lk_48) (by decide) ?_
    refine sm_iload_n F dX7_fits_44 rfl 0 rfl ?_
    refine sm_bipush F dX7_fits_45 kc_b_48 ?_
    refine sm_icmp_lt (tgt := 60) F dX7_fits_47 (by decide) (fun c1 => ?_) (fun c1 => ?_)
    · replace hf := if_t c1 hf
      refine sm_iconst F dX7_fits_60 kc_i_0 ?_
      exact sm_zret F dX7_fits_61 rfl (Option.some.inj hf) rfl
    · replace hf := if_f c1 hf
      refine sm_iload_n F dX7_fits_50 rfl 0 rfl ?_
      refine sm_bipush F dX7_fits_51 kc_b_57 ?_
      refine sm_icmp_gt (tgt := 60) F dX7_fits_53 (by decide) (fun c2 => ?_) (fun c2 => ?_)
      · replace hf := if_t c2 hf
        refine sm_iconst F dX7_fits_60 kc_i_0 ?_
        exact sm_zret F dX7_fits_61 rfl (Option.some.inj hf) rfl
      · replace hf := if_f c2 hf
        refine sm_iconst F dX7_fits_56 kc_i_1 ?_
        refine sm_goto (tgt := 61) F dX7_fits_57 (by decide) ?_
        exact sm_zret F dX7_fits_61 rfl (Option.some.inj hf) rfl
  replace hf := if_f w1 hf
  by_cases w2 : x1 = 107
  · replace hf := if_t w2 hf
    refine sm_lookup (off := 27) (tgt := 28) F dX7_fits_1 (by decide) (by rw [w2]; exact lk_107) (by decide) ?_
    refine sm_ldcS F (hE.2 8 (by decide)) dX7_fits_28 ?_
    refine sm_iload_n F dX7_fits_30 rfl 0 rfl ?_
    refine sm_i2c F dX7_fits_31 ?_
    refine sm_callT (rest := []) F (ct_J0_indexOf_0f7a4 l D tys adK adV zf (k := i2cV x0)) cut_N_none rfl rfl rfl qw2_82 qw2_83 qw2_84 qw1_14 qw2_85 hvJ0_indexOf_0f7a4 ⟨Nat.le_of_ble_eq_true rfl, Nat.le_of_ble_eq_true rfl⟩ ⟨Nat.zero_le _, Nat.zero_le _⟩ (SE_rec hS (show 8 < 9 by decide)) rfl (Nat.le_of_ble_eq_true rfl) ES_b (ES_w hS hE.2 F.2.2.1 ES_n) rfl dX7_fits_32 [.int (kix (i2cV x0))] rfl ?_
    refine sm_if_lt (tgt := 42) F dX7_fits_35 (by decide) (fun c1 => ?_) (fun c1 => ?_)
    · replace hf := if_t c1 hf
      refine sm_iconst F dX7_fits_42 kc_i_0 ?_
      exact sm_zret F dX7_fits_43 rfl (Option.some.inj hf) rfl
    · replace hf := if_f c1 hf
      refine sm_iconst F dX7_fits_38 kc_i_1 ?_
      refine sm_goto (tgt := 43) F dX7_fits_39 (by decide) ?_
      exact sm_zret F dX7_fits_43 rfl (Option.some.inj hf) rfl
  replace hf := if_f w2 hf
  refine sm_lookup (off := 61) (tgt := 62) F dX7_fits_1 (by decide) (lk_no w1 w2) (by decide) ?_
  refine sm_iload_n F dX7_fits_62 rfl 0 rfl ?_
  refine sm_iload_n F dX7_fits_63 rfl 1 rfl ?_
  refine sm_icmp_ne (tgt := 71) F dX7_fits_64 (by decide) (fun c1 => ?_) (fun c1 => ?_)
  · replace hf := if_f c1 hf
    refine sm_iconst F dX7_fits_71 kc_i_0 ?_
    exact sm_zret F dX7_fits_72 rfl (Option.some.inj hf) rfl
  · replace hf := if_t c1 hf
    refine sm_iconst F dX7_fits_67 kc_i_1 ?_
    refine sm_goto (tgt := 72) F dX7_fits_68 (by decide) ?_
    exact sm_zret F dX7_fits_72 rfl (Option.some.inj hf) rfl
abbrev rmX7_firstWrongLetter : Room := { frames := 8, cells := 0, slots := 0, locals := 251 }
set_option maxRecDepth 100000 in
theorem hvX7_firstWrongLetter : yX7_firstWrongLetter.cls = RX7 ∧ yX7_firstWrongLetter.cls ≠ "java/lang/invoke/MethodHandle" ∧ yX7_firstWrongLetter.cls ≠ "java/lang/invoke/VarHandle" ∧ (parseMethodDescriptor yX7_firstWrongLetter.desc).map (fun d => d.parameters.length) = some 0 := by decide +kernel
set_option maxRecDepth 100000 in
set_option maxHeartbeats 4000000 in
theorem s_X7_firstWrongLetter_35 {p : Program} {l : Launch} {e : Env} {s : State} {m : MethodId} {args : Array Value} {below : List Frame} {meth : Method} {c : Code} {A : Nat → Prop} {D : va_G} {cI cZ cO : ClassId} {a : Nat → Nat} {adK adV : Nat → Nat} {zf : Option Nat} {u : TS} {r : Int32} (F : smF p s m args meth c cX7_firstWrongLetter 4 (some .int) RX7 D (tyL cI cZ cO) A) (hE : EA adK adV zf A a 2 s) (k7 : Nat → Int32 → Int32 → Option Int32) (hk7 : ∀ (k : Nat) (x2 x3 : Int32), k7 k x2 x3 = some r → k < 9 → Sm p l e rmX7_firstWrongLetter s m args below meth c D A 4 0 0 (smQ below args s D A (some (.int r)) (wT cI cZ cO a u)) 7 [(0, .ref (a 0)), (1, .ref (adK k)), (2, .int x2), (3, .int x3)] [] (wT cI cZ cO a u)) (k : Nat) (x2 x3 : Int32) (hk : k < 9) (hf : f_X7_firstWrongLetter_35 u k7 k x2 x3 = some r) : Sm p l e rmX7_firstWrongLetter s m args below meth c D A 4 0 0 (smQ below args s D A (some (.int r)) (wT cI cZ cO a u)) 35 [(0, .ref (a 0)), (1, .ref (adK k)), (2, .int x2), (3, .int x3)] [] (wT cI cZ cO a u) := by
  unfold f_X7_firstWrongLetter_35 at hf
  have hS := hE.1
  have h6 := (ln_6 k hk).1
  refine sm_aload_n F dX7_firstWrongLetter_35 rfl 1 rfl ?_
  refine sm_callT (rest := []) F (ct_J0_isEmpty_aae02 l D (tyL cI cZ cO) adK adV zf hk) (cut_T_none cI cZ cO a u) rfl rfl rfl qw2_36 qw2_37 qw2_38 qw1_14 qw2_39 hvJ0_isEmpty_aae02 ⟨Nat.le_of_ble_eq_true rfl, Nat.le_of_ble_eq_true rfl⟩ ⟨Nat.zero_le _, Nat.zero_le _⟩ (SE_rec hS hk) rfl (Nat.le_of_ble_eq_true rfl) ES_b (EA_w hE F.2.2.1 EA_n) rfl dX7_firstWrongLetter_36 [.int (if lnS k = 0 then 1 else 0)] rfl ?_
  by_cases w0 : lnS k = 0
  · replace hf := if_t w0 hf
    refine sm_if_ne (tgt := 59) F dX7_firstWrongLetter_39 (by decide) (fun _ => ?_) (fun c39 => absurd c39 (by rw [if_pos w0]; decide))
    refine sm_iload_n F dX7_firstWrongLetter_59 rfl 3 rfl ?_
    exact sm_iret F dX7_firstWrongLetter_60 (Option.some.inj hf) rfl
  · replace hf := if_f w0 hf
    refine sm_if_ne (tgt := 59) F dX7_firstWrongLetter_39 (by decide) (fun c39 => absurd (by rw [if_neg w0]) c39) (fun _ => ?_)
    obtain ⟨h47, hf⟩ := ck_some hf
    obtain ⟨h50, hf⟩ := ck_some hf
    obtain ⟨z53, hz53, hf⟩ := bd_some hf
    obtain ⟨j, hj, rfl⟩ : ∃ j, j < lnS k ∧ x2 = nI j := by
      obtain ⟨j, hj, rfl⟩ := nI_of (fun z => h50 (Or.inl z))
      refine ⟨j, ?_, rfl⟩
      rcases Nat.lt_or_ge j (lnS k) with z | z
      · exact z
      · exact absurd (Or.inr (by rw [icl hj]; exact z)) h50
    rw [icl (by omega)] at hz53
    refine sm_aload_n F dX7_firstWrongLetter_42 rfl 0 rfl ?_
    refine sm_get (v := .ref (a 1)) F inX7 0 rfl rfl 0 (by decide) qw1_161 rfl rfl dX7_firstWrongLetter_43 ?_
    refine sm_iload_n F dX7_firstWrongLetter_46 rfl 3 rfl ?_
    refine sm_iald F 1 0 rfl rfl h47 dX7_firstWrongLetter_47 ?_
    refine sm_aload_n F dX7_firstWrongLetter_48 rfl 1 rfl ?_
    refine sm_iload_n F dX7_firstWrongLetter_49 rfl 2 rfl ?_
    refine sm_callT (rest := [.int (gT_let u (Int32.toNatClampNeg x3))]) F (ct_J0_charAt_5068e l D (tyL cI cZ cO) adK adV zf hk hj) (cut_T_none cI cZ cO a u) rfl rfl rfl qw2_40 qw2_41 qw2_42 qw1_14 qw2_43 hvJ0_charAt_5068e ⟨Nat.le_of_ble_eq_true rfl, Nat.le_of_ble_eq_true rfl⟩ ⟨Nat.zero_le _, Nat.zero_le _⟩ (SE_rec hS hk) rfl (Nat.le_of_ble_eq_true rfl) ES_b (EA_w hE F.2.2.1 EA_n) rfl dX7_firstWrongLetter_50 [.int (chS k j), .int (gT_let u (Int32.toNatClampNeg x3))] rfl ?_
    refine sm_callS (rest := []) F (ct_X7_fits l D (tyL cI cZ cO) adK adV zf hz53) (cut_T_none cI cZ cO a u) rfl rfl rfl qw2_78 qw2_79 qw1_10 qw2_80 hsX7_fits ⟨Nat.le_of_ble_eq_true rfl, Nat.le_of_ble_eq_true rfl⟩ ⟨Nat.zero_le _, Nat.zero_le _⟩ rfl (Nat.le_of_ble_eq_true rfl) ES_b (EA_w hE F.2.2.1 EA_n) rfl dX7_firstWrongLetter_53 [.int z53] rfl ?_
    refine sm_if_ne (tgt := 61) F dX7_firstWrongLetter_56 (by decide) (fun c56 => ?_) (fun c56 => ?_)
    · replace hf := if_f c56 hf
      refine sm_iinc F [(0, .ref (a 0)), (1, .ref (adK k)), (2, .int (nI j + 1)), (3, .int x3)] 2 [1, 2, 0, 3] dX7_firstWrongLetter_61 rfl kc_i_1 (by decide) rfl ?_
      refine sm_iinc F [(0, .ref (a 0)), (1, .ref (adK k)), (2, .int (nI j + 1)), (3, .int (x3 + 1))] 3 [1, 2, 3, 0] dX7_firstWrongLetter_64 rfl kc_i_1 (by decide) rfl ?_
      refine sm_goto (tgt := 7) F dX7_firstWrongLetter_67 (by decide) ?_
      exact hk7 k (nI j + 1) (x3 + 1) hf hk
    · replace hf := if_t c56 hf
      refine sm_iload_n F dX7_firstWrongLetter_59 rfl 3 rfl ?_
      exact sm_iret F dX7_firstWrongLetter_60 (Option.some.inj hf) rfl
set_option maxRecDepth 100000 in
set_option maxHeartbeats 4000000 in
theorem s_X7_firstWrongLetter_7_b {p : Program} {l : Launch} {e : Env} {s : State} {m : MethodId} {args : Array Value} {below : List Frame} {meth : Method} {c : Code} {A : Nat → Prop} {D : va_G} {cI cZ cO : ClassId} {a : Nat → Nat} {adK adV : Nat → Nat} {zf : Option Nat} {u : TS} {r : Int32} (F : smF p s m args meth c cX7_firstWrongLetter 4 (some .int) RX7 D (tyL cI cZ cO) A) (hE : EA adK adV zf A a 2 s) (k7 : Nat → Int32 → Int32 → Option Int32) (hk7 : ∀ (k : Nat) (x2 x3 : Int32), k7 k x2 x3 = some r → k < 9 → Sm p l e rmX7_firstWrongLetter s m args below meth c D A 4 0 0 (smQ below args s D A (some (.int r)) (wT cI cZ cO a u)) 7 [(0, .ref (a 0)), (1, .ref (adK k)), (2, .int x2), (3, .int x3)] [] (wT cI cZ cO a u)) (k : Nat) (x2 x3 : Int32) (hk : k < 9) (hf : b_X7_firstWrongLetter_7 u k7 k x2 x3 = some r) : Sm p l e rmX7_firstWrongLetter s m args below meth c D A 4 0 0 (smQ below args s D A (some (.int r)) (wT cI cZ cO a u)) 7 [(0, .ref (a 0)), (1, .ref (adK k)), (2, .int x2), (3, .int x3)] [] (wT cI cZ cO a u) := by
  unfold b_X7_firstWrongLetter_7 at hf
  have hS := hE.1
  refine sm_iload_n F dX7_firstWrongLetter_7 rfl 3 rfl ?_
  refine sm_aload_n F dX7_firstWrongLetter_8 rfl 0 rfl ?_
  refine sm_get (v := .int (gT_size u)) F inX7 0 rfl rfl 1 (by decide) qw1_162 rfl rfl dX7_firstWrongLetter_9 ?_
  refine sm_icmp_ge (tgt := 70) F dX7_firstWrongLetter_12 (by decide) (fun c12 => ?_) (fun c12 => ?_)
  · replace hf := if_t c12 hf
    refine sm_aload_n F dX7_firstWrongLetter_70 rfl 0 rfl ?_
    refine sm_get (v := .int (gT_size u)) F inX7 0 rfl rfl 1 (by decide) qw1_162 rfl rfl dX7_firstWrongLetter_71 ?_
    refine sm_if_le (tgt := 90) F dX7_firstWrongLetter_74 (by decide) (fun c74 => ?_) (fun c74 => ?_)
    · replace hf := if_t c74 hf
      refine sm_aload_n F dX7_firstWrongLetter_90 rfl 0 rfl ?_
      refine sm_get (v := .int (gT_size u)) F inX7 0 rfl rfl 1 (by decide) qw1_162 rfl rfl dX7_firstWrongLetter_91 ?_
      exact sm_iret F dX7_firstWrongLetter_94 (Option.some.inj hf) rfl
    · replace hf := if_f c74 hf
      refine sm_iload_n F dX7_firstWrongLetter_77 rfl 2 rfl ?_
      refine sm_aload_n F dX7_firstWrongLetter_78 rfl 1 rfl ?_
      refine sm_callT (rest := [.int x2]) F (ct_J0_length_8abf5 l D (tyL cI cZ cO) adK adV zf hk) (cut_T_none cI cZ cO a u) rfl rfl rfl qw2_16 qw2_17 qw2_18 qw1_14 qw2_19 hvJ0_length_8abf5 ⟨Nat.le_of_ble_eq_true rfl, Nat.le_of_ble_eq_true rfl⟩ ⟨Nat.zero_le _, Nat.zero_le _⟩ (SE_rec hS hk) rfl (Nat.le_of_ble_eq_true rfl) ES_b (EA_w hE F.2.2.1 EA_n) rfl dX7_firstWrongLetter_79 [.int (nI (lnS k)), .int x2] rfl ?_
      refine sm_icmp_ne (tgt := 90) F dX7_firstWrongLetter_82 (by decide) (fun c82 => ?_) (fun c82 => ?_)
      · replace hf := if_f c82 hf
        refine sm_aload_n F dX7_firstWrongLetter_90 rfl 0 rfl ?_
        refine sm_get (v := .int (gT_size u)) F inX7 0 rfl rfl 1 (by decide) qw1_162 rfl rfl dX7_firstWrongLetter_91 ?_
        exact sm_iret F dX7_firstWrongLetter_94 (Option.some.inj hf) rfl
      · replace hf := if_t c82 hf
        refine sm_bipush F dX7_firstWrongLetter_85 kc_b_m9 ?_
        refine sm_goto (tgt := 94) F dX7_firstWrongLetter_87 (by decide) ?_
        exact sm_iret F dX7_firstWrongLetter_94 (Option.some.inj hf) rfl
  · replace hf := if_f c12 hf
    refine sm_iload_n F dX7_firstWrongLetter_15 rfl 2 rfl ?_
    refine sm_aload_n F dX7_firstWrongLetter_16 rfl 1 rfl ?_
    refine sm_callT (rest := [.int x2]) F (ct_J0_length_8abf5 l D (tyL cI cZ cO) adK adV zf hk) (cut_T_none cI cZ cO a u) rfl rfl rfl qw2_16 qw2_17 qw2_18 qw1_14 qw2_19 hvJ0_length_8abf5 ⟨Nat.le_of_ble_eq_true rfl, Nat.le_of_ble_eq_true rfl⟩ ⟨Nat.zero_le _, Nat.zero_le _⟩ (SE_rec hS hk) rfl (Nat.le_of_ble_eq_true rfl) ES_b (EA_w hE F.2.2.1 EA_n) rfl dX7_firstWrongLetter_17 [.int (nI (lnS k)), .int x2] rfl ?_
    refine sm_icmp_lt (tgt := 35) F dX7_firstWrongLetter_20 (by decide) (fun c20 => ?_) (fun c20 => ?_)
    · replace hf := if_t c20 hf
      exact s_X7_firstWrongLetter_35 F hE k7 hk7 k x2 x3 hk hf
    · replace hf := if_f c20 hf
      obtain ⟨h28, hf⟩ := ck_some hf
      obtain ⟨z29, hz29, hf⟩ := bd_some hf
      have hz9 : z29 < 9 := by
        have h8 := shI_8 (gT_let u (Int32.toNatClampNeg x3))
        rw [sh_X] at hz29
        have := Option.some.inj hz29
        omega
      refine sm_aload_n F dX7_firstWrongLetter_23 rfl 0 rfl ?_
      refine sm_get (v := .ref (a 1)) F inX7 0 rfl rfl 0 (by decide) qw1_161 rfl rfl dX7_firstWrongLetter_24 ?_
      refine sm_iload_n F dX7_firstWrongLetter_27 rfl 3 rfl ?_
      refine sm_iald F 1 0 rfl rfl h28 dX7_firstWrongLetter_28 ?_
      refine sm_callS (rest := []) F (ct_X7_shapeOf l D (tyL cI cZ cO) adK adV zf hz29) (cut_T_none cI cZ cO a u) rfl rfl rfl qw2_26 qw2_27 qw1_10 qw2_28 hsX7_shapeOf ⟨Nat.le_of_ble_eq_true rfl, Nat.le_of_ble_eq_true rfl⟩ ⟨Nat.zero_le _, Nat.zero_le _⟩ rfl (Nat.le_of_ble_eq_true rfl) ES_b (EA_w hE F.2.2.1 EA_n) rfl dX7_firstWrongLetter_29 [.ref (adK z29)] rfl ?_
      refine sm_astore_n F [(0, .ref (a 0)), (1, .ref (adK z29)), (2, .int x2), (3, .int x3)] [1, 0, 2, 3] dX7_firstWrongLetter_32 rfl (by decide) rfl ?_
      refine sm_iconst F dX7_firstWrongLetter_33 kc_i_0 ?_
      refine sm_istore_n F [(0, .ref (a 0)), (1, .ref (adK z29)), (2, .int (0 : Int32)), (3, .int x3)] [1, 2, 0, 3] dX7_firstWrongLetter_34 rfl (by decide) rfl ?_
      exact s_X7_firstWrongLetter_35 F hE k7 hk7 z29 (0 : Int32) x3 hz9 hf
set_option maxRecDepth 100000 in
set_option maxHeartbeats 4000000 in
theorem s_X7_firstWrongLetter_7 {p : Program} {l : Launch} {e : Env} {s : State} {m : MethodId} {args : Array Value} {below : List Frame} {meth : Method} {c : Code} {A : Nat → Prop} {D : va_G} {cI cZ cO : ClassId} {a : Nat → Nat} {adK adV : Nat → Nat} {zf : Option Nat} {u : TS} {r : Int32} (F : smF p s m args meth c cX7_firstWrongLetter 4 (some .int) RX7 D (tyL cI cZ cO) A) (hE : EA adK adV zf A a 2 s) (n : Nat) (k : Nat) (x2 x3 : Int32) (hf : f_X7_firstWrongLetter_7 u n k x2 x3 = some r) : k < 9 → Sm p l e rmX7_firstWrongLetter s m args below meth c D A 4 0 0 (smQ below args s D A (some (.int r)) (wT cI cZ cO a u)) 7 [(0, .ref (a 0)), (1, .ref (adK k)), (2, .int x2), (3, .int x3)] [] (wT cI cZ cO a u) :=
  lq3_ind (P := fun (k : Nat) (x2 : Int32) (x3 : Int32) => k < 9 → Sm p l e rmX7_firstWrongLetter s m args below meth c D A 4 0 0 (smQ below args s D A (some (.int r)) (wT cI cZ cO a u)) 7 [(0, .ref (a 0)), (1, .ref (adK k)), (2, .int x2), (3, .int x3)] [] (wT cI cZ cO a u)) (fun k7 hk7 k x2 x3 h9 hk => s_X7_firstWrongLetter_7_b F hE k7 hk7 k x2 x3 hk h9) n k x2 x3 hf
set_option maxRecDepth 100000 in
set_option maxHeartbeats 4000000 in
theorem ct_X7_firstWrongLetter (l : Launch) (D : va_G) (cI cZ cO : ClassId) (a : Nat → Nat) (adK adV : Nat → Nat) (zf : Option Nat) {u : TS} {r : Int32} (hf : f_X7_firstWrongLetter u = some r) : Ct l yX7_firstWrongLetter (uw (Cond.code yX7_firstWrongLetter cX7_firstWrongLetter 4 (some .int))) rmX7_firstWrongLetter D (tyL cI cZ cO) (ES adK adV zf (wT cI cZ cO a u)) [.ref (a 0)] (wT cI cZ cO a u) (some (.int r)) (wT cI cZ cO a u) := by
  refine sm_start (cc := cX7_firstWrongLetter) (maxL := 4) (ret := (some .int)) (own := RX7) (by decide) rfl rfl (Nat.le_of_ble_eq_true rfl) (lv := [(0, .ref (a 0))]) rfl ?_
  intro p e s m below meth c A F hE hA
  have hE := T_EA hE hA
  unfold f_X7_firstWrongLetter at hf
  refine sm_ldcS F (hE.2.1 0 (by decide)) dX7_firstWrongLetter_0 ?_
  refine sm_astore_n F [(0, .ref (a 0)), (1, .ref (adK 0))] [1, 0] dX7_firstWrongLetter_2 rfl (by decide) rfl ?_
  refine sm_iconst F dX7_firstWrongLetter_3 kc_i_0 ?_
  refine sm_istore_n F [(0, .ref (a 0)), (1, .ref (adK 0)), (2, .int (0 : Int32))] [1, 2, 0] dX7_firstWrongLetter_4 rfl (by decide) rfl ?_
  refine sm_iconst F dX7_firstWrongLetter_5 kc_i_0 ?_
  refine sm_istore_n F [(0, .ref (a 0)), (1, .ref (adK 0)), (2, .int (0 : Int32)), (3, .int (0 : Int32))] [1, 2, 3, 0] dX7_firstWrongLetter_6 rfl (by decide) rfl ?_
  exact s_X7_firstWrongLetter_7 F hE smN 0 (0 : Int32) (0 : Int32) hf (by decide)
abbrev rmX7_carryOutPerson : Room := { frames := 7, cells := 0, slots := 0, locals := 230 }
set_option maxRecDepth 100000 in
theorem hvX7_carryOutPerson : yX7_carryOutPerson.cls = RX7 ∧ yX7_carryOutPerson.cls ≠ "java/lang/invoke/MethodHandle" ∧ yX7_carryOutPerson.cls ≠ "java/lang/invoke/VarHandle" ∧ (parseMethodDescriptor yX7_carryOutPerson.desc).map (fun d => d.parameters.length) = some 2 := by decide +kernel
set_option maxRecDepth 100000 in
set_option maxHeartbeats 4000000 in
theorem s_X7_carryOutPerson_29 {p : Program} {l : Launch} {e : Env} {s : State} {m : MethodId} {args : Array Value} {below : List Frame} {meth : Method} {c : Code} {A : Nat → Prop} {D : va_G} {cI cZ cO : ClassId} {a : Nat → Nat} {u : TS × VS} {r : Int32} {o : TS × VS} (F : smF p s m args meth c cX7_carryOutPerson 4 (some .boolean) RX7 D (tyL cI cZ cO) A) (x2 : Int32) (y0 : Int32) (hf : f_X7_carryOutPerson_29 x2 u y0 = some (r, o)) : Sm p l e rmX7_carryOutPerson s m args below meth c D A 4 0 0 (smQ below args s D A (some (.int r)) (wTV cI cZ cO a o)) 29 [(0, .ref (a 0)), (1, .ref (a 2)), (2, .int x2)] [.int y0] (wTV cI cZ cO a u) := by
  unfold f_X7_carryOutPerson_29 at hf
  refine sm_istore_n F [(0, .ref (a 0)), (1, .ref (a 2)), (2, .int x2), (3, .int y0)] [1, 2, 3, 0] dX7_carryOutPerson_29 rfl (by decide) rfl ?_
  refine sm_iload_n F dX7_carryOutPerson_30 rfl 3 rfl ?_
  refine sm_if_lt (tgt := 43) F dX7_carryOutPerson_31 (by decide) (fun c31 => ?_) (fun c31 => ?_)
  · replace hf := if_t c31 hf
    refine sm_iconst F dX7_carryOutPerson_43 kc_i_0 ?_
    exact sm_zret F dX7_carryOutPerson_44 rfl (Prod.mk.inj (Option.some.inj hf)).1 (congrArg (fun z => (wTV cI cZ cO a z)) (Prod.mk.inj (Option.some.inj hf)).2)
  · replace hf := if_f c31 hf
    refine sm_aload_n F dX7_carryOutPerson_34 rfl 1 rfl ?_
    refine sm_get (v := .int (gV_people u.2)) F inX8 2 rfl rfl 6 (by decide) qw1_96 rfl rfl dX7_carryOutPerson_35 ?_
    refine sm_bipush F dX7_carryOutPerson_38 kc_b_8 ?_
    refine sm_icmp_lt (tgt := 45) F dX7_carryOutPerson_40 (by decide) (fun c40 => ?_) (fun c40 => ?_)
    · replace hf := if_t c40 hf
      refine sm_aload_n F dX7_carryOutPerson_45 rfl 1 rfl ?_
      refine sm_iload_n F dX7_carryOutPerson_46 rfl 3 rfl ?_
      refine sm_aload_n F dX7_carryOutPerson_47 rfl 0 rfl ?_
      refine sm_iload_n F dX7_carryOutPerson_48 rfl 2 rfl ?_
      refine sm_iconst F dX7_carryOutPerson_49 kc_i_2 ?_
      refine sm_iadd F dX7_carryOutPerson_50 ?_
      obtain ⟨z51, hz51, hf⟩ := bd_some hf
      refine sm_callV (rest := [.int y0, .ref (a 2)]) F (ct_X7_digit l D cI cZ cO (fun i => a (pm_TV_t i)) hz51) (cut_TV_t_ro cI cZ cO a u) rfl rfl rfl qw2_153 qw2_155 qw0_6 qw1_10 qw2_156 hvX7_digit ⟨Nat.le_of_ble_eq_true rfl, Nat.le_of_ble_eq_true rfl⟩ ⟨Nat.zero_le _, Nat.zero_le _⟩ 0 7 rfl rfl rfl rfl (Nat.le_of_ble_eq_true rfl) E0_b (fun _ _ _ _ _ _ => trivial) rfl dX7_carryOutPerson_51 [.int z51, .int y0, .ref (a 2)] rfl ?_
      obtain ⟨z54, hz54, hf⟩ := bd_some hf
      refine sm_callV (rest := []) F (ct_X8_comes l D cI cZ cO (fun i => a (pm_TV_v2 i)) hz54) (cut_TV_v2 cI cZ cO a u z54) rfl rfl rfl qw2_157 qw2_158 qw2_159 qw1_8 qw2_160 hvX8_comes ⟨Nat.le_of_ble_eq_true rfl, Nat.le_of_ble_eq_true rfl⟩ ⟨Nat.zero_le _, Nat.zero_le _⟩ 0 8 rfl rfl rfl rfl (Nat.le_of_ble_eq_true rfl) E0_b (fun _ _ _ _ _ _ => trivial) rfl dX7_carryOutPerson_54 [] rfl ?_
      refine sm_iconst F dX7_carryOutPerson_57 kc_i_1 ?_
      exact sm_zret F dX7_carryOutPerson_58 rfl (Prod.mk.inj (Option.some.inj hf)).1 (congrArg (fun z => (wTV cI cZ cO a z)) (Prod.mk.inj (Option.some.inj hf)).2)
    · replace hf := if_f c40 hf
      refine sm_iconst F dX7_carryOutPerson_43 kc_i_0 ?_
      exact sm_zret F dX7_carryOutPerson_44 rfl (Prod.mk.inj (Option.some.inj hf)).1 (congrArg (fun z => (wTV cI cZ cO a z)) (Prod.mk.inj (Option.some.inj hf)).2)
set_option maxRecDepth 100000 in
set_option maxHeartbeats 4000000 in
theorem ct_X7_carryOutPerson (l : Launch) (D : va_G) (cI cZ cO : ClassId) (a : Nat → Nat) (adK adV : Nat → Nat) (zf : Option Nat) {u : TS × VS} {x2 : Int32} {r : Int32} {o : TS × VS} (hf : f_X7_carryOutPerson u x2 = some (r, o)) : Ct l yX7_carryOutPerson (uw (Cond.code yX7_carryOutPerson cX7_carryOutPerson 4 (some .boolean))) rmX7_carryOutPerson D (tyL cI cZ cO) (ES adK adV zf (wTV cI cZ cO a u)) [.ref (a 0), .ref (a 2), .int x2] (wTV cI cZ cO a u) (some (.int r)) (wTV cI cZ cO a o) := by
  refine sm_start (cc := cX7_carryOutPerson) (maxL := 4) (ret := (some .boolean)) (own := RX7) (by decide) rfl rfl (Nat.le_of_ble_eq_true rfl) (lv := [(0, .ref (a 0)), (1, .ref (a 2)), (2, .int x2)]) rfl ?_
  intro p e s m below meth c A F hE hA
  have hE := TV_EA hE hA
  have hS := hE.1
  unfold f_X7_carryOutPerson at hf
  refine sm_iload_n F dX7_carryOutPerson_0 rfl 2 rfl ?_
  refine sm_iconst F dX7_carryOutPerson_1 kc_i_1 ?_
  refine sm_iadd F dX7_carryOutPerson_2 ?_
  refine sm_aload_n F dX7_carryOutPerson_3 rfl 0 rfl ?_
  refine sm_get (v := .int (gT_size u.1)) F inX7 0 rfl rfl 1 (by decide) qw1_162 rfl rfl dX7_carryOutPerson_4 ?_
  refine sm_icmp_ge (tgt := 27) F dX7_carryOutPerson_7 (by decide) (fun c7 => ?_) (fun c7 => ?_)
  · replace hf := if_t c7 hf
    refine sm_bipush F dX7_carryOutPerson_27 kc_b_m9 ?_
    exact s_X7_carryOutPerson_29 F x2 (-9) hf
  · replace hf := if_f c7 hf
    obtain ⟨h19, hf⟩ := ck_some hf
    refine sm_ldcS F (hE.2.1 8 (by decide)) dX7_carryOutPerson_10 ?_
    refine sm_aload_n F dX7_carryOutPerson_12 rfl 0 rfl ?_
    refine sm_get (v := .ref (a 1)) F inX7 0 rfl rfl 0 (by decide) qw1_161 rfl rfl dX7_carryOutPerson_13 ?_
    refine sm_iload_n F dX7_carryOutPerson_16 rfl 2 rfl ?_
    refine sm_iconst F dX7_carryOutPerson_17 kc_i_1 ?_
    refine sm_iadd F dX7_carryOutPerson_18 ?_
    refine sm_iald F 1 0 rfl rfl h19 dX7_carryOutPerson_19 ?_
    refine sm_i2c F dX7_carryOutPerson_20 ?_
    refine sm_callT (rest := []) F (ct_J0_indexOf_0f7a4 l D (tyL cI cZ cO) adK adV zf (k := i2cV (gT_let u.1 (Int32.toNatClampNeg (x2 + (1 : Int32)))))) (cut_TV_none cI cZ cO a u) rfl rfl rfl qw2_82 qw2_83 qw2_84 qw1_14 qw2_85 hvJ0_indexOf_0f7a4 ⟨Nat.le_of_ble_eq_true rfl, Nat.le_of_ble_eq_true rfl⟩ ⟨Nat.zero_le _, Nat.zero_le _⟩ (SE_rec hS (show 8 < 9 by decide)) rfl (Nat.le_of_ble_eq_true rfl) ES_b (EA_w hE F.2.2.1 EA_n) rfl dX7_carryOutPerson_21 [.int (kix (i2cV (gT_let u.1 (Int32.toNatClampNeg (x2 + (1 : Int32))))))] rfl ?_
    refine sm_goto (tgt := 29) F dX7_carryOutPerson_24 (by decide) ?_
    exact s_X7_carryOutPerson_29 F x2 _ hf
