set_option maxRecDepth 100000 in
theorem qw1_14 : Cond.initialized RJ0 ∈ LW := lwm (tb1 (List.mem_of_getElem? (i := 14) (by decide +kernel))) rfl
set_option maxRecDepth 100000 in
theorem qw1_15 : Cond.initialized RJ1 ∈ LW := lwm (tb1 (List.mem_of_getElem? (i := 15) (by decide +kernel))) rfl
set_option maxRecDepth 100000 in
theorem qw1_16 : Cond.initialized RJ3 ∈ LW := lwm (tb1 (List.mem_of_getElem? (i := 16) (by decide +kernel))) rfl
set_option maxRecDepth 100000 in
theorem qw2_100 : Cond.methodLink RJ1 38 Lib.Math.min.name ∈ LW := lwm (tb2 (List.mem_of_getElem? (i := 100) (by decide +kernel))) rfl
set_option maxRecDepth 100000 in
theorem qw2_103 : Cond.methodLink RJ1 95 yJ1_indexOfChar_4cfef ∈ LW := lwm (tb2 (List.mem_of_getElem? (i := 103) (by decide +kernel))) rfl
set_option maxRecDepth 100000 in
theorem qw2_104 : Cond.static yJ1_indexOfChar_4cfef ∈ LW := lwm (tb2 (List.mem_of_getElem? (i := 104) (by decide +kernel))) rfl
set_option maxRecDepth 100000 in
theorem qw2_105 : Cond.code yJ1_indexOfChar_4cfef cJ1_indexOfChar_4cfef 6 (some .int) ∈ LW := lwm (tb2 (List.mem_of_getElem? (i := 105) (by decide +kernel))) rfl
set_option maxRecDepth 100000 in
theorem qw2_17 : Cond.instanceMethod yJ0_length_8abf5 ∈ LW := lwm (tb2 (List.mem_of_getElem? (i := 17) (by decide +kernel))) rfl
set_option maxRecDepth 100000 in
theorem qw2_18 : Cond.selects RJ0 yJ0_length_8abf5 yJ0_length_8abf5 ∈ LW := lwm (tb2 (List.mem_of_getElem? (i := 18) (by decide +kernel))) rfl
set_option maxRecDepth 100000 in
theorem qw2_19 : Cond.code yJ0_length_8abf5 cJ0_length_8abf5 1 (some .int) ∈ LW := lwm (tb2 (List.mem_of_getElem? (i := 19) (by decide +kernel))) rfl
set_option maxRecDepth 100000 in
theorem qw2_20 : Cond.methodLink RJ0 335 yJ0_coder_7d493 ∈ LW := lwm (tb2 (List.mem_of_getElem? (i := 20) (by decide +kernel))) rfl
set_option maxRecDepth 100000 in
theorem qw2_21 : Cond.instanceMethod yJ0_coder_7d493 ∈ LW := lwm (tb2 (List.mem_of_getElem? (i := 21) (by decide +kernel))) rfl
set_option maxRecDepth 100000 in
theorem qw2_22 : Cond.selects RJ0 yJ0_coder_7d493 yJ0_coder_7d493 ∈ LW := lwm (tb2 (List.mem_of_getElem? (i := 22) (by decide +kernel))) rfl
set_option maxRecDepth 100000 in
theorem qw2_23 : Cond.code yJ0_coder_7d493 cJ0_coder_7d493 1 (some .byte) ∈ LW := lwm (tb2 (List.mem_of_getElem? (i := 23) (by decide +kernel))) rfl
set_option maxRecDepth 100000 in
theorem qw2_24 : Cond.fieldLink RJ0 38 "java/lang/String" "COMPACT_STRINGS" "Z" ∈ LW := lwm (tb2 (List.mem_of_getElem? (i := 24) (by decide +kernel))) rfl
set_option maxRecDepth 100000 in
theorem qw2_44 : Cond.methodLink RJ0 492 yJ0_isLatin1_aae02 ∈ LW := lwm (tb2 (List.mem_of_getElem? (i := 44) (by decide +kernel))) rfl
set_option maxRecDepth 100000 in
theorem qw2_45 : Cond.instanceMethod yJ0_isLatin1_aae02 ∈ LW := lwm (tb2 (List.mem_of_getElem? (i := 45) (by decide +kernel))) rfl
set_option maxRecDepth 100000 in
theorem qw2_46 : Cond.selects RJ0 yJ0_isLatin1_aae02 yJ0_isLatin1_aae02 ∈ LW := lwm (tb2 (List.mem_of_getElem? (i := 46) (by decide +kernel))) rfl
set_option maxRecDepth 100000 in
theorem qw2_47 : Cond.code yJ0_isLatin1_aae02 cJ0_isLatin1_aae02 1 (some .boolean) ∈ LW := lwm (tb2 (List.mem_of_getElem? (i := 47) (by decide +kernel))) rfl
set_option maxRecDepth 100000 in
theorem qw2_48 : Cond.methodLink RJ0 495 yJ1_charAt_3b067 ∈ LW := lwm (tb2 (List.mem_of_getElem? (i := 48) (by decide +kernel))) rfl
set_option maxRecDepth 100000 in
theorem qw2_49 : Cond.static yJ1_charAt_3b067 ∈ LW := lwm (tb2 (List.mem_of_getElem? (i := 49) (by decide +kernel))) rfl
set_option maxRecDepth 100000 in
theorem qw2_50 : Cond.code yJ1_charAt_3b067 cJ1_charAt_3b067 2 (some .char) ∈ LW := lwm (tb2 (List.mem_of_getElem? (i := 50) (by decide +kernel))) rfl
set_option maxRecDepth 100000 in
theorem qw2_51 : Cond.methodLink RJ1 9 yJ0_checkIndex_df160 ∈ LW := lwm (tb2 (List.mem_of_getElem? (i := 51) (by decide +kernel))) rfl
set_option maxRecDepth 100000 in
theorem qw2_52 : Cond.static yJ0_checkIndex_df160 ∈ LW := lwm (tb2 (List.mem_of_getElem? (i := 52) (by decide +kernel))) rfl
set_option maxRecDepth 100000 in
theorem qw2_53 : Cond.code yJ0_checkIndex_df160 cJ0_checkIndex_df160 2 none ∈ LW := lwm (tb2 (List.mem_of_getElem? (i := 53) (by decide +kernel))) rfl
set_option maxRecDepth 100000 in
theorem qw2_54 : Cond.fieldLink RJ0 1053 "jdk/internal/util/Preconditions" "SIOOBE_FORMATTER" "Ljava/util/function/BiFunction;" ∈ LW := lwm (tb2 (List.mem_of_getElem? (i := 54) (by decide +kernel))) rfl
set_option maxRecDepth 100000 in
theorem qw2_56 : Cond.methodLink RJ0 1059 yJ3_checkIndex_8e157 ∈ LW := lwm (tb2 (List.mem_of_getElem? (i := 56) (by decide +kernel))) rfl
set_option maxRecDepth 100000 in
theorem qw2_57 : Cond.static yJ3_checkIndex_8e157 ∈ LW := lwm (tb2 (List.mem_of_getElem? (i := 57) (by decide +kernel))) rfl
set_option maxRecDepth 100000 in
theorem qw2_58 : Cond.code yJ3_checkIndex_8e157 cJ3_checkIndex_8e157 3 (some .int) ∈ LW := lwm (tb2 (List.mem_of_getElem? (i := 58) (by decide +kernel))) rfl
set_option maxRecDepth 100000 in
theorem qw2_86 : Cond.methodLink RJ0 633 yJ0_indexOf_7cf53 ∈ LW := lwm (tb2 (List.mem_of_getElem? (i := 86) (by decide +kernel))) rfl
set_option maxRecDepth 100000 in
theorem qw2_87 : Cond.instanceMethod yJ0_indexOf_7cf53 ∈ LW := lwm (tb2 (List.mem_of_getElem? (i := 87) (by decide +kernel))) rfl
set_option maxRecDepth 100000 in
theorem qw2_88 : Cond.selects RJ0 yJ0_indexOf_7cf53 yJ0_indexOf_7cf53 ∈ LW := lwm (tb2 (List.mem_of_getElem? (i := 88) (by decide +kernel))) rfl
set_option maxRecDepth 100000 in
theorem qw2_89 : Cond.code yJ0_indexOf_7cf53 cJ0_indexOf_7cf53 3 (some .int) ∈ LW := lwm (tb2 (List.mem_of_getElem? (i := 89) (by decide +kernel))) rfl
set_option maxRecDepth 100000 in
theorem qw2_90 : Cond.methodLink RJ0 505 yJ0_length_8abf5 ∈ LW := lwm (tb2 (List.mem_of_getElem? (i := 90) (by decide +kernel))) rfl
set_option maxRecDepth 100000 in
theorem qw2_91 : Cond.methodLink RJ0 637 yJ1_indexOf_4cfef ∈ LW := lwm (tb2 (List.mem_of_getElem? (i := 91) (by decide +kernel))) rfl
set_option maxRecDepth 100000 in
theorem qw2_92 : Cond.static yJ1_indexOf_4cfef ∈ LW := lwm (tb2 (List.mem_of_getElem? (i := 92) (by decide +kernel))) rfl
set_option maxRecDepth 100000 in
theorem qw2_93 : Cond.code yJ1_indexOf_4cfef cJ1_indexOf_4cfef 4 (some .int) ∈ LW := lwm (tb2 (List.mem_of_getElem? (i := 93) (by decide +kernel))) rfl
set_option maxRecDepth 100000 in
theorem qw2_94 : Cond.methodLink RJ1 88 yJ1_canEncode_9a6ad ∈ LW := lwm (tb2 (List.mem_of_getElem? (i := 94) (by decide +kernel))) rfl
set_option maxRecDepth 100000 in
theorem qw2_95 : Cond.static yJ1_canEncode_9a6ad ∈ LW := lwm (tb2 (List.mem_of_getElem? (i := 95) (by decide +kernel))) rfl
set_option maxRecDepth 100000 in
theorem qw2_96 : Cond.code yJ1_canEncode_9a6ad cJ1_canEncode_9a6ad 1 (some .boolean) ∈ LW := lwm (tb2 (List.mem_of_getElem? (i := 96) (by decide +kernel))) rfl
set_option maxRecDepth 100000 in
theorem qw2_97 : Cond.methodLink RJ1 92 Lib.Math.max.name ∈ LW := lwm (tb2 (List.mem_of_getElem? (i := 97) (by decide +kernel))) rfl
set_option maxRecDepth 100000 in
theorem qw6_138 : Cond.fieldLink RJ0 9 "java/lang/String" "value" "[B" ∈ LW := lwm (tb6 (List.mem_of_getElem? (i := 138) (by decide +kernel))) rfl
set_option maxRecDepth 100000 in
theorem qw6_139 : Cond.fieldLink RJ0 15 "java/lang/String" "coder" "B" ∈ LW := lwm (tb6 (List.mem_of_getElem? (i := 139) (by decide +kernel))) rfl
abbrev rmJ0_coder_7d493 : Room := { frames := 0, cells := 0, slots := 0, locals := 0 }
set_option maxRecDepth 100000 in
theorem hvJ0_coder_7d493 : yJ0_coder_7d493.cls = RJ0 ∧ yJ0_coder_7d493.cls ≠ "java/lang/invoke/MethodHandle" ∧ yJ0_coder_7d493.cls ≠ "java/lang/invoke/VarHandle" ∧ (parseMethodDescriptor yJ0_coder_7d493.desc).map (fun d => d.parameters.length) = some 0 := by decide +kernel
set_option maxRecDepth 100000 in
set_option maxHeartbeats 4000000 in
theorem ct_J0_coder_7d493 (l : Launch) (D : va_G) (tys : List (ClassId × FieldType)) (adK adV : Nat → Nat) (zf : Option Nat) {i : Nat} (hi : i < 9) : Ct l yJ0_coder_7d493 (uw (Cond.code yJ0_coder_7d493 cJ0_coder_7d493 1 (some .byte))) rmJ0_coder_7d493 D tys (ES adK adV zf []) [.ref (adK i)] [] (some (.int 0)) [] := by
  refine sm_start (cc := cJ0_coder_7d493) (maxL := 1) (ret := (some .byte)) (own := RJ0) (by decide) rfl rfl (Nat.le_of_ble_eq_true rfl) (lv := [(0, .ref (adK i))]) rfl ?_
  intro p e s m below meth c A F hE hA
  have hS := ES_at hE hA
  refine sm_gets F hS.2.1 qw2_24 dJ0_coder_7d493_0 ?_
  refine sm_if_eq (tgt := 13) F dJ0_coder_7d493_3 (by decide) (fun c3 => absurd c3 (by decide)) (fun _ => ?_)
  refine sm_aload_n F dJ0_coder_7d493_6 rfl 0 rfl ?_
  refine sm_getO F (SE_cod hS hi) qw6_139 dJ0_coder_7d493_7 ?_
  refine sm_goto (tgt := 14) F dJ0_coder_7d493_10 (by decide) ?_
  exact sm_nret F dJ0_coder_7d493_14 rfl rfl rfl
abbrev rmJ0_isLatin1_aae02 : Room := { frames := 0, cells := 0, slots := 0, locals := 0 }
set_option maxRecDepth 100000 in
theorem hvJ0_isLatin1_aae02 : yJ0_isLatin1_aae02.cls = RJ0 ∧ yJ0_isLatin1_aae02.cls ≠ "java/lang/invoke/MethodHandle" ∧ yJ0_isLatin1_aae02.cls ≠ "java/lang/invoke/VarHandle" ∧ (parseMethodDescriptor yJ0_isLatin1_aae02.desc).map (fun d => d.parameters.length) = some 0 := by decide +kernel
set_option maxRecDepth 100000 in
set_option maxHeartbeats 4000000 in
theorem ct_J0_isLatin1_aae02 (l : Launch) (D : va_G) (tys : List (ClassId × FieldType)) (adK adV : Nat → Nat) (zf : Option Nat) {i : Nat} (hi : i < 9) : Ct l yJ0_isLatin1_aae02 (uw (Cond.code yJ0_isLatin1_aae02 cJ0_isLatin1_aae02 1 (some .boolean))) rmJ0_isLatin1_aae02 D tys (ES adK adV zf []) [.ref (adK i)] [] (some (.int 1)) [] := by
  refine sm_start (cc := cJ0_isLatin1_aae02) (maxL := 1) (ret := (some .boolean)) (own := RJ0) (by decide) rfl rfl (Nat.le_of_ble_eq_true rfl) (lv := [(0, .ref (adK i))]) rfl ?_
  intro p e s m below meth c A F hE hA
  have hS := ES_at hE hA
  refine sm_gets F hS.2.1 qw2_24 dJ0_isLatin1_aae02_0 ?_
  refine sm_if_eq (tgt := 17) F dJ0_isLatin1_aae02_3 (by decide) (fun c3 => absurd c3 (by decide)) (fun _ => ?_)
  refine sm_aload_n F dJ0_isLatin1_aae02_6 rfl 0 rfl ?_
  refine sm_getO F (SE_cod hS hi) qw6_139 dJ0_isLatin1_aae02_7 ?_
  refine sm_if_ne (tgt := 17) F dJ0_isLatin1_aae02_10 (by decide) (fun c3 => absurd rfl c3) (fun _ => ?_)
  refine sm_iconst F dJ0_isLatin1_aae02_13 kc_i_1 ?_
  refine sm_goto (tgt := 18) F dJ0_isLatin1_aae02_14 (by decide) ?_
  exact sm_nret F dJ0_isLatin1_aae02_18 rfl rfl rfl
theorem shr0 : ∀ i, i < 9 → nI (lnS i) >>> ((0 : Int32) &&& 31) = nI (lnS i) := by decide
abbrev rmJ0_length_8abf5 : Room := { frames := 1, cells := 0, slots := 0, locals := 20 }
set_option maxRecDepth 100000 in
theorem hvJ0_length_8abf5 : yJ0_length_8abf5.cls = RJ0 ∧ yJ0_length_8abf5.cls ≠ "java/lang/invoke/MethodHandle" ∧ yJ0_length_8abf5.cls ≠ "java/lang/invoke/VarHandle" ∧ (parseMethodDescriptor yJ0_length_8abf5.desc).map (fun d => d.parameters.length) = some 0 := by decide +kernel
set_option maxRecDepth 100000 in
set_option maxHeartbeats 4000000 in
theorem ct_J0_length_8abf5 (l : Launch) (D : va_G) (tys : List (ClassId × FieldType)) (adK adV : Nat → Nat) (zf : Option Nat) {i : Nat} (hi : i < 9) : Ct l yJ0_length_8abf5 (uw (Cond.code yJ0_length_8abf5 cJ0_length_8abf5 1 (some .int))) rmJ0_length_8abf5 D tys (ES adK adV zf []) [.ref (adK i)] [] (some (.int (nI (lnS i)))) [] := by
  refine sm_start (cc := cJ0_length_8abf5) (maxL := 1) (ret := (some .int)) (own := RJ0) (by decide) rfl rfl (Nat.le_of_ble_eq_true rfl) (lv := [(0, .ref (adK i))]) rfl ?_
  intro p e s m below meth c A F hE hA
  have hS := ES_at hE hA
  refine sm_aload_n F dJ0_length_8abf5_0 rfl 0 rfl ?_
  refine sm_getO F (SE_val hS hi) qw6_138 dJ0_length_8abf5_1 ?_
  refine sm_tlen F (SE_arr hS hi) dJ0_length_8abf5_4 ?_
  refine sm_aload_n F dJ0_length_8abf5_5 rfl 0 rfl ?_
  refine sm_callT (rest := [.int (nI (lnS i))]) F (ct_J0_coder_7d493 l D tys adK adV zf hi) cut_N_none rfl rfl rfl qw2_20 qw2_21 qw2_22 qw1_14 qw2_23 hvJ0_coder_7d493 ⟨Nat.le_of_ble_eq_true rfl, Nat.le_of_ble_eq_true rfl⟩ ⟨Nat.zero_le _, Nat.zero_le _⟩ (SE_rec hS hi) rfl (Nat.le_of_ble_eq_true rfl) ES_b (ES_w hS hE.2 F.2.2.1 ES_n) rfl dJ0_length_8abf5_6 [.int 0, .int (nI (lnS i))] rfl ?_
  refine sm_ishr F dJ0_length_8abf5_9 ?_
  exact sm_nret F dJ0_length_8abf5_10 rfl (shr0 i hi) rfl
abbrev rmJ0_isEmpty_aae02 : Room := { frames := 0, cells := 0, slots := 0, locals := 0 }
set_option maxRecDepth 100000 in
theorem hvJ0_isEmpty_aae02 : yJ0_isEmpty_aae02.cls = RJ0 ∧ yJ0_isEmpty_aae02.cls ≠ "java/lang/invoke/MethodHandle" ∧ yJ0_isEmpty_aae02.cls ≠ "java/lang/invoke/VarHandle" ∧ (parseMethodDescriptor yJ0_isEmpty_aae02.desc).map (fun d => d.parameters.length) = some 0 := by decide +kernel
set_option maxRecDepth 100000 in
set_option maxHeartbeats 4000000 in
theorem ct_J0_isEmpty_aae02 (l : Launch) (D : va_G) (tys : List (ClassId × FieldType)) (adK adV : Nat → Nat) (zf : Option Nat) {i : Nat} (hi : i < 9) : Ct l yJ0_isEmpty_aae02 (uw (Cond.code yJ0_isEmpty_aae02 cJ0_isEmpty_aae02 1 (some .boolean))) rmJ0_isEmpty_aae02 D tys (ES adK adV zf []) [.ref (adK i)] [] (some (.int (if lnS i = 0 then 1 else 0))) [] := by
  refine sm_start (cc := cJ0_isEmpty_aae02) (maxL := 1) (ret := (some .boolean)) (own := RJ0) (by decide) rfl rfl (Nat.le_of_ble_eq_true rfl) (lv := [(0, .ref (adK i))]) rfl ?_
  intro p e s m below meth c A F hE hA
  have hS := ES_at hE hA
  have h6 := (ln_6 i hi).1
  refine sm_aload_n F dJ0_isEmpty_aae02_0 rfl 0 rfl ?_
  refine sm_getO F (SE_val hS hi) qw6_138 dJ0_isEmpty_aae02_1 ?_
  refine sm_tlen F (SE_arr hS hi) dJ0_isEmpty_aae02_4 ?_
  refine sm_if_ne (tgt := 12) F dJ0_isEmpty_aae02_5 (by decide) (fun c5 => ?_) (fun c5 => ?_)
  · refine sm_iconst F dJ0_isEmpty_aae02_12 kc_i_0 ?_
    exact sm_nret F dJ0_isEmpty_aae02_13 rfl (by rw [if_neg (fun z => c5 (by rw [z]; rfl))]) rfl
  · refine sm_iconst F dJ0_isEmpty_aae02_8 kc_i_1 ?_
    refine sm_goto (tgt := 13) F dJ0_isEmpty_aae02_9 (by decide) ?_
    exact sm_nret F dJ0_isEmpty_aae02_13 rfl (by rw [l0, ieq (by omega) (by omega)] at c5; rw [if_pos c5]) rfl
abbrev rmJ3_checkIndex_8e157 : Room := { frames := 0, cells := 0, slots := 0, locals := 0 }
set_option maxRecDepth 100000 in
theorem hsJ3_checkIndex_8e157 : yJ3_checkIndex_8e157.cls ≠ "java/lang/invoke/MethodHandle" ∧ yJ3_checkIndex_8e157.cls ≠ "java/lang/invoke/VarHandle" ∧ (parseMethodDescriptor yJ3_checkIndex_8e157.desc).map (fun d => d.parameters.length) = some 3 := by decide +kernel
set_option maxRecDepth 100000 in
set_option maxHeartbeats 4000000 in
theorem ct_J3_checkIndex_8e157 (l : Launch) (D : va_G) (tys : List (ClassId × FieldType)) (adK adV : Nat → Nat) (zf : Option Nat) {k n : Int32} (h1 : ¬ k < 0) (h2 : k < n) : Ct l yJ3_checkIndex_8e157 (uw (Cond.code yJ3_checkIndex_8e157 cJ3_checkIndex_8e157 3 (some .int))) rmJ3_checkIndex_8e157 D tys (ES adK adV zf []) [.int k, .int n, va_rf zf] [] (some (.int k)) [] := by
  cases zf with
  | none =>
    refine sm_start (cc := cJ3_checkIndex_8e157) (maxL := 3) (ret := (some .int)) (own := RJ3) (by decide) rfl rfl (Nat.le_of_ble_eq_true rfl) (lv := [(0, .int k), (1, .int n), (2, .null)]) rfl ?_
    intro p e s m below meth c A F hE hA
    refine sm_iload_n F dJ3_checkIndex_8e157_0 rfl 0 rfl ?_
    refine sm_if_lt (tgt := 9) F dJ3_checkIndex_8e157_1 (by decide) (fun c1 => absurd c1 h1) (fun _ => ?_)
    refine sm_iload_n F dJ3_checkIndex_8e157_4 rfl 0 rfl ?_
    refine sm_iload_n F dJ3_checkIndex_8e157_5 rfl 1 rfl ?_
    refine sm_icmp_lt (tgt := 16) F dJ3_checkIndex_8e157_6 (by decide) (fun _ => ?_) (fun c1 => absurd h2 c1)
    refine sm_iload_n F dJ3_checkIndex_8e157_16 rfl 0 rfl ?_
    exact sm_iret F dJ3_checkIndex_8e157_17 rfl rfl
  | some t =>
    refine sm_start (cc := cJ3_checkIndex_8e157) (maxL := 3) (ret := (some .int)) (own := RJ3) (by decide) rfl rfl (Nat.le_of_ble_eq_true rfl) (lv := [(0, .int k), (1, .int n), (2, .ref t)]) rfl ?_
    intro p e s m below meth c A F hE hA
    refine sm_iload_n F dJ3_checkIndex_8e157_0 rfl 0 rfl ?_
    refine sm_if_lt (tgt := 9) F dJ3_checkIndex_8e157_1 (by decide) (fun c1 => absurd c1 h1) (fun _ => ?_)
    refine sm_iload_n F dJ3_checkIndex_8e157_4 rfl 0 rfl ?_
    refine sm_iload_n F dJ3_checkIndex_8e157_5 rfl 1 rfl ?_
    refine sm_icmp_lt (tgt := 16) F dJ3_checkIndex_8e157_6 (by decide) (fun _ => ?_) (fun c1 => absurd h2 c1)
    refine sm_iload_n F dJ3_checkIndex_8e157_16 rfl 0 rfl ?_
    exact sm_iret F dJ3_checkIndex_8e157_17 rfl rfl
abbrev rmJ0_checkIndex_df160 : Room := { frames := 1, cells := 0, slots := 0, locals := 22 }
set_option maxRecDepth 100000 in
theorem hsJ0_checkIndex_df160 : yJ0_checkIndex_df160.cls ≠ "java/lang/invoke/MethodHandle" ∧ yJ0_checkIndex_df160.cls ≠ "java/lang/invoke/VarHandle" ∧ (parseMethodDescriptor yJ0_checkIndex_df160.desc).map (fun d => d.parameters.length) = some 2 := by decide +kernel
set_option maxRecDepth 100000 in
set_option maxHeartbeats 4000000 in
theorem ct_J0_checkIndex_df160 (l : Launch) (D : va_G) (tys : List (ClassId × FieldType)) (adK adV : Nat → Nat) (zf : Option Nat) {k n : Int32} (h1 : ¬ k < 0) (h2 : k < n) : Ct l yJ0_checkIndex_df160 (uw (Cond.code yJ0_checkIndex_df160 cJ0_checkIndex_df160 2 none)) rmJ0_checkIndex_df160 D tys (ES adK adV zf []) [.int k, .int n] [] none [] := by
  refine sm_start (cc := cJ0_checkIndex_df160) (maxL := 2) (ret := none) (own := RJ0) (by decide) rfl rfl (Nat.le_of_ble_eq_true rfl) (lv := [(0, .int k), (1, .int n)]) rfl ?_
  intro p e s m below meth c A F hE hA
  have hS := ES_at hE hA
  refine sm_iload_n F dJ0_checkIndex_df160_0 rfl 0 rfl ?_
  refine sm_iload_n F dJ0_checkIndex_df160_1 rfl 1 rfl ?_
  refine sm_gets F hS.2.2 qw2_54 dJ0_checkIndex_df160_2 ?_
  refine sm_callS (rest := []) F (ct_J3_checkIndex_8e157 l D tys adK adV zf h1 h2) cut_N_none rfl rfl rfl qw2_56 qw2_57 qw1_16 qw2_58 hsJ3_checkIndex_8e157 ⟨Nat.le_of_ble_eq_true rfl, Nat.le_of_ble_eq_true rfl⟩ ⟨Nat.zero_le _, Nat.zero_le _⟩ rfl (Nat.le_of_ble_eq_true rfl) ES_b (ES_w hS hE.2 F.2.2.1 ES_n) rfl dJ0_checkIndex_df160_5 [.int k] rfl ?_
  refine sm_pop F dJ0_checkIndex_df160_8 rfl ?_
  exact sm_vret F dJ0_checkIndex_df160_9 rfl
theorem chrv : ∀ i, i < 9 → ∀ k, k < 6 → (((chS i k &&& 255).toUInt32 % 65536).toInt32 = chS i k ∧ narrow .char (.int ((chS i k &&& 255).toUInt32 % 65536).toInt32) = .int ((chS i k &&& 255).toUInt32 % 65536).toInt32) := by decide +kernel
theorem vpin {k n : Nat} (h : k < n) (hn : n < 2 ^ 31) : vp_in (nI k) n := vp_in_nI h (by omega)
abbrev rmJ1_charAt_3b067 : Room := { frames := 2, cells := 0, slots := 0, locals := 43 }
set_option maxRecDepth 100000 in
theorem hsJ1_charAt_3b067 : yJ1_charAt_3b067.cls ≠ "java/lang/invoke/MethodHandle" ∧ yJ1_charAt_3b067.cls ≠ "java/lang/invoke/VarHandle" ∧ (parseMethodDescriptor yJ1_charAt_3b067.desc).map (fun d => d.parameters.length) = some 2 := by decide +kernel
set_option maxRecDepth 100000 in
set_option maxHeartbeats 4000000 in
theorem ct_J1_charAt_3b067 (l : Launch) (D : va_G) (tys : List (ClassId × FieldType)) (adK adV : Nat → Nat) (zf : Option Nat) {i k : Nat} (hi : i < 9) (hk : k < lnS i) : Ct l yJ1_charAt_3b067 (uw (Cond.code yJ1_charAt_3b067 cJ1_charAt_3b067 2 (some .char))) rmJ1_charAt_3b067 D tys (ES adK adV zf []) [.ref (adV i), .int (nI k)] [] (some (.int (chS i k))) [] := by
  refine sm_start (cc := cJ1_charAt_3b067) (maxL := 2) (ret := (some .char)) (own := RJ1) (by decide) rfl rfl (Nat.le_of_ble_eq_true rfl) (lv := [(0, .ref (adV i)), (1, .int (nI k))]) rfl ?_
  intro p e s m below meth c A F hE hA
  have hS := ES_at hE hA
  have h6 := (ln_6 i hi).1
  have hv := chrv i hi k (by omega)
  refine sm_iload_n F dJ1_charAt_3b067_0 rfl 1 rfl ?_
  refine sm_aload_n F dJ1_charAt_3b067_1 rfl 0 rfl ?_
  refine sm_tlen F (SE_arr hS hi) dJ1_charAt_3b067_2 ?_
  refine sm_callS (rest := []) F (ct_J0_checkIndex_df160 l D tys adK adV zf (nI_pos (by omega)) (by rw [ilt (by omega) (by omega)]; exact hk)) cut_N_none rfl rfl rfl qw2_51 qw2_52 qw1_14 qw2_53 hsJ0_checkIndex_df160 ⟨Nat.le_of_ble_eq_true rfl, Nat.le_of_ble_eq_true rfl⟩ ⟨Nat.zero_le _, Nat.zero_le _⟩ rfl (Nat.le_of_ble_eq_true rfl) ES_b (ES_w hS hE.2 F.2.2.1 ES_n) rfl dJ1_charAt_3b067_3 [] rfl ?_
  refine sm_aload_n F dJ1_charAt_3b067_6 rfl 0 rfl ?_
  refine sm_iload_n F dJ1_charAt_3b067_7 rfl 1 rfl ?_
  refine sm_tb F (SE_arr hS hi) (vpin hk (by omega)) (v := .int (chS i k)) (by rw [icl (by omega)]) dJ1_charAt_3b067_8 ?_
  refine sm_sipush F dJ1_charAt_3b067_9 kc_s_255 ?_
  refine sm_iand F dJ1_charAt_3b067_12 ?_
  refine sm_i2c F dJ1_charAt_3b067_13 ?_
  exact sm_nret F dJ1_charAt_3b067_14 hv.2 hv.1 rfl
abbrev rmJ0_charAt_5068e : Room := { frames := 3, cells := 0, slots := 0, locals := 64 }
set_option maxRecDepth 100000 in
theorem hvJ0_charAt_5068e : yJ0_charAt_5068e.cls = RJ0 ∧ yJ0_charAt_5068e.cls ≠ "java/lang/invoke/MethodHandle" ∧ yJ0_charAt_5068e.cls ≠ "java/lang/invoke/VarHandle" ∧ (parseMethodDescriptor yJ0_charAt_5068e.desc).map (fun d => d.parameters.length) = some 1 := by decide +kernel
set_option maxRecDepth 100000 in
set_option maxHeartbeats 4000000 in
theorem ct_J0_charAt_5068e (l : Launch) (D : va_G) (tys : List (ClassId × FieldType)) (adK adV : Nat → Nat) (zf : Option Nat) {i k : Nat} (hi : i < 9) (hk : k < lnS i) : Ct l yJ0_charAt_5068e (uw (Cond.code yJ0_charAt_5068e cJ0_charAt_5068e 2 (some .char))) rmJ0_charAt_5068e D tys (ES adK adV zf []) [.ref (adK i), .int (nI k)] [] (some (.int (chS i k))) [] := by
  refine sm_start (cc := cJ0_charAt_5068e) (maxL := 2) (ret := (some .char)) (own := RJ0) (by decide) rfl rfl (Nat.le_of_ble_eq_true rfl) (lv := [(0, .ref (adK i)), (1, .int (nI k))]) rfl ?_
  intro p e s m below meth c A F hE hA
  have hS := ES_at hE hA
  have h6 := (ln_6 i hi).1
  have hn : narrow .char (.int (chS i k)) = .int (chS i k) := by have := chrv i hi k (by omega); rw [this.1] at this; exact this.2
  refine sm_aload_n F dJ0_charAt_5068e_0 rfl 0 rfl ?_
  refine sm_callT (rest := []) F (ct_J0_isLatin1_aae02 l D tys adK adV zf hi) cut_N_none rfl rfl rfl qw2_44 qw2_45 qw2_46 qw1_14 qw2_47 hvJ0_isLatin1_aae02 ⟨Nat.le_of_ble_eq_true rfl, Nat.le_of_ble_eq_true rfl⟩ ⟨Nat.zero_le _, Nat.zero_le _⟩ (SE_rec hS hi) rfl (Nat.le_of_ble_eq_true rfl) ES_b (ES_w hS hE.2 F.2.2.1 ES_n) rfl dJ0_charAt_5068e_1 [.int 1] rfl ?_
  refine sm_if_eq (tgt := 16) F dJ0_charAt_5068e_4 (by decide) (fun c3 => absurd c3 (by decide)) (fun _ => ?_)
  refine sm_aload_n F dJ0_charAt_5068e_7 rfl 0 rfl ?_
  refine sm_getO F (SE_val hS hi) qw6_138 dJ0_charAt_5068e_8 ?_
  refine sm_iload_n F dJ0_charAt_5068e_11 rfl 1 rfl ?_
  refine sm_callS (rest := []) F (ct_J1_charAt_3b067 l D tys adK adV zf hi hk) cut_N_none rfl rfl rfl qw2_48 qw2_49 qw1_15 qw2_50 hsJ1_charAt_3b067 ⟨Nat.le_of_ble_eq_true rfl, Nat.le_of_ble_eq_true rfl⟩ ⟨Nat.zero_le _, Nat.zero_le _⟩ rfl (Nat.le_of_ble_eq_true rfl) ES_b (ES_w hS hE.2 F.2.2.1 ES_n) rfl dJ0_charAt_5068e_12 [.int (chS i k)] rfl ?_
  exact sm_nret F dJ0_charAt_5068e_15 hn rfl rfl
abbrev rmJ1_canEncode_9a6ad : Room := { frames := 0, cells := 0, slots := 0, locals := 0 }
set_option maxRecDepth 100000 in
theorem hsJ1_canEncode_9a6ad : yJ1_canEncode_9a6ad.cls ≠ "java/lang/invoke/MethodHandle" ∧ yJ1_canEncode_9a6ad.cls ≠ "java/lang/invoke/VarHandle" ∧ (parseMethodDescriptor yJ1_canEncode_9a6ad.desc).map (fun d => d.parameters.length) = some 1 := by decide +kernel
set_option maxRecDepth 100000 in
set_option maxHeartbeats 4000000 in
theorem ct_J1_canEncode_9a6ad (l : Launch) (D : va_G) (tys : List (ClassId × FieldType)) (adK adV : Nat → Nat) (zf : Option Nat) {k : Int32} : Ct l yJ1_canEncode_9a6ad (uw (Cond.code yJ1_canEncode_9a6ad cJ1_canEncode_9a6ad 1 (some .boolean))) rmJ1_canEncode_9a6ad D tys (ES adK adV zf []) [.int k] [] (some (.int (if k < 0 then 0 else if (255 : Int32) < k then 0 else 1))) [] := by
  refine sm_start (cc := cJ1_canEncode_9a6ad) (maxL := 1) (ret := (some .boolean)) (own := RJ1) (by decide) rfl rfl (Nat.le_of_ble_eq_true rfl) (lv := [(0, .int k)]) rfl ?_
  intro p e s m below meth c A F hE hA
  refine sm_iload_n F dJ1_canEncode_9a6ad_0 rfl 0 rfl ?_
  refine sm_if_lt (tgt := 15) F dJ1_canEncode_9a6ad_1 (by decide) (fun c1 => ?_) (fun c1 => ?_)
  · refine sm_iconst F dJ1_canEncode_9a6ad_15 kc_i_0 ?_
    exact sm_nret F dJ1_canEncode_9a6ad_16 rfl (by rw [if_pos c1]) rfl
  · refine sm_iload_n F dJ1_canEncode_9a6ad_4 rfl 0 rfl ?_
    refine sm_sipush F dJ1_canEncode_9a6ad_5 kc_s_255 ?_
    refine sm_icmp_gt (tgt := 15) F dJ1_canEncode_9a6ad_8 (by decide) (fun c2 => ?_) (fun c2 => ?_)
    · refine sm_iconst F dJ1_canEncode_9a6ad_15 kc_i_0 ?_
      exact sm_nret F dJ1_canEncode_9a6ad_16 rfl (by rw [if_neg c1, if_pos c2]) rfl
    · refine sm_iconst F dJ1_canEncode_9a6ad_11 kc_i_1 ?_
      refine sm_goto (tgt := 16) F dJ1_canEncode_9a6ad_12 (by decide) ?_
      exact sm_nret F dJ1_canEncode_9a6ad_16 rfl (by rw [if_neg c1, if_neg c2]) rfl
theorem kb8 : ∀ n, n < 256 → ∀ j, j < 6 → (chS 8 j = (nI n).toInt8.toInt32 ↔ chS 8 j = nI n) := by decide +kernel
def ixD (c : Int32) (j : Nat) : Int32 := ixF c ((shT.getD 8 []).drop j) j
theorem ixD_6 (c : Int32) : ixD c 6 = -1 := rfl
theorem ixD_s (c : Int32) : ∀ j, j < 6 → ixD c j = if chS 8 j = c then nI j else ixD c (j + 1) := by
  intro j hj
  match j, hj with
  | 0, _ => rfl
  | 1, _ => rfl
  | 2, _ => rfl
  | 3, _ => rfl
  | 4, _ => rfl
  | 5, _ => rfl
theorem kix_D (c : Int32) : kix c = ixD c 0 := rfl
theorem kix_out {c : Int32} (h : c < 0 ∨ (255 : Int32) < c) : kix c = -1 := by
  have key : ∀ j, j < 6 → ¬ chS 8 j = c := by
    intro j hj e
    have h2 : ∀ j, j < 6 → ¬ chS 8 j < 0 ∧ ¬ (255 : Int32) < chS 8 j := by decide
    rw [← e] at h
    rcases h with h | h
    · exact (h2 j hj).1 h
    · exact (h2 j hj).2 h
  rw [kix_D, ixD_s c 0 (by decide), if_neg (key 0 (by decide)), ixD_s c 1 (by decide), if_neg (key 1 (by decide)), ixD_s c 2 (by decide), if_neg (key 2 (by decide)), ixD_s c 3 (by decide), if_neg (key 3 (by decide)), ixD_s c 4 (by decide), if_neg (key 4 (by decide)), ixD_s c 5 (by decide), if_neg (key 5 (by decide)), ixD_6]
abbrev rmJ1_indexOfChar_4cfef : Room := { frames := 0, cells := 0, slots := 0, locals := 0 }
set_option maxRecDepth 100000 in
theorem hsJ1_indexOfChar_4cfef : yJ1_indexOfChar_4cfef.cls ≠ "java/lang/invoke/MethodHandle" ∧ yJ1_indexOfChar_4cfef.cls ≠ "java/lang/invoke/VarHandle" ∧ (parseMethodDescriptor yJ1_indexOfChar_4cfef.desc).map (fun d => d.parameters.length) = some 4 := by decide +kernel
set_option maxRecDepth 100000 in
set_option maxHeartbeats 4000000 in
theorem s_J1_indexOfChar_4cfef_7 {p : Program} {l : Launch} {e : Env} {s : State} {m : MethodId} {args : Array Value} {below : List Frame} {meth : Method} {c : Code} {A : Nat → Prop} {D : va_G} {tys : List (ClassId × FieldType)} {adK adV : Nat → Nat} {zf : Option Nat} {n : Nat} (F : smF p s m args meth c cJ1_indexOfChar_4cfef 6 (some .int) RJ1 D tys A) (hS : SE adK adV zf A s s.heap) (hn : n < 256) : ∀ g j : Nat, j + g = 6 → Sm p l e rmJ1_indexOfChar_4cfef s m args below meth c D A 6 0 0 (smQ below args s D A (some (.int (ixD (nI n) j))) []) 7 [(0, .ref (adV 8)), (1, .int (nI n)), (2, .int 0), (3, .int 6), (4, .int (nI n).toInt8.toInt32), (5, .int (nI j))] [] [] := by
  intro g
  induction g with
  | zero =>
    intro j hj
    obtain rfl : j = 6 := by omega
    refine sm_iload F dJ1_indexOfChar_4cfef_7 5 rfl ?_
    refine sm_iload_n F dJ1_indexOfChar_4cfef_9 rfl 3 rfl ?_
    refine sm_icmp_ge (tgt := 31) F dJ1_indexOfChar_4cfef_10 (by decide) (fun _ => ?_) (fun c10 => absurd (show (6 : Int32) ≤ nI 6 by decide) c10)
    refine sm_iconst F dJ1_indexOfChar_4cfef_31 kc_i_m1 ?_
    exact sm_iret F dJ1_indexOfChar_4cfef_32 (ixD_6 _).symm rfl
  | succ g ih =>
    intro j hj
    rw [ixD_s _ j (by omega)]
    refine sm_iload F dJ1_indexOfChar_4cfef_7 5 rfl ?_
    refine sm_iload_n F dJ1_indexOfChar_4cfef_9 rfl 3 rfl ?_
    refine sm_icmp_ge (tgt := 31) F dJ1_indexOfChar_4cfef_10 (by decide) (fun c10 => absurd c10 (by rw [show (6 : Int32) = nI 6 from rfl, ile (by omega) (by omega)]; omega)) (fun _ => ?_)
    refine sm_aload_n F dJ1_indexOfChar_4cfef_13 rfl 0 rfl ?_
    refine sm_iload F dJ1_indexOfChar_4cfef_14 5 rfl ?_
    refine sm_tb F (SE_arr hS (show 8 < 9 by decide)) (vpin (show j < lnS 8 by have : lnS 8 = 6 := rfl; omega) (by decide)) (v := .int (chS 8 j)) (by rw [icl (by omega)]) dJ1_indexOfChar_4cfef_16 ?_
    refine sm_iload F dJ1_indexOfChar_4cfef_17 4 rfl ?_
    refine sm_icmp_ne (tgt := 25) F dJ1_indexOfChar_4cfef_19 (by decide) (fun c19 => ?_) (fun c19 => ?_)
    · rw [if_neg (fun z => c19 ((kb8 n hn j (by omega)).mpr z))]
      refine sm_iinc F [(0, .ref (adV 8)), (1, .int (nI n)), (2, .int 0), (3, .int 6), (4, .int (nI n).toInt8.toInt32), (5, .int (nI (j + 1)))] 5 [1, 2, 3, 4, 5, 0] dJ1_indexOfChar_4cfef_25 rfl kc_i_1 (by decide) (by rw [← i1]; rfl) ?_
      refine sm_goto (tgt := 7) F dJ1_indexOfChar_4cfef_28 (by decide) ?_
      exact ih (j + 1) (by omega)
    · rw [if_pos ((kb8 n hn j (by omega)).mp c19)]
      refine sm_iload F dJ1_indexOfChar_4cfef_22 5 rfl ?_
      exact sm_iret F dJ1_indexOfChar_4cfef_24 rfl rfl
set_option maxRecDepth 100000 in
set_option maxHeartbeats 4000000 in
theorem ct_J1_indexOfChar_4cfef (l : Launch) (D : va_G) (tys : List (ClassId × FieldType)) (adK adV : Nat → Nat) (zf : Option Nat) {n : Nat} (hn : n < 256) : Ct l yJ1_indexOfChar_4cfef (uw (Cond.code yJ1_indexOfChar_4cfef cJ1_indexOfChar_4cfef 6 (some .int))) rmJ1_indexOfChar_4cfef D tys (ES adK adV zf []) [.ref (adV 8), .int (nI n), .int 0, .int 6] [] (some (.int (ixD (nI n) 0))) [] := by
  refine sm_start (cc := cJ1_indexOfChar_4cfef) (maxL := 6) (ret := (some .int)) (own := RJ1) (by decide) rfl rfl (Nat.le_of_ble_eq_true rfl) (lv := [(0, .ref (adV 8)), (1, .int (nI n)), (2, .int 0), (3, .int 6)]) rfl ?_
  intro p e s m below meth c A F hE hA
  have hS := ES_at hE hA
  refine sm_iload_n F dJ1_indexOfChar_4cfef_0 rfl 1 rfl ?_
  refine sm_i2b F dJ1_indexOfChar_4cfef_1 ?_
  refine sm_istore F [(0, .ref (adV 8)), (1, .int (nI n)), (2, .int 0), (3, .int 6), (4, .int (nI n).toInt8.toInt32)] [1, 2, 3, 4, 0] dJ1_indexOfChar_4cfef_2 (by decide) rfl ?_
  refine sm_iload_n F dJ1_indexOfChar_4cfef_4 rfl 2 rfl ?_
  refine sm_istore F [(0, .ref (adV 8)), (1, .int (nI n)), (2, .int 0), (3, .int 6), (4, .int (nI n).toInt8.toInt32), (5, .int (nI 0))] [1, 2, 3, 4, 5, 0] dJ1_indexOfChar_4cfef_5 (by decide) rfl ?_
  exact s_J1_indexOfChar_4cfef_7 F hS hn 6 0 rfl
abbrev rmJ1_indexOf_4cfef : Room := { frames := 1, cells := 0, slots := 0, locals := 25 }
set_option maxRecDepth 100000 in
theorem hsJ1_indexOf_4cfef : yJ1_indexOf_4cfef.cls ≠ "java/lang/invoke/MethodHandle" ∧ yJ1_indexOf_4cfef.cls ≠ "java/lang/invoke/VarHandle" ∧ (parseMethodDescriptor yJ1_indexOf_4cfef.desc).map (fun d => d.parameters.length) = some 4 := by decide +kernel
set_option maxRecDepth 100000 in
set_option maxHeartbeats 4000000 in
theorem ct_J1_indexOf_4cfef (l : Launch) (D : va_G) (tys : List (ClassId × FieldType)) (adK adV : Nat → Nat) (zf : Option Nat) {k : Int32} : Ct l yJ1_indexOf_4cfef (uw (Cond.code yJ1_indexOf_4cfef cJ1_indexOf_4cfef 4 (some .int))) rmJ1_indexOf_4cfef D tys (ES adK adV zf []) [.ref (adV 8), .int k, .int 0, .int (nI 6)] [] (some (.int (kix k))) [] := by
  refine sm_start (cc := cJ1_indexOf_4cfef) (maxL := 4) (ret := (some .int)) (own := RJ1) (by decide) rfl rfl (Nat.le_of_ble_eq_true rfl) (lv := [(0, .ref (adV 8)), (1, .int k), (2, .int 0), (3, .int (nI 6))]) rfl ?_
  intro p e s m below meth c A F hE hA
  have hS := ES_at hE hA
  refine sm_iload_n F dJ1_indexOf_4cfef_0 rfl 1 rfl ?_
  refine sm_callS (rest := []) F (ct_J1_canEncode_9a6ad l D tys adK adV zf) cut_N_none rfl rfl rfl qw2_94 qw2_95 qw1_15 qw2_96 hsJ1_canEncode_9a6ad ⟨Nat.le_of_ble_eq_true rfl, Nat.le_of_ble_eq_true rfl⟩ ⟨Nat.zero_le _, Nat.zero_le _⟩ rfl (Nat.le_of_ble_eq_true rfl) ES_b (ES_w hS hE.2 F.2.2.1 ES_n) rfl dJ1_indexOf_4cfef_1 [.int (if k < 0 then 0 else if (255 : Int32) < k then 0 else 1)] rfl ?_
  refine sm_if_ne (tgt := 9) F dJ1_indexOf_4cfef_4 (by decide) (fun c4 => ?_) (fun c4 => ?_)
  · have g1 : ¬ k < 0 := fun z => c4 (by rw [if_pos z])
    have g2 : ¬ (255 : Int32) < k := fun z => c4 (by rw [if_neg g1, if_pos z])
    obtain ⟨n, hn, rfl⟩ := nI_of g1
    have hn2 : n < 256 := by
      rw [show (255 : Int32) = nI 255 from rfl, ilt (by decide) hn] at g2
      omega
    refine sm_iload_n F dJ1_indexOf_4cfef_9 rfl 2 rfl ?_
    refine sm_iconst F dJ1_indexOf_4cfef_10 kc_i_0 ?_
    refine sm_mmax F qw2_97 qw2_98 qw1_18 qw2_99 (Nat.le_of_ble_eq_true rfl) (Nat.le_of_ble_eq_true rfl) (Nat.zero_le _) (Nat.zero_le _) dJ1_indexOf_4cfef_11 ?_
    refine sm_topi (y := 0) (by decide) ?_
    refine sm_istore_n F [(0, .ref (adV 8)), (1, .int (nI n)), (2, .int 0), (3, .int (nI 6))] [1, 2, 0, 3] dJ1_indexOf_4cfef_14 rfl (by decide) rfl ?_
    refine sm_iload_n F dJ1_indexOf_4cfef_15 rfl 3 rfl ?_
    refine sm_aload_n F dJ1_indexOf_4cfef_16 rfl 0 rfl ?_
    refine sm_tlen F (SE_arr hS (show 8 < 9 by decide)) dJ1_indexOf_4cfef_17 ?_
    refine sm_mmin F qw2_100 qw2_101 qw1_18 qw2_102 (Nat.le_of_ble_eq_true rfl) (Nat.le_of_ble_eq_true rfl) (Nat.zero_le _) (Nat.zero_le _) dJ1_indexOf_4cfef_18 ?_
    refine sm_topi (y := 6) (by decide) ?_
    refine sm_istore_n F [(0, .ref (adV 8)), (1, .int (nI n)), (2, .int 0), (3, .int 6)] [1, 2, 3, 0] dJ1_indexOf_4cfef_21 rfl (by decide) rfl ?_
    refine sm_iload_n F dJ1_indexOf_4cfef_22 rfl 2 rfl ?_
    refine sm_iload_n F dJ1_indexOf_4cfef_23 rfl 3 rfl ?_
    refine sm_icmp_lt (tgt := 29) F dJ1_indexOf_4cfef_24 (by decide) (fun _ => ?_) (fun c24 => absurd (show (0 : Int32) < 6 by decide) c24)
    refine sm_aload_n F dJ1_indexOf_4cfef_29 rfl 0 rfl ?_
    refine sm_iload_n F dJ1_indexOf_4cfef_30 rfl 1 rfl ?_
    refine sm_iload_n F dJ1_indexOf_4cfef_31 rfl 2 rfl ?_
    refine sm_iload_n F dJ1_indexOf_4cfef_32 rfl 3 rfl ?_
    refine sm_callS (rest := []) F (ct_J1_indexOfChar_4cfef l D tys adK adV zf hn2) cut_N_none rfl rfl rfl qw2_103 qw2_104 qw1_15 qw2_105 hsJ1_indexOfChar_4cfef ⟨Nat.le_of_ble_eq_true rfl, Nat.le_of_ble_eq_true rfl⟩ ⟨Nat.zero_le _, Nat.zero_le _⟩ rfl (Nat.le_of_ble_eq_true rfl) ES_b (ES_w hS hE.2 F.2.2.1 ES_n) rfl dJ1_indexOf_4cfef_33 [.int (ixD (nI n) 0)] rfl ?_
    exact sm_iret F dJ1_indexOf_4cfef_36 (kix_D _).symm rfl
  · have g : k < 0 ∨ (255 : Int32) < k := by
      rcases Classical.em (k < 0) with z | z
      · exact Or.inl z
      · rcases Classical.em ((255 : Int32) < k) with z2 | z2
        · exact Or.inr z2
        · rw [if_neg z, if_neg z2] at c4; exact absurd c4 (by decide)
    refine sm_iconst F dJ1_indexOf_4cfef_7 kc_i_m1 ?_
    exact sm_iret F dJ1_indexOf_4cfef_8 (kix_out g).symm rfl
abbrev rmJ0_indexOf_7cf53 : Room := { frames := 2, cells := 0, slots := 0, locals := 48 }
set_option maxRecDepth 100000 in
theorem hvJ0_indexOf_7cf53 : yJ0_indexOf_7cf53.cls = RJ0 ∧ yJ0_indexOf_7cf53.cls ≠ "java/lang/invoke/MethodHandle" ∧ yJ0_indexOf_7cf53.cls ≠ "java/lang/invoke/VarHandle" ∧ (parseMethodDescriptor yJ0_indexOf_7cf53.desc).map (fun d => d.parameters.length) = some 2 := by decide +kernel
set_option maxRecDepth 100000 in
set_option maxHeartbeats 4000000 in
theorem ct_J0_indexOf_7cf53 (l : Launch) (D : va_G) (tys : List (ClassId × FieldType)) (adK adV : Nat → Nat) (zf : Option Nat) {k : Int32} : Ct l yJ0_indexOf_7cf53 (uw (Cond.code yJ0_indexOf_7cf53 cJ0_indexOf_7cf53 3 (some .int))) rmJ0_indexOf_7cf53 D tys (ES adK adV zf []) [.ref (adK 8), .int k, .int 0] [] (some (.int (kix k))) [] := by
  refine sm_start (cc := cJ0_indexOf_7cf53) (maxL := 3) (ret := (some .int)) (own := RJ0) (by decide) rfl rfl (Nat.le_of_ble_eq_true rfl) (lv := [(0, .ref (adK 8)), (1, .int k), (2, .int 0)]) rfl ?_
  intro p e s m below meth c A F hE hA
  have hS := ES_at hE hA
  have hi : 8 < 9 := by decide
  refine sm_aload_n F dJ0_indexOf_7cf53_0 rfl 0 rfl ?_
  refine sm_callT (rest := []) F (ct_J0_isLatin1_aae02 l D tys adK adV zf hi) cut_N_none rfl rfl rfl qw2_44 qw2_45 qw2_46 qw1_14 qw2_47 hvJ0_isLatin1_aae02 ⟨Nat.le_of_ble_eq_true rfl, Nat.le_of_ble_eq_true rfl⟩ ⟨Nat.zero_le _, Nat.zero_le _⟩ (SE_rec hS hi) rfl (Nat.le_of_ble_eq_true rfl) ES_b (ES_w hS hE.2 F.2.2.1 ES_n) rfl dJ0_indexOf_7cf53_1 [.int 1] rfl ?_
  refine sm_if_eq (tgt := 23) F dJ0_indexOf_7cf53_4 (by decide) (fun c3 => absurd c3 (by decide)) (fun _ => ?_)
  refine sm_aload_n F dJ0_indexOf_7cf53_7 rfl 0 rfl ?_
  refine sm_getO F (SE_val hS hi) qw6_138 dJ0_indexOf_7cf53_8 ?_
  refine sm_iload_n F dJ0_indexOf_7cf53_11 rfl 1 rfl ?_
  refine sm_iload_n F dJ0_indexOf_7cf53_12 rfl 2 rfl ?_
  refine sm_aload_n F dJ0_indexOf_7cf53_13 rfl 0 rfl ?_
  refine sm_callT (rest := [.int 0, .int k, .ref (adV 8)]) F (ct_J0_length_8abf5 l D tys adK adV zf hi) cut_N_none rfl rfl rfl qw2_90 qw2_17 qw2_18 qw1_14 qw2_19 hvJ0_length_8abf5 ⟨Nat.le_of_ble_eq_true rfl, Nat.le_of_ble_eq_true rfl⟩ ⟨Nat.zero_le _, Nat.zero_le _⟩ (SE_rec hS hi) rfl (Nat.le_of_ble_eq_true rfl) ES_b (ES_w hS hE.2 F.2.2.1 ES_n) rfl dJ0_indexOf_7cf53_14 [.int (nI 6), .int 0, .int k, .ref (adV 8)] rfl ?_
  refine sm_callS (rest := []) F (ct_J1_indexOf_4cfef l D tys adK adV zf) cut_N_none rfl rfl rfl qw2_91 qw2_92 qw1_15 qw2_93 hsJ1_indexOf_4cfef ⟨Nat.le_of_ble_eq_true rfl, Nat.le_of_ble_eq_true rfl⟩ ⟨Nat.zero_le _, Nat.zero_le _⟩ rfl (Nat.le_of_ble_eq_true rfl) ES_b (ES_w hS hE.2 F.2.2.1 ES_n) rfl dJ0_indexOf_7cf53_17 [.int (kix k)] rfl ?_
  refine sm_goto (tgt := 36) F dJ0_indexOf_7cf53_20 (by decide) ?_
  exact sm_iret F dJ0_indexOf_7cf53_36 rfl rfl
abbrev rmJ0_indexOf_0f7a4 : Room := { frames := 3, cells := 0, slots := 0, locals := 70 }
set_option maxRecDepth 100000 in
theorem hvJ0_indexOf_0f7a4 : yJ0_indexOf_0f7a4.cls = RJ0 ∧ yJ0_indexOf_0f7a4.cls ≠ "java/lang/invoke/MethodHandle" ∧ yJ0_indexOf_0f7a4.cls ≠ "java/lang/invoke/VarHandle" ∧ (parseMethodDescriptor yJ0_indexOf_0f7a4.desc).map (fun d => d.parameters.length) = some 1 := by decide +kernel
set_option maxRecDepth 100000 in
set_option maxHeartbeats 4000000 in
theorem ct_J0_indexOf_0f7a4 (l : Launch) (D : va_G) (tys : List (ClassId × FieldType)) (adK adV : Nat → Nat) (zf : Option Nat) {k : Int32} : Ct l yJ0_indexOf_0f7a4 (uw (Cond.code yJ0_indexOf_0f7a4 cJ0_indexOf_0f7a4 2 (some .int))) rmJ0_indexOf_0f7a4 D tys (ES adK adV zf []) [.ref (adK 8), .int k] [] (some (.int (kix k))) [] := by
  refine sm_start (cc := cJ0_indexOf_0f7a4) (maxL := 2) (ret := (some .int)) (own := RJ0) (by decide) rfl rfl (Nat.le_of_ble_eq_true rfl) (lv := [(0, .ref (adK 8)), (1, .int k)]) rfl ?_
  intro p e s m below meth c A F hE hA
  have hS := ES_at hE hA
  refine sm_aload_n F dJ0_indexOf_0f7a4_0 rfl 0 rfl ?_
  refine sm_iload_n F dJ0_indexOf_0f7a4_1 rfl 1 rfl ?_
  refine sm_iconst F dJ0_indexOf_0f7a4_2 kc_i_0 ?_
  refine sm_callT (rest := []) F (ct_J0_indexOf_7cf53 l D tys adK adV zf) cut_N_none rfl rfl rfl qw2_86 qw2_87 qw2_88 qw1_14 qw2_89 hvJ0_indexOf_7cf53 ⟨Nat.le_of_ble_eq_true rfl, Nat.le_of_ble_eq_true rfl⟩ ⟨Nat.zero_le _, Nat.zero_le _⟩ (SE_rec hS (show 8 < 9 by decide)) rfl (Nat.le_of_ble_eq_true rfl) ES_b (ES_w hS hE.2 F.2.2.1 ES_n) rfl dJ0_indexOf_0f7a4_3 [.int (kix k)] rfl ?_
  exact sm_iret F dJ0_indexOf_0f7a4_6 rfl rfl
