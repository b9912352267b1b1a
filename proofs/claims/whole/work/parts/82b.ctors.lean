set_option maxRecDepth 100000 in
theorem qw1_125 : Cond.classLink RX10 42 RX3 ∈ LW := lwm (tb1 (List.mem_of_getElem? (i := 125) (by decide +kernel))) rfl
set_option maxRecDepth 100000 in
theorem qw1_126 : Cond.instantiable RX3 7 ∈ LW := lwm (tb1 (List.mem_of_getElem? (i := 126) (by decide +kernel))) rfl
set_option maxRecDepth 100000 in
theorem qw1_127 : Cond.methodLink RX10 44 yX3_init ∈ LW := lwm (tb1 (List.mem_of_getElem? (i := 127) (by decide +kernel))) rfl
set_option maxRecDepth 100000 in
theorem qw1_128 : Cond.instanceMethod yX3_init ∈ LW := lwm (tb1 (List.mem_of_getElem? (i := 128) (by decide +kernel))) rfl
set_option maxRecDepth 100000 in
theorem qw1_129 : Cond.code yX3_init cX3_init 3 none ∈ LW := lwm (tb1 (List.mem_of_getElem? (i := 129) (by decide +kernel))) rfl
set_option maxRecDepth 100000 in
theorem qw1_130 : Cond.methodLink RX3 3 objectInit ∈ LW := lwm (tb1 (List.mem_of_getElem? (i := 130) (by decide +kernel))) rfl
set_option maxRecDepth 100000 in
theorem qw1_131 : Cond.classLink RX3 29 RX8 ∈ LW := lwm (tb1 (List.mem_of_getElem? (i := 131) (by decide +kernel))) rfl
set_option maxRecDepth 100000 in
theorem qw1_132 : Cond.methodLink RX3 31 yX8_init ∈ LW := lwm (tb1 (List.mem_of_getElem? (i := 132) (by decide +kernel))) rfl
set_option maxRecDepth 100000 in
theorem qw1_155 : Cond.classLink RX10 51 RX7 ∈ LW := lwm (tb1 (List.mem_of_getElem? (i := 155) (by decide +kernel))) rfl
set_option maxRecDepth 100000 in
theorem qw1_156 : Cond.instantiable RX7 2 ∈ LW := lwm (tb1 (List.mem_of_getElem? (i := 156) (by decide +kernel))) rfl
set_option maxRecDepth 100000 in
theorem qw1_157 : Cond.methodLink RX10 53 yX7_init ∈ LW := lwm (tb1 (List.mem_of_getElem? (i := 157) (by decide +kernel))) rfl
set_option maxRecDepth 100000 in
theorem qw1_158 : Cond.instanceMethod yX7_init ∈ LW := lwm (tb1 (List.mem_of_getElem? (i := 158) (by decide +kernel))) rfl
set_option maxRecDepth 100000 in
theorem qw1_159 : Cond.code yX7_init cX7_init 1 none ∈ LW := lwm (tb1 (List.mem_of_getElem? (i := 159) (by decide +kernel))) rfl
set_option maxRecDepth 100000 in
theorem qw1_160 : Cond.methodLink RX7 3 objectInit ∈ LW := lwm (tb1 (List.mem_of_getElem? (i := 160) (by decide +kernel))) rfl
set_option maxRecDepth 100000 in
theorem qw1_169 : Cond.classLink RX10 58 RX6 ∈ LW := lwm (tb1 (List.mem_of_getElem? (i := 169) (by decide +kernel))) rfl
set_option maxRecDepth 100000 in
theorem qw1_170 : Cond.instantiable RX6 2 ∈ LW := lwm (tb1 (List.mem_of_getElem? (i := 170) (by decide +kernel))) rfl
set_option maxRecDepth 100000 in
theorem qw1_171 : Cond.methodLink RX10 60 yX6_init ∈ LW := lwm (tb1 (List.mem_of_getElem? (i := 171) (by decide +kernel))) rfl
set_option maxRecDepth 100000 in
theorem qw1_172 : Cond.instanceMethod yX6_init ∈ LW := lwm (tb1 (List.mem_of_getElem? (i := 172) (by decide +kernel))) rfl
set_option maxRecDepth 100000 in
theorem qw1_173 : Cond.code yX6_init cX6_init 1 none ∈ LW := lwm (tb1 (List.mem_of_getElem? (i := 173) (by decide +kernel))) rfl
set_option maxRecDepth 100000 in
theorem qw1_174 : Cond.methodLink RX6 3 objectInit ∈ LW := lwm (tb1 (List.mem_of_getElem? (i := 174) (by decide +kernel))) rfl
set_option maxRecDepth 100000 in
theorem qw1_26 : Cond.methodLink RX10 3 objectInit ∈ LW := lwm (tb1 (List.mem_of_getElem? (i := 26) (by decide +kernel))) rfl
set_option maxRecDepth 100000 in
theorem qw1_27 : Cond.instanceMethod objectInit ∈ LW := lwm (tb1 (List.mem_of_getElem? (i := 27) (by decide +kernel))) rfl
set_option maxRecDepth 100000 in
theorem qw1_28p : Cond.code objectInit ⟨#[0xb1]⟩ 1 none ∈ LW := lwm (tb1 (List.mem_of_getElem? (i := 28) (by decide +kernel))) rfl
set_option maxRecDepth 100000 in
theorem qw1_29 : Cond.classLink RX10 9 RX4 ∈ LW := lwm (tb1 (List.mem_of_getElem? (i := 29) (by decide +kernel))) rfl
set_option maxRecDepth 100000 in
theorem qw1_31 : Cond.instantiable RX4 0 ∈ LW := lwm (tb1 (List.mem_of_getElem? (i := 31) (by decide +kernel))) rfl
set_option maxRecDepth 100000 in
theorem qw1_32 : Cond.methodLink RX10 11 yX4_init ∈ LW := lwm (tb1 (List.mem_of_getElem? (i := 32) (by decide +kernel))) rfl
set_option maxRecDepth 100000 in
theorem qw1_33 : Cond.instanceMethod yX4_init ∈ LW := lwm (tb1 (List.mem_of_getElem? (i := 33) (by decide +kernel))) rfl
set_option maxRecDepth 100000 in
theorem qw1_34 : Cond.code yX4_init cX4_init 1 none ∈ LW := lwm (tb1 (List.mem_of_getElem? (i := 34) (by decide +kernel))) rfl
set_option maxRecDepth 100000 in
theorem qw1_35 : Cond.methodLink RX4 1 objectInit ∈ LW := lwm (tb1 (List.mem_of_getElem? (i := 35) (by decide +kernel))) rfl
set_option maxRecDepth 100000 in
theorem qw1_37 : Cond.classLink RX10 12 RX0 ∈ LW := lwm (tb1 (List.mem_of_getElem? (i := 37) (by decide +kernel))) rfl
set_option maxRecDepth 100000 in
theorem qw1_38 : Cond.instantiable RX0 0 ∈ LW := lwm (tb1 (List.mem_of_getElem? (i := 38) (by decide +kernel))) rfl
set_option maxRecDepth 100000 in
theorem qw1_39 : Cond.methodLink RX10 14 yX0_init ∈ LW := lwm (tb1 (List.mem_of_getElem? (i := 39) (by decide +kernel))) rfl
set_option maxRecDepth 100000 in
theorem qw1_40 : Cond.instanceMethod yX0_init ∈ LW := lwm (tb1 (List.mem_of_getElem? (i := 40) (by decide +kernel))) rfl
set_option maxRecDepth 100000 in
theorem qw1_41 : Cond.code yX0_init cX0_init 1 none ∈ LW := lwm (tb1 (List.mem_of_getElem? (i := 41) (by decide +kernel))) rfl
set_option maxRecDepth 100000 in
theorem qw1_42 : Cond.methodLink RX0 1 yX4_init ∈ LW := lwm (tb1 (List.mem_of_getElem? (i := 42) (by decide +kernel))) rfl
set_option maxRecDepth 100000 in
theorem qw1_44 : Cond.classLink RX10 15 RX2 ∈ LW := lwm (tb1 (List.mem_of_getElem? (i := 44) (by decide +kernel))) rfl
set_option maxRecDepth 100000 in
theorem qw1_45 : Cond.instantiable RX2 0 ∈ LW := lwm (tb1 (List.mem_of_getElem? (i := 45) (by decide +kernel))) rfl
set_option maxRecDepth 100000 in
theorem qw1_46 : Cond.methodLink RX10 17 yX2_init ∈ LW := lwm (tb1 (List.mem_of_getElem? (i := 46) (by decide +kernel))) rfl
set_option maxRecDepth 100000 in
theorem qw1_47 : Cond.instanceMethod yX2_init ∈ LW := lwm (tb1 (List.mem_of_getElem? (i := 47) (by decide +kernel))) rfl
set_option maxRecDepth 100000 in
theorem qw1_48 : Cond.code yX2_init cX2_init 1 none ∈ LW := lwm (tb1 (List.mem_of_getElem? (i := 48) (by decide +kernel))) rfl
set_option maxRecDepth 100000 in
theorem qw1_49 : Cond.methodLink RX2 1 yX4_init ∈ LW := lwm (tb1 (List.mem_of_getElem? (i := 49) (by decide +kernel))) rfl
set_option maxRecDepth 100000 in
theorem qw1_51 : Cond.classLink RX10 18 RX5 ∈ LW := lwm (tb1 (List.mem_of_getElem? (i := 51) (by decide +kernel))) rfl
set_option maxRecDepth 100000 in
theorem qw1_52 : Cond.instantiable RX5 0 ∈ LW := lwm (tb1 (List.mem_of_getElem? (i := 52) (by decide +kernel))) rfl
set_option maxRecDepth 100000 in
theorem qw1_53 : Cond.methodLink RX10 20 yX5_init ∈ LW := lwm (tb1 (List.mem_of_getElem? (i := 53) (by decide +kernel))) rfl
set_option maxRecDepth 100000 in
theorem qw1_54 : Cond.instanceMethod yX5_init ∈ LW := lwm (tb1 (List.mem_of_getElem? (i := 54) (by decide +kernel))) rfl
set_option maxRecDepth 100000 in
theorem qw1_55 : Cond.code yX5_init cX5_init 1 none ∈ LW := lwm (tb1 (List.mem_of_getElem? (i := 55) (by decide +kernel))) rfl
set_option maxRecDepth 100000 in
theorem qw1_56 : Cond.methodLink RX5 1 yX0_init ∈ LW := lwm (tb1 (List.mem_of_getElem? (i := 56) (by decide +kernel))) rfl
set_option maxRecDepth 100000 in
theorem qw1_58 : Cond.classLink RX10 21 RX1 ∈ LW := lwm (tb1 (List.mem_of_getElem? (i := 58) (by decide +kernel))) rfl
set_option maxRecDepth 100000 in
theorem qw1_59 : Cond.instantiable RX1 0 ∈ LW := lwm (tb1 (List.mem_of_getElem? (i := 59) (by decide +kernel))) rfl
set_option maxRecDepth 100000 in
theorem qw1_60 : Cond.methodLink RX10 23 yX1_init ∈ LW := lwm (tb1 (List.mem_of_getElem? (i := 60) (by decide +kernel))) rfl
set_option maxRecDepth 100000 in
theorem qw1_61 : Cond.instanceMethod yX1_init ∈ LW := lwm (tb1 (List.mem_of_getElem? (i := 61) (by decide +kernel))) rfl
set_option maxRecDepth 100000 in
theorem qw1_62 : Cond.code yX1_init cX1_init 1 none ∈ LW := lwm (tb1 (List.mem_of_getElem? (i := 62) (by decide +kernel))) rfl
set_option maxRecDepth 100000 in
theorem qw1_63 : Cond.methodLink RX1 1 yX4_init ∈ LW := lwm (tb1 (List.mem_of_getElem? (i := 63) (by decide +kernel))) rfl
set_option maxRecDepth 100000 in
theorem qw1_65 : Cond.classLink RX10 24 RX9 ∈ LW := lwm (tb1 (List.mem_of_getElem? (i := 65) (by decide +kernel))) rfl
set_option maxRecDepth 100000 in
theorem qw1_66 : Cond.instantiable RX9 0 ∈ LW := lwm (tb1 (List.mem_of_getElem? (i := 66) (by decide +kernel))) rfl
set_option maxRecDepth 100000 in
theorem qw1_67 : Cond.methodLink RX10 26 yX9_init ∈ LW := lwm (tb1 (List.mem_of_getElem? (i := 67) (by decide +kernel))) rfl
set_option maxRecDepth 100000 in
theorem qw1_68 : Cond.instanceMethod yX9_init ∈ LW := lwm (tb1 (List.mem_of_getElem? (i := 68) (by decide +kernel))) rfl
set_option maxRecDepth 100000 in
theorem qw1_69 : Cond.code yX9_init cX9_init 1 none ∈ LW := lwm (tb1 (List.mem_of_getElem? (i := 69) (by decide +kernel))) rfl
set_option maxRecDepth 100000 in
theorem qw1_70 : Cond.methodLink RX9 1 yX2_init ∈ LW := lwm (tb1 (List.mem_of_getElem? (i := 70) (by decide +kernel))) rfl
set_option maxRecDepth 100000 in
theorem qw1_72 : Cond.classLink RX10 27 RX8 ∈ LW := lwm (tb1 (List.mem_of_getElem? (i := 72) (by decide +kernel))) rfl
set_option maxRecDepth 100000 in
theorem qw1_73 : Cond.instantiable RX8 9 ∈ LW := lwm (tb1 (List.mem_of_getElem? (i := 73) (by decide +kernel))) rfl
set_option maxRecDepth 100000 in
theorem qw1_74 : Cond.methodLink RX10 29 yX8_init ∈ LW := lwm (tb1 (List.mem_of_getElem? (i := 74) (by decide +kernel))) rfl
set_option maxRecDepth 100000 in
theorem qw1_75 : Cond.instanceMethod yX8_init ∈ LW := lwm (tb1 (List.mem_of_getElem? (i := 75) (by decide +kernel))) rfl
set_option maxRecDepth 100000 in
theorem qw1_76 : Cond.code yX8_init cX8_init 2 none ∈ LW := lwm (tb1 (List.mem_of_getElem? (i := 76) (by decide +kernel))) rfl
set_option maxRecDepth 100000 in
theorem qw1_77 : Cond.methodLink RX8 3 objectInit ∈ LW := lwm (tb1 (List.mem_of_getElem? (i := 77) (by decide +kernel))) rfl
theorem wAI : Cond.arrayClass .int ∈ LW := lwm (tb1 (List.mem_of_getElem? (i := 123) (by decide +kernel))) rfl
theorem wAZ : Cond.arrayClass .boolean ∈ LW := lwm (tb1 (List.mem_of_getElem? (i := 124) (by decide +kernel))) rfl
theorem dfX3 : ∀ j, j < 7 → defaultValue (tyX3 j) = vp_V [.null, .null, .null, .null, .null, .null, .int 0] j := by
  intro j hj
  match j, hj with
  | 0, _ => rfl
  | 1, _ => rfl
  | 2, _ => rfl
  | 3, _ => rfl
  | 4, _ => rfl
  | 5, _ => rfl
  | 6, _ => rfl
  | k + 7, h => exact absurd h (by omega)
theorem dfX6 : ∀ j, j < 2 → defaultValue (tyX6 j) = vp_V [.null, .int 0] j := by
  intro j hj
  match j, hj with
  | 0, _ => rfl
  | 1, _ => rfl
  | k + 2, h => exact absurd h (by omega)
theorem dfX7 : ∀ j, j < 2 → defaultValue (tyX7 j) = vp_V [.null, .int 0] j := by
  intro j hj
  match j, hj with
  | 0, _ => rfl
  | 1, _ => rfl
  | k + 2, h => exact absurd h (by omega)
theorem dfX8 : ∀ j, j < 9 → defaultValue (tyX8 j) = vp_V [.null, .null, .null, .null, .null, .null, .int 0, .int 0, .int 0] j := by
  intro j hj
  match j, hj with
  | 0, _ => rfl
  | 1, _ => rfl
  | 2, _ => rfl
  | 3, _ => rfl
  | 4, _ => rfl
  | 5, _ => rfl
  | 6, _ => rfl
  | 7, _ => rfl
  | 8, _ => rfl
  | k + 9, h => exact absurd h (by omega)
theorem dfX10 : ∀ j, j < 8 → defaultValue (tyX10 j) = vp_V [.null, .null, .null, .null, .null, .null, .null, .int 0] j := by
  intro j hj
  match j, hj with
  | 0, _ => rfl
  | 1, _ => rfl
  | 2, _ => rfl
  | 3, _ => rfl
  | 4, _ => rfl
  | 5, _ => rfl
  | 6, _ => rfl
  | 7, _ => rfl
  | k + 8, h => exact absurd h (by omega)
theorem dfX11 : ∀ j, j < 13 → defaultValue (tyX11 j) = vp_V [.null, .null, .null, .null, .int 0, .null, .null, .null, .int 0, .int 0, .int 0, .null, .int 0] j := by
  intro j hj
  match j, hj with
  | 0, _ => rfl
  | 1, _ => rfl
  | 2, _ => rfl
  | 3, _ => rfl
  | 4, _ => rfl
  | 5, _ => rfl
  | 6, _ => rfl
  | 7, _ => rfl
  | 8, _ => rfl
  | 9, _ => rfl
  | 10, _ => rfl
  | 11, _ => rfl
  | 12, _ => rfl
  | k + 13, h => exact absurd h (by omega)
theorem inX0 : ∀ w ∈ u_ws RX0 TX0 0, w ∈ LW := fun w h => absurd h (by simp [u_ws])
theorem dfX0 : ∀ j, j < 0 → defaultValue (tyX0 j) = vp_V [] j := fun j h => absurd h (Nat.not_lt_zero _)
theorem inX1 : ∀ w ∈ u_ws RX1 TX1 0, w ∈ LW := fun w h => absurd h (by simp [u_ws])
theorem dfX1 : ∀ j, j < 0 → defaultValue (tyX1 j) = vp_V [] j := fun j h => absurd h (Nat.not_lt_zero _)
theorem inX2 : ∀ w ∈ u_ws RX2 TX2 0, w ∈ LW := fun w h => absurd h (by simp [u_ws])
theorem dfX2 : ∀ j, j < 0 → defaultValue (tyX2 j) = vp_V [] j := fun j h => absurd h (Nat.not_lt_zero _)
theorem inX4 : ∀ w ∈ u_ws RX4 TX4 0, w ∈ LW := fun w h => absurd h (by simp [u_ws])
theorem dfX4 : ∀ j, j < 0 → defaultValue (tyX4 j) = vp_V [] j := fun j h => absurd h (Nat.not_lt_zero _)
theorem inX5 : ∀ w ∈ u_ws RX5 TX5 0, w ∈ LW := fun w h => absurd h (by simp [u_ws])
theorem dfX5 : ∀ j, j < 0 → defaultValue (tyX5 j) = vp_V [] j := fun j h => absurd h (Nat.not_lt_zero _)
theorem inX9 : ∀ w ∈ u_ws RX9 TX9 0, w ∈ LW := fun w h => absurd h (by simp [u_ws])
theorem dfX9 : ∀ j, j < 0 → defaultValue (tyX9 j) = vp_V [] j := fun j h => absurd h (Nat.not_lt_zero _)
abbrev rmX4_init : Room := { frames := 1, cells := 0, slots := 0, locals := 12 }
set_option maxRecDepth 100000 in
theorem hiX4_init : yX4_init.cls ≠ "java/lang/invoke/MethodHandle" ∧ yX4_init.cls ≠ "java/lang/invoke/VarHandle" ∧ (parseMethodDescriptor yX4_init.desc).map (fun d => d.parameters.length) = some 0 := by decide +kernel
set_option maxRecDepth 100000 in
set_option maxHeartbeats 4000000 in
theorem ct_X4_init (l : Launch) (D : va_G) (cI cZ cO : ClassId) {ci b : Nat} : CtN l yX4_init (uw (Cond.code yX4_init cX4_init 1 none)) rmX4_init D (tyL cI cZ cO) E0 [.ref b] [(b, .inr (ci, []))] 0 0 (fun w => w = [(b, .inr (ci, []))]) := by
  refine sm_startN (cc := cX4_init) (maxL := 1) (own := RX4) (by decide) rfl rfl (Nat.le_of_ble_eq_true rfl) (lv := [(0, .ref b)]) rfl ?_
  intro p e s m below meth c A F hE hA hname
  refine sm_aload_n F dX4_init_0 rfl 0 rfl ?_
  refine sm_objInit F qw1_35 qw1_27 qw1_28p (Nat.le_of_ble_eq_true rfl) (Nat.le_of_ble_eq_true rfl) dX4_init_1 ?_
  exact sm_vretN F dX4_init_4 rfl
abbrev rmX0_init : Room := { frames := 2, cells := 0, slots := 0, locals := 32 }
set_option maxRecDepth 100000 in
theorem hiX0_init : yX0_init.cls ≠ "java/lang/invoke/MethodHandle" ∧ yX0_init.cls ≠ "java/lang/invoke/VarHandle" ∧ (parseMethodDescriptor yX0_init.desc).map (fun d => d.parameters.length) = some 0 := by decide +kernel
set_option maxRecDepth 100000 in
set_option maxHeartbeats 4000000 in
theorem ct_X0_init (l : Launch) (D : va_G) (cI cZ cO : ClassId) {ci b : Nat} : CtN l yX0_init (uw (Cond.code yX0_init cX0_init 1 none)) rmX0_init D (tyL cI cZ cO) E0 [.ref b] [(b, .inr (ci, []))] 0 0 (fun w => w = [(b, .inr (ci, []))]) := by
  refine sm_startN (cc := cX0_init) (maxL := 1) (own := RX0) (by decide) rfl rfl (Nat.le_of_ble_eq_true rfl) (lv := [(0, .ref b)]) rfl ?_
  intro p e s m below meth c A F hE hA hname
  refine sm_aload_n F dX0_init_0 rfl 0 rfl ?_
  refine sm_callI (rest := []) (wr := []) F (ct_X4_init l D cI cZ cO (ci := ci) (b := b)) [0] [] rfl rfl rfl rfl (by decide) rfl rfl rfl qw1_42 qw1_33 qw1_2 qw1_34 rfl hiX4_init ⟨Nat.le_of_ble_eq_true rfl, Nat.le_of_ble_eq_true rfl⟩ ⟨Nat.le_of_ble_eq_true rfl, Nat.le_of_ble_eq_true rfl⟩ rfl (Nat.le_of_ble_eq_true rfl) E0_b (fun _ _ _ _ _ _ => trivial) rfl dX0_init_1 (fun w1 hw1 => ?_)
  subst hw1
  exact sm_vretN F dX0_init_4 rfl
abbrev rmX2_init : Room := { frames := 2, cells := 0, slots := 0, locals := 32 }
set_option maxRecDepth 100000 in
theorem hiX2_init : yX2_init.cls ≠ "java/lang/invoke/MethodHandle" ∧ yX2_init.cls ≠ "java/lang/invoke/VarHandle" ∧ (parseMethodDescriptor yX2_init.desc).map (fun d => d.parameters.length) = some 0 := by decide +kernel
set_option maxRecDepth 100000 in
set_option maxHeartbeats 4000000 in
theorem ct_X2_init (l : Launch) (D : va_G) (cI cZ cO : ClassId) {ci b : Nat} : CtN l yX2_init (uw (Cond.code yX2_init cX2_init 1 none)) rmX2_init D (tyL cI cZ cO) E0 [.ref b] [(b, .inr (ci, []))] 0 0 (fun w => w = [(b, .inr (ci, []))]) := by
  refine sm_startN (cc := cX2_init) (maxL := 1) (own := RX2) (by decide) rfl rfl (Nat.le_of_ble_eq_true rfl) (lv := [(0, .ref b)]) rfl ?_
  intro p e s m below meth c A F hE hA hname
  refine sm_aload_n F dX2_init_0 rfl 0 rfl ?_
  refine sm_callI (rest := []) (wr := []) F (ct_X4_init l D cI cZ cO (ci := ci) (b := b)) [0] [] rfl rfl rfl rfl (by decide) rfl rfl rfl qw1_49 qw1_33 qw1_2 qw1_34 rfl hiX4_init ⟨Nat.le_of_ble_eq_true rfl, Nat.le_of_ble_eq_true rfl⟩ ⟨Nat.le_of_ble_eq_true rfl, Nat.le_of_ble_eq_true rfl⟩ rfl (Nat.le_of_ble_eq_true rfl) E0_b (fun _ _ _ _ _ _ => trivial) rfl dX2_init_1 (fun w1 hw1 => ?_)
  subst hw1
  exact sm_vretN F dX2_init_4 rfl
abbrev rmX1_init : Room := { frames := 2, cells := 0, slots := 0, locals := 32 }
set_option maxRecDepth 100000 in
theorem hiX1_init : yX1_init.cls ≠ "java/lang/invoke/MethodHandle" ∧ yX1_init.cls ≠ "java/lang/invoke/VarHandle" ∧ (parseMethodDescriptor yX1_init.desc).map (fun d => d.parameters.length) = some 0 := by decide +kernel
set_option maxRecDepth 100000 in
set_option maxHeartbeats 4000000 in
theorem ct_X1_init (l : Launch) (D : va_G) (cI cZ cO : ClassId) {ci b : Nat} : CtN l yX1_init (uw (Cond.code yX1_init cX1_init 1 none)) rmX1_init D (tyL cI cZ cO) E0 [.ref b] [(b, .inr (ci, []))] 0 0 (fun w => w = [(b, .inr (ci, []))]) := by
  refine sm_startN (cc := cX1_init) (maxL := 1) (own := RX1) (by decide) rfl rfl (Nat.le_of_ble_eq_true rfl) (lv := [(0, .ref b)]) rfl ?_
  intro p e s m below meth c A F hE hA hname
  refine sm_aload_n F dX1_init_0 rfl 0 rfl ?_
  refine sm_callI (rest := []) (wr := []) F (ct_X4_init l D cI cZ cO (ci := ci) (b := b)) [0] [] rfl rfl rfl rfl (by decide) rfl rfl rfl qw1_63 qw1_33 qw1_2 qw1_34 rfl hiX4_init ⟨Nat.le_of_ble_eq_true rfl, Nat.le_of_ble_eq_true rfl⟩ ⟨Nat.le_of_ble_eq_true rfl, Nat.le_of_ble_eq_true rfl⟩ rfl (Nat.le_of_ble_eq_true rfl) E0_b (fun _ _ _ _ _ _ => trivial) rfl dX1_init_1 (fun w1 hw1 => ?_)
  subst hw1
  exact sm_vretN F dX1_init_4 rfl
abbrev rmX5_init : Room := { frames := 3, cells := 0, slots := 0, locals := 52 }
set_option maxRecDepth 100000 in
theorem hiX5_init : yX5_init.cls ≠ "java/lang/invoke/MethodHandle" ∧ yX5_init.cls ≠ "java/lang/invoke/VarHandle" ∧ (parseMethodDescriptor yX5_init.desc).map (fun d => d.parameters.length) = some 0 := by decide +kernel
set_option maxRecDepth 100000 in
set_option maxHeartbeats 4000000 in
theorem ct_X5_init (l : Launch) (D : va_G) (cI cZ cO : ClassId) {ci b : Nat} : CtN l yX5_init (uw (Cond.code yX5_init cX5_init 1 none)) rmX5_init D (tyL cI cZ cO) E0 [.ref b] [(b, .inr (ci, []))] 0 0 (fun w => w = [(b, .inr (ci, []))]) := by
  refine sm_startN (cc := cX5_init) (maxL := 1) (own := RX5) (by decide) rfl rfl (Nat.le_of_ble_eq_true rfl) (lv := [(0, .ref b)]) rfl ?_
  intro p e s m below meth c A F hE hA hname
  refine sm_aload_n F dX5_init_0 rfl 0 rfl ?_
  refine sm_callI (rest := []) (wr := []) F (ct_X0_init l D cI cZ cO (ci := ci) (b := b)) [0] [] rfl rfl rfl rfl (by decide) rfl rfl rfl qw1_56 qw1_40 qw1_3 qw1_41 rfl hiX0_init ⟨Nat.le_of_ble_eq_true rfl, Nat.le_of_ble_eq_true rfl⟩ ⟨Nat.le_of_ble_eq_true rfl, Nat.le_of_ble_eq_true rfl⟩ rfl (Nat.le_of_ble_eq_true rfl) E0_b (fun _ _ _ _ _ _ => trivial) rfl dX5_init_1 (fun w1 hw1 => ?_)
  subst hw1
  exact sm_vretN F dX5_init_4 rfl
abbrev rmX9_init : Room := { frames := 3, cells := 0, slots := 0, locals := 52 }
set_option maxRecDepth 100000 in
theorem hiX9_init : yX9_init.cls ≠ "java/lang/invoke/MethodHandle" ∧ yX9_init.cls ≠ "java/lang/invoke/VarHandle" ∧ (parseMethodDescriptor yX9_init.desc).map (fun d => d.parameters.length) = some 0 := by decide +kernel
set_option maxRecDepth 100000 in
set_option maxHeartbeats 4000000 in
theorem ct_X9_init (l : Launch) (D : va_G) (cI cZ cO : ClassId) {ci b : Nat} : CtN l yX9_init (uw (Cond.code yX9_init cX9_init 1 none)) rmX9_init D (tyL cI cZ cO) E0 [.ref b] [(b, .inr (ci, []))] 0 0 (fun w => w = [(b, .inr (ci, []))]) := by
  refine sm_startN (cc := cX9_init) (maxL := 1) (own := RX9) (by decide) rfl rfl (Nat.le_of_ble_eq_true rfl) (lv := [(0, .ref b)]) rfl ?_
  intro p e s m below meth c A F hE hA hname
  refine sm_aload_n F dX9_init_0 rfl 0 rfl ?_
  refine sm_callI (rest := []) (wr := []) F (ct_X2_init l D cI cZ cO (ci := ci) (b := b)) [0] [] rfl rfl rfl rfl (by decide) rfl rfl rfl qw1_70 qw1_47 qw1_4 qw1_48 rfl hiX2_init ⟨Nat.le_of_ble_eq_true rfl, Nat.le_of_ble_eq_true rfl⟩ ⟨Nat.le_of_ble_eq_true rfl, Nat.le_of_ble_eq_true rfl⟩ rfl (Nat.le_of_ble_eq_true rfl) E0_b (fun _ _ _ _ _ _ => trivial) rfl dX9_init_1 (fun w1 hw1 => ?_)
  subst hw1
  exact sm_vretN F dX9_init_4 rfl
abbrev rmX6_init : Room := { frames := 1, cells := 1, slots := 16, locals := 12 }
set_option maxRecDepth 100000 in
theorem hiX6_init : yX6_init.cls ≠ "java/lang/invoke/MethodHandle" ∧ yX6_init.cls ≠ "java/lang/invoke/VarHandle" ∧ (parseMethodDescriptor yX6_init.desc).map (fun d => d.parameters.length) = some 0 := by decide +kernel
set_option maxRecDepth 100000 in
set_option maxHeartbeats 4000000 in
theorem ct_X6_init (l : Launch) (D : va_G) (cI cZ cO : ClassId) {b : Nat} : CtN l yX6_init (uw (Cond.code yX6_init cX6_init 1 none)) rmX6_init D (tyL cI cZ cO) E0 [.ref b] [(b, .inr (6, [.null, .int 0]))] 1 16 (fun w => ∃ q1 : Nat, w = [(b, .inr (6, [.ref q1, .int (0 : Int32)])), (q1, .inl (cI, 16, .inl (fun _ => 0)))]) := by
  refine sm_startN (cc := cX6_init) (maxL := 1) (own := RX6) (by decide) rfl rfl (Nat.le_of_ble_eq_true rfl) (lv := [(0, .ref b)]) rfl ?_
  intro p e s m below meth c A F hE hA hname
  refine sm_aload_n F dX6_init_0 rfl 0 rfl ?_
  refine sm_objInit F qw1_174 qw1_27 qw1_28p (Nat.le_of_ble_eq_true rfl) (Nat.le_of_ble_eq_true rfl) dX6_init_1 ?_
  refine sm_aload_n F dX6_init_4 rfl 0 rfl ?_
  refine sm_bipush F dX6_init_5 kc_b_16 ?_
  refine sm_newi F wAI (N := 16) (by decide) (by decide) (by decide) (Nat.le_of_ble_eq_true rfl) (Nat.le_of_ble_eq_true rfl) dX6_init_7 (fun q1 => ?_)
  refine sm_putF F inX6 tyX6 tyX6_ok nmX6 0 rfl rfl 0 (by decide) qw1_175 rfl hname rfl rfl rfl (Nat.le_of_ble_eq_true rfl) [(b, .inr (6, [.ref q1, .int 0])), (q1, .inl (cI, 16, .inl (fun _ => 0)))] rfl dX6_init_9 ?_
  refine sm_aload_n F dX6_init_12 rfl 0 rfl ?_
  refine sm_iconst F dX6_init_13 kc_i_0 ?_
  refine sm_put F inX6 tyX6 tyX6_ok nmX6 0 rfl rfl 1 (by decide) qw1_177 rfl rfl rfl rfl (Nat.le_of_ble_eq_true rfl) [(b, .inr (6, [.ref q1, .int (0 : Int32)])), (q1, .inl (cI, 16, .inl (fun _ => 0)))] rfl dX6_init_14 ?_
  exact sm_vretN F dX6_init_17 ⟨q1, rfl⟩
abbrev rmX7_init : Room := { frames := 1, cells := 1, slots := 96, locals := 12 }
set_option maxRecDepth 100000 in
theorem hiX7_init : yX7_init.cls ≠ "java/lang/invoke/MethodHandle" ∧ yX7_init.cls ≠ "java/lang/invoke/VarHandle" ∧ (parseMethodDescriptor yX7_init.desc).map (fun d => d.parameters.length) = some 0 := by decide +kernel
set_option maxRecDepth 100000 in
set_option maxHeartbeats 4000000 in
theorem ct_X7_init (l : Launch) (D : va_G) (cI cZ cO : ClassId) {b : Nat} : CtN l yX7_init (uw (Cond.code yX7_init cX7_init 1 none)) rmX7_init D (tyL cI cZ cO) E0 [.ref b] [(b, .inr (7, [.null, .int 0]))] 1 96 (fun w => ∃ q1 : Nat, w = [(b, .inr (7, [.ref q1, .int (0 : Int32)])), (q1, .inl (cI, 96, .inl (fun _ => 0)))]) := by
  refine sm_startN (cc := cX7_init) (maxL := 1) (own := RX7) (by decide) rfl rfl (Nat.le_of_ble_eq_true rfl) (lv := [(0, .ref b)]) rfl ?_
  intro p e s m below meth c A F hE hA hname
  refine sm_aload_n F dX7_init_0 rfl 0 rfl ?_
  refine sm_objInit F qw1_160 qw1_27 qw1_28p (Nat.le_of_ble_eq_true rfl) (Nat.le_of_ble_eq_true rfl) dX7_init_1 ?_
  refine sm_aload_n F dX7_init_4 rfl 0 rfl ?_
  refine sm_bipush F dX7_init_5 kc_b_96 ?_
  refine sm_newi F wAI (N := 96) (by decide) (by decide) (by decide) (Nat.le_of_ble_eq_true rfl) (Nat.le_of_ble_eq_true rfl) dX7_init_7 (fun q1 => ?_)
  refine sm_putF F inX7 tyX7 tyX7_ok nmX7 0 rfl rfl 0 (by decide) qw1_161 rfl hname rfl rfl rfl (Nat.le_of_ble_eq_true rfl) [(b, .inr (7, [.ref q1, .int 0])), (q1, .inl (cI, 96, .inl (fun _ => 0)))] rfl dX7_init_9 ?_
  refine sm_aload_n F dX7_init_12 rfl 0 rfl ?_
  refine sm_iconst F dX7_init_13 kc_i_0 ?_
  refine sm_put F inX7 tyX7 tyX7_ok nmX7 0 rfl rfl 1 (by decide) qw1_162 rfl rfl rfl rfl (Nat.le_of_ble_eq_true rfl) [(b, .inr (7, [.ref q1, .int (0 : Int32)])), (q1, .inl (cI, 96, .inl (fun _ => 0)))] rfl dX7_init_14 ?_
  exact sm_vretN F dX7_init_17 ⟨q1, rfl⟩
abbrev rmX8_init : Room := { frames := 1, cells := 5, slots := 96, locals := 12 }
set_option maxRecDepth 100000 in
theorem hiX8_init : yX8_init.cls ≠ "java/lang/invoke/MethodHandle" ∧ yX8_init.cls ≠ "java/lang/invoke/VarHandle" ∧ (parseMethodDescriptor yX8_init.desc).map (fun d => d.parameters.length) = some 1 := by decide +kernel
set_option maxRecDepth 100000 in
set_option maxHeartbeats 4000000 in
theorem ct_X8_init (l : Launch) (D : va_G) (cI cZ cO : ClassId) {b k : Nat} : CtN l yX8_init (uw (Cond.code yX8_init cX8_init 2 none)) rmX8_init D (tyL cI cZ cO) E0 [.ref b, .ref k] [(b, .inr (8, [.null, .null, .null, .null, .null, .null, .int 0, .int 0, .int 0]))] 5 96 (fun w => ∃ q1 q2 q3 q4 q5 : Nat, w = [(b, .inr (8, [.ref k, .ref q1, .ref q2, .ref q3, .ref q4, .ref q5, .int (0 : Int32), .int (1 : Int32), .int (0 : Int32)])), (q1, .inl (cI, 8, .inl (fun _ => 0))), (q2, .inl (cI, 8, .inl (fun _ => 0))), (q3, .inl (cI, 8, .inl (fun _ => 0))), (q4, .inl (cZ, 8, .inl (fun _ => 0))), (q5, .inl (cI, 64, .inl (fun _ => 0)))]) := by
  refine sm_startN (cc := cX8_init) (maxL := 2) (own := RX8) (by decide) rfl rfl (Nat.le_of_ble_eq_true rfl) (lv := [(0, .ref b), (1, .ref k)]) rfl ?_
  intro p e s m below meth c A F hE hA hname
  refine sm_aload_n F dX8_init_0 rfl 0 rfl ?_
  refine sm_objInit F qw1_77 qw1_27 qw1_28p (Nat.le_of_ble_eq_true rfl) (Nat.le_of_ble_eq_true rfl) dX8_init_1 ?_
  refine sm_aload_n F dX8_init_4 rfl 0 rfl ?_
  refine sm_bipush F dX8_init_5 kc_b_8 ?_
  refine sm_newi F wAI (N := 8) (by decide) (by decide) (by decide) (Nat.le_of_ble_eq_true rfl) (Nat.le_of_ble_eq_true rfl) dX8_init_7 (fun q1 => ?_)
  refine sm_putF F inX8 tyX8 tyX8_ok nmX8 0 rfl rfl 1 (by decide) qw1_79 rfl hname rfl rfl rfl (Nat.le_of_ble_eq_true rfl) [(b, .inr (8, [.null, .ref q1, .null, .null, .null, .null, .int 0, .int 0, .int 0])), (q1, .inl (cI, 8, .inl (fun _ => 0)))] rfl dX8_init_9 ?_
  refine sm_aload_n F dX8_init_12 rfl 0 rfl ?_
  refine sm_bipush F dX8_init_13 kc_b_8 ?_
  refine sm_newi F wAI (N := 8) (by decide) (by decide) (by decide) (Nat.le_of_ble_eq_true rfl) (Nat.le_of_ble_eq_true rfl) dX8_init_15 (fun q2 => ?_)
  refine sm_putF F inX8 tyX8 tyX8_ok nmX8 0 rfl rfl 2 (by decide) qw1_82 rfl hname rfl rfl rfl (Nat.le_of_ble_eq_true rfl) [(b, .inr (8, [.null, .ref q1, .ref q2, .null, .null, .null, .int 0, .int 0, .int 0])), (q1, .inl (cI, 8, .inl (fun _ => 0))), (q2, .inl (cI, 8, .inl (fun _ => 0)))] rfl dX8_init_17 ?_
  refine sm_aload_n F dX8_init_20 rfl 0 rfl ?_
  refine sm_bipush F dX8_init_21 kc_b_8 ?_
  refine sm_newi F wAI (N := 8) (by decide) (by decide) (by decide) (Nat.le_of_ble_eq_true rfl) (Nat.le_of_ble_eq_true rfl) dX8_init_23 (fun q3 => ?_)
  refine sm_putF F inX8 tyX8 tyX8_ok nmX8 0 rfl rfl 3 (by decide) qw1_85 rfl hname rfl rfl rfl (Nat.le_of_ble_eq_true rfl) [(b, .inr (8, [.null, .ref q1, .ref q2, .ref q3, .null, .null, .int 0, .int 0, .int 0])), (q1, .inl (cI, 8, .inl (fun _ => 0))), (q2, .inl (cI, 8, .inl (fun _ => 0))), (q3, .inl (cI, 8, .inl (fun _ => 0)))] rfl dX8_init_25 ?_
  refine sm_aload_n F dX8_init_28 rfl 0 rfl ?_
  refine sm_bipush F dX8_init_29 kc_b_8 ?_
  refine sm_newz F wAZ (N := 8) (by decide) (by decide) (by decide) (Nat.le_of_ble_eq_true rfl) (Nat.le_of_ble_eq_true rfl) dX8_init_31 (fun q4 => ?_)
  refine sm_putF F inX8 tyX8 tyX8_ok nmX8 0 rfl rfl 4 (by decide) qw1_89 rfl hname rfl rfl rfl (Nat.le_of_ble_eq_true rfl) [(b, .inr (8, [.null, .ref q1, .ref q2, .ref q3, .ref q4, .null, .int 0, .int 0, .int 0])), (q1, .inl (cI, 8, .inl (fun _ => 0))), (q2, .inl (cI, 8, .inl (fun _ => 0))), (q3, .inl (cI, 8, .inl (fun _ => 0))), (q4, .inl (cZ, 8, .inl (fun _ => 0)))] rfl dX8_init_33 ?_
  refine sm_aload_n F dX8_init_36 rfl 0 rfl ?_
  refine sm_bipush F dX8_init_37 kc_b_64 ?_
  refine sm_newi F wAI (N := 64) (by decide) (by decide) (by decide) (Nat.le_of_ble_eq_true rfl) (Nat.le_of_ble_eq_true rfl) dX8_init_39 (fun q5 => ?_)
  refine sm_putF F inX8 tyX8 tyX8_ok nmX8 0 rfl rfl 5 (by decide) qw1_93 rfl hname rfl rfl rfl (Nat.le_of_ble_eq_true rfl) [(b, .inr (8, [.null, .ref q1, .ref q2, .ref q3, .ref q4, .ref q5, .int 0, .int 0, .int 0])), (q1, .inl (cI, 8, .inl (fun _ => 0))), (q2, .inl (cI, 8, .inl (fun _ => 0))), (q3, .inl (cI, 8, .inl (fun _ => 0))), (q4, .inl (cZ, 8, .inl (fun _ => 0))), (q5, .inl (cI, 64, .inl (fun _ => 0)))] rfl dX8_init_41 ?_
  refine sm_aload_n F dX8_init_44 rfl 0 rfl ?_
  refine sm_iconst F dX8_init_45 kc_i_0 ?_
  refine sm_put F inX8 tyX8 tyX8_ok nmX8 0 rfl rfl 6 (by decide) qw1_94 rfl rfl rfl rfl (Nat.le_of_ble_eq_true rfl) [(b, .inr (8, [.null, .ref q1, .ref q2, .ref q3, .ref q4, .ref q5, .int (0 : Int32), .int 0, .int 0])), (q1, .inl (cI, 8, .inl (fun _ => 0))), (q2, .inl (cI, 8, .inl (fun _ => 0))), (q3, .inl (cI, 8, .inl (fun _ => 0))), (q4, .inl (cZ, 8, .inl (fun _ => 0))), (q5, .inl (cI, 64, .inl (fun _ => 0)))] rfl dX8_init_46 ?_
  refine sm_aload_n F dX8_init_49 rfl 0 rfl ?_
  refine sm_iconst F dX8_init_50 kc_i_1 ?_
  refine sm_put F inX8 tyX8 tyX8_ok nmX8 0 rfl rfl 7 (by decide) qw1_98 rfl rfl rfl rfl (Nat.le_of_ble_eq_true rfl) [(b, .inr (8, [.null, .ref q1, .ref q2, .ref q3, .ref q4, .ref q5, .int (0 : Int32), .int (1 : Int32), .int 0])), (q1, .inl (cI, 8, .inl (fun _ => 0))), (q2, .inl (cI, 8, .inl (fun _ => 0))), (q3, .inl (cI, 8, .inl (fun _ => 0))), (q4, .inl (cZ, 8, .inl (fun _ => 0))), (q5, .inl (cI, 64, .inl (fun _ => 0)))] rfl dX8_init_51 ?_
  refine sm_aload_n F dX8_init_54 rfl 0 rfl ?_
  refine sm_iconst F dX8_init_55 kc_i_0 ?_
  refine sm_put F inX8 tyX8 tyX8_ok nmX8 0 rfl rfl 8 (by decide) qw1_101 rfl rfl rfl rfl (Nat.le_of_ble_eq_true rfl) [(b, .inr (8, [.null, .ref q1, .ref q2, .ref q3, .ref q4, .ref q5, .int (0 : Int32), .int (1 : Int32), .int (0 : Int32)])), (q1, .inl (cI, 8, .inl (fun _ => 0))), (q2, .inl (cI, 8, .inl (fun _ => 0))), (q3, .inl (cI, 8, .inl (fun _ => 0))), (q4, .inl (cZ, 8, .inl (fun _ => 0))), (q5, .inl (cI, 64, .inl (fun _ => 0)))] rfl dX8_init_56 ?_
  refine sm_aload_n F dX8_init_59 rfl 0 rfl ?_
  refine sm_aload_n F dX8_init_60 rfl 1 rfl ?_
  refine sm_putF F inX8 tyX8 tyX8_ok nmX8 0 rfl rfl 0 (by decide) qw1_78 rfl hname rfl rfl rfl (Nat.le_of_ble_eq_true rfl) [(b, .inr (8, [.ref k, .ref q1, .ref q2, .ref q3, .ref q4, .ref q5, .int (0 : Int32), .int (1 : Int32), .int (0 : Int32)])), (q1, .inl (cI, 8, .inl (fun _ => 0))), (q2, .inl (cI, 8, .inl (fun _ => 0))), (q3, .inl (cI, 8, .inl (fun _ => 0))), (q4, .inl (cZ, 8, .inl (fun _ => 0))), (q5, .inl (cI, 64, .inl (fun _ => 0)))] rfl dX8_init_61 ?_
  exact sm_vretN F dX8_init_64 ⟨q1, q2, q3, q4, q5, rfl⟩
abbrev rmX3_init : Room := { frames := 2, cells := 15, slots := 226, locals := 33 }
set_option maxRecDepth 100000 in
theorem hiX3_init : yX3_init.cls ≠ "java/lang/invoke/MethodHandle" ∧ yX3_init.cls ≠ "java/lang/invoke/VarHandle" ∧ (parseMethodDescriptor yX3_init.desc).map (fun d => d.parameters.length) = some 2 := by decide +kernel
set_option maxRecDepth 100000 in
set_option maxHeartbeats 4000000 in
theorem ct_X3_init (l : Launch) (D : va_G) (cI cZ cO : ClassId) {b v k : Nat} : CtN l yX3_init (uw (Cond.code yX3_init cX3_init 3 none)) rmX3_init D (tyL cI cZ cO) E0 [.ref b, .ref v, .ref k] [(b, .inr (3, [.null, .null, .null, .null, .null, .null, .int 0]))] 15 226 (fun w => ∃ q1 q2 q3 q4 q5 q6 q7 q8 q9 q10 q11 q12 q13 q14 q15 : Nat, w = [(b, .inr (3, [.ref v, .ref q4, .ref q10, .ref q1, .ref q2, .ref q3, .int (0 : Int32)])), (q1, .inl (cI, 8, .inl (fun _ => 0))), (q2, .inl (cI, 4, .inl (fun _ => 0))), (q3, .inl (cI, 4, .inl (fun _ => 0))), (q4, .inr (8, [.ref k, .ref q5, .ref q6, .ref q7, .ref q8, .ref q9, .int (0 : Int32), .int (1 : Int32), .int (0 : Int32)])), (q5, .inl (cI, 8, .inl (fun _ => 0))), (q6, .inl (cI, 8, .inl (fun _ => 0))), (q7, .inl (cI, 8, .inl (fun _ => 0))), (q8, .inl (cZ, 8, .inl (fun _ => 0))), (q9, .inl (cI, 64, .inl (fun _ => 0))), (q10, .inr (8, [.ref k, .ref q11, .ref q12, .ref q13, .ref q14, .ref q15, .int (0 : Int32), .int (1 : Int32), .int (0 : Int32)])), (q11, .inl (cI, 8, .inl (fun _ => 0))), (q12, .inl (cI, 8, .inl (fun _ => 0))), (q13, .inl (cI, 8, .inl (fun _ => 0))), (q14, .inl (cZ, 8, .inl (fun _ => 0))), (q15, .inl (cI, 64, .inl (fun _ => 0)))]) := by
  refine sm_startN (cc := cX3_init) (maxL := 3) (own := RX3) (by decide) rfl rfl (Nat.le_of_ble_eq_true rfl) (lv := [(0, .ref b), (1, .ref v), (2, .ref k)]) rfl ?_
  intro p e s m below meth c A F hE hA hname
  refine sm_aload_n F dX3_init_0 rfl 0 rfl ?_
  refine sm_objInit F qw1_130 qw1_27 qw1_28p (Nat.le_of_ble_eq_true rfl) (Nat.le_of_ble_eq_true rfl) dX3_init_1 ?_
  refine sm_aload_n F dX3_init_4 rfl 0 rfl ?_
  refine sm_bipush F dX3_init_5 kc_b_8 ?_
  refine sm_newi F wAI (N := 8) (by decide) (by decide) (by decide) (Nat.le_of_ble_eq_true rfl) (Nat.le_of_ble_eq_true rfl) dX3_init_7 (fun q1 => ?_)
  refine sm_putF F inX3 tyX3 tyX3_ok nmX3 0 rfl rfl 3 (by decide) qw1_136 rfl hname rfl rfl rfl (Nat.le_of_ble_eq_true rfl) [(b, .inr (3, [.null, .null, .null, .ref q1, .null, .null, .int 0])), (q1, .inl (cI, 8, .inl (fun _ => 0)))] rfl dX3_init_9 ?_
  refine sm_aload_n F dX3_init_12 rfl 0 rfl ?_
  refine sm_iconst F dX3_init_13 kc_i_4 ?_
  refine sm_newi F wAI (N := 4) (by decide) (by decide) (by decide) (Nat.le_of_ble_eq_true rfl) (Nat.le_of_ble_eq_true rfl) dX3_init_14 (fun q2 => ?_)
  refine sm_putF F inX3 tyX3 tyX3_ok nmX3 0 rfl rfl 4 (by decide) qw1_137 rfl hname rfl rfl rfl (Nat.le_of_ble_eq_true rfl) [(b, .inr (3, [.null, .null, .null, .ref q1, .ref q2, .null, .int 0])), (q1, .inl (cI, 8, .inl (fun _ => 0))), (q2, .inl (cI, 4, .inl (fun _ => 0)))] rfl dX3_init_16 ?_
  refine sm_aload_n F dX3_init_19 rfl 0 rfl ?_
  refine sm_iconst F dX3_init_20 kc_i_4 ?_
  refine sm_newi F wAI (N := 4) (by decide) (by decide) (by decide) (Nat.le_of_ble_eq_true rfl) (Nat.le_of_ble_eq_true rfl) dX3_init_21 (fun q3 => ?_)
  refine sm_putF F inX3 tyX3 tyX3_ok nmX3 0 rfl rfl 5 (by decide) qw1_138 rfl hname rfl rfl rfl (Nat.le_of_ble_eq_true rfl) [(b, .inr (3, [.null, .null, .null, .ref q1, .ref q2, .ref q3, .int 0])), (q1, .inl (cI, 8, .inl (fun _ => 0))), (q2, .inl (cI, 4, .inl (fun _ => 0))), (q3, .inl (cI, 4, .inl (fun _ => 0)))] rfl dX3_init_23 ?_
  refine sm_aload_n F dX3_init_26 rfl 0 rfl ?_
  refine sm_iconst F dX3_init_27 kc_i_0 ?_
  refine sm_put F inX3 tyX3 tyX3_ok nmX3 0 rfl rfl 6 (by decide) qw1_139 rfl rfl rfl rfl (Nat.le_of_ble_eq_true rfl) [(b, .inr (3, [.null, .null, .null, .ref q1, .ref q2, .ref q3, .int (0 : Int32)])), (q1, .inl (cI, 8, .inl (fun _ => 0))), (q2, .inl (cI, 4, .inl (fun _ => 0))), (q3, .inl (cI, 4, .inl (fun _ => 0)))] rfl dX3_init_28 ?_
  refine sm_aload_n F dX3_init_31 rfl 0 rfl ?_
  refine sm_aload_n F dX3_init_32 rfl 1 rfl ?_
  refine sm_putF F inX3 tyX3 tyX3_ok nmX3 0 rfl rfl 0 (by decide) qw1_133 rfl hname rfl rfl rfl (Nat.le_of_ble_eq_true rfl) [(b, .inr (3, [.ref v, .null, .null, .ref q1, .ref q2, .ref q3, .int (0 : Int32)])), (q1, .inl (cI, 8, .inl (fun _ => 0))), (q2, .inl (cI, 4, .inl (fun _ => 0))), (q3, .inl (cI, 4, .inl (fun _ => 0)))] rfl dX3_init_33 ?_
  refine sm_aload_n F dX3_init_36 rfl 0 rfl ?_
  refine sm_new F inX8 tyX8 tyX8_ok qw1_131 qw1_73 qw1_8 (ci := 8) rfl dfX8 (Nat.le_of_ble_eq_true rfl) (Nat.le_of_ble_eq_true rfl) dX3_init_37 (fun q4 => ?_)
  refine sm_dup F dX3_init_40 rfl ?_
  refine sm_aload_n F dX3_init_41 rfl 2 rfl ?_
  refine sm_callI (rest := [.ref q4, .ref b]) (wr := [(b, .inr (3, [.ref v, .null, .null, .ref q1, .ref q2, .ref q3, .int (0 : Int32)])), (q1, .inl (cI, 8, .inl (fun _ => 0))), (q2, .inl (cI, 4, .inl (fun _ => 0))), (q3, .inl (cI, 4, .inl (fun _ => 0)))]) F (ct_X8_init l D cI cZ cO (b := q4) (k := k)) [4] [0, 1, 2, 3] rfl rfl rfl rfl (by decide) rfl rfl rfl qw1_132 qw1_75 qw1_8 qw1_76 rfl hiX8_init ⟨Nat.le_of_ble_eq_true rfl, Nat.le_of_ble_eq_true rfl⟩ ⟨Nat.le_of_ble_eq_true rfl, Nat.le_of_ble_eq_true rfl⟩ rfl (Nat.le_of_ble_eq_true rfl) E0_b (fun _ _ _ _ _ _ => trivial) rfl dX3_init_42 (fun w1 hw1 => ?_)
  obtain ⟨q5, q6, q7, q8, q9, rfl⟩ := hw1
  refine sm_putF F inX3 tyX3 tyX3_ok nmX3 0 rfl rfl 1 (by decide) qw1_134 rfl hname rfl rfl rfl (Nat.le_of_ble_eq_true rfl) [(b, .inr (3, [.ref v, .ref q4, .null, .ref q1, .ref q2, .ref q3, .int (0 : Int32)])), (q1, .inl (cI, 8, .inl (fun _ => 0))), (q2, .inl (cI, 4, .inl (fun _ => 0))), (q3, .inl (cI, 4, .inl (fun _ => 0))), (q4, .inr (8, [.ref k, .ref q5, .ref q6, .ref q7, .ref q8, .ref q9, .int (0 : Int32), .int (1 : Int32), .int (0 : Int32)])), (q5, .inl (cI, 8, .inl (fun _ => 0))), (q6, .inl (cI, 8, .inl (fun _ => 0))), (q7, .inl (cI, 8, .inl (fun _ => 0))), (q8, .inl (cZ, 8, .inl (fun _ => 0))), (q9, .inl (cI, 64, .inl (fun _ => 0)))] rfl dX3_init_45 ?_
  refine sm_aload_n F dX3_init_48 rfl 0 rfl ?_
  refine sm_new F inX8 tyX8 tyX8_ok qw1_131 qw1_73 qw1_8 (ci := 8) rfl dfX8 (Nat.le_of_ble_eq_true rfl) (Nat.le_of_ble_eq_true rfl) dX3_init_49 (fun q10 => ?_)
  refine sm_dup F dX3_init_52 rfl ?_
  refine sm_aload_n F dX3_init_53 rfl 2 rfl ?_
  refine sm_callI (rest := [.ref q10, .ref b]) (wr := [(b, .inr (3, [.ref v, .ref q4, .null, .ref q1, .ref q2, .ref q3, .int (0 : Int32)])), (q1, .inl (cI, 8, .inl (fun _ => 0))), (q2, .inl (cI, 4, .inl (fun _ => 0))), (q3, .inl (cI, 4, .inl (fun _ => 0))), (q4, .inr (8, [.ref k, .ref q5, .ref q6, .ref q7, .ref q8, .ref q9, .int (0 : Int32), .int (1 : Int32), .int (0 : Int32)])), (q5, .inl (cI, 8, .inl (fun _ => 0))), (q6, .inl (cI, 8, .inl (fun _ => 0))), (q7, .inl (cI, 8, .inl (fun _ => 0))), (q8, .inl (cZ, 8, .inl (fun _ => 0))), (q9, .inl (cI, 64, .inl (fun _ => 0)))]) F (ct_X8_init l D cI cZ cO (b := q10) (k := k)) [10] [0, 1, 2, 3, 4, 5, 6, 7, 8, 9] rfl rfl rfl rfl (by decide) rfl rfl rfl qw1_132 qw1_75 qw1_8 qw1_76 rfl hiX8_init ⟨Nat.le_of_ble_eq_true rfl, Nat.le_of_ble_eq_true rfl⟩ ⟨Nat.le_of_ble_eq_true rfl, Nat.le_of_ble_eq_true rfl⟩ rfl (Nat.le_of_ble_eq_true rfl) E0_b (fun _ _ _ _ _ _ => trivial) rfl dX3_init_54 (fun w1 hw1 => ?_)
  obtain ⟨q11, q12, q13, q14, q15, rfl⟩ := hw1
  refine sm_putF F inX3 tyX3 tyX3_ok nmX3 0 rfl rfl 2 (by decide) qw1_135 rfl hname rfl rfl rfl (Nat.le_of_ble_eq_true rfl) [(b, .inr (3, [.ref v, .ref q4, .ref q10, .ref q1, .ref q2, .ref q3, .int (0 : Int32)])), (q1, .inl (cI, 8, .inl (fun _ => 0))), (q2, .inl (cI, 4, .inl (fun _ => 0))), (q3, .inl (cI, 4, .inl (fun _ => 0))), (q4, .inr (8, [.ref k, .ref q5, .ref q6, .ref q7, .ref q8, .ref q9, .int (0 : Int32), .int (1 : Int32), .int (0 : Int32)])), (q5, .inl (cI, 8, .inl (fun _ => 0))), (q6, .inl (cI, 8, .inl (fun _ => 0))), (q7, .inl (cI, 8, .inl (fun _ => 0))), (q8, .inl (cZ, 8, .inl (fun _ => 0))), (q9, .inl (cI, 64, .inl (fun _ => 0))), (q10, .inr (8, [.ref k, .ref q11, .ref q12, .ref q13, .ref q14, .ref q15, .int (0 : Int32), .int (1 : Int32), .int (0 : Int32)])), (q11, .inl (cI, 8, .inl (fun _ => 0))), (q12, .inl (cI, 8, .inl (fun _ => 0))), (q13, .inl (cI, 8, .inl (fun _ => 0))), (q14, .inl (cZ, 8, .inl (fun _ => 0))), (q15, .inl (cI, 64, .inl (fun _ => 0)))] rfl dX3_init_57 ?_
  exact sm_vretN F dX3_init_60 ⟨q1, q2, q3, q4, q5, q6, q7, q8, q9, q10, q11, q12, q13, q14, q15, rfl⟩
