/-! SoManyForgottenModel.two(III)I -/
abbrev rmX11_two : Room := { frames := 7, cells := 0, slots := 0, locals := 158 }
set_option maxRecDepth 100000 in
theorem hvX11_two : yX11_two.cls = RX11 ∧ yX11_two.cls ≠ "java/lang/invoke/MethodHandle" ∧ yX11_two.cls ≠ "java/lang/invoke/VarHandle" ∧ (parseMethodDescriptor yX11_two.desc).map (fun d => d.parameters.length) = some 3 := by decide +kernel
set_option maxRecDepth 100000 in
set_option maxHeartbeats 4000000 in
theorem s_X11_two_68_b {p : Program} {l : Launch} {e : Env} {s : State} {m : MethodId} {args : Array Value} {below : List Frame} {meth : Method} {c : Code} {A : Nat → Prop} {D : va_G} {cI cZ cO : ClassId} {a : Nat → Nat} {r : Int32} {o : DS} (F : smF p s m args meth c cX11_two 8 (some .int) RX11 D (tyL cI cZ cO) A) (x1 : Int32) (x2 : Int32) (x3 : Int32) (k68 : DS → Int32 → Option (Int32 × (DS))) (hk68 : ∀ (u' : DS) (x5' : Int32), k68 u' x5' = some (r, o) → Sm p l e rmX11_two s m args below meth c D A 8 0 0 (smQ below args s D A (some (.int r)) (wD cI cZ cO a o)) 68 [(0, .ref (a 0)), (1, .int x1), (2, .int x2), (3, .int x3), (5, .int x5')] [] (wD cI cZ cO a u')) (u : DS) (x5 : Int32) (hf : b_X11_two_68 x1 x2 x3  k68 u x5 = some (r, o)) : Sm p l e rmX11_two s m args below meth c D A 8 0 0 (smQ below args s D A (some (.int r)) (wD cI cZ cO a o)) 68 [(0, .ref (a 0)), (1, .int x1), (2, .int x2), (3, .int x3), (5, .int x5)] [] (wD cI cZ cO a u) := by
  unfold b_X11_two_68 at hf
  refine sm_iload F dX11_two_68 4 rfl ?_
  refine sm_iconst F dX11_two_70 kc_i_4 ?_
  refine sm_icmp_ge (tgt := 159) F dX11_two_71 (by decide) (fun c71 => ?_) (fun c71 => ?_)
  · replace hf := if_t c71 hf
    refine sm_bipush F dX11_two_159 kc_b_m9 ?_
    exact sm_iret F dX11_two_161 (Prod.mk.inj (Option.some.inj hf)).1 (congrArg (fun z => (wD cI cZ cO a z)) (Prod.mk.inj (Option.some.inj hf)).2)
  · replace hf := if_f c71 hf
    refine sm_iload F dX11_two_74 4 rfl ?_
    refine sm_iconst F dX11_two_76 kc_i_2 ?_
    refine sm_idiv F dX11_two_77 (by decide) ?_
    refine sm_istore F [(0, .ref (a 0)), (1, .int x1), (2, .int x2), (3, .int x3), (5, .int x5), (6, .int (x5 / (2 : Int32)))] [1, 2, 3, 4, 5, 0] dX11_two_78 (by decide) rfl ?_
    refine sm_iload F dX11_two_80 4 rfl ?_
    refine sm_iconst F dX11_two_82 kc_i_2 ?_
    refine sm_irem F dX11_two_83 (by decide) ?_
    refine sm_istore F [(0, .ref (a 0)), (1, .int x1), (2, .int x2), (3, .int x3), (5, .int x5), (6, .int (x5 / (2 : Int32))), (7, .int (x5 - x5 / (2 : Int32) * (2 : Int32)))] [1, 2, 3, 4, 5, 6, 0] dX11_two_84 (by decide) rfl ?_
    refine sm_aload_n F dX11_two_86 rfl 0 rfl ?_
    refine sm_iload_n F dX11_two_87 rfl 1 rfl ?_
    refine sm_iload_n F dX11_two_88 rfl 1 rfl ?_
    refine sm_iconst F dX11_two_89 kc_i_1 ?_
    refine sm_iload F dX11_two_90 5 rfl ?_
    refine sm_isub F dX11_two_92 ?_
    refine sm_iload_n F dX11_two_93 rfl 2 rfl ?_
    refine sm_iload F dX11_two_94 6 rfl ?_
    refine sm_iload_n F dX11_two_96 rfl 3 rfl ?_
    obtain ⟨z97, hz97, hf⟩ := bd_some hf
    refine sm_callV (rest := []) F (ct_X11_hasBy l D cI cZ cO a hz97) (cut_D_id cI cZ cO a u z97.2) rfl rfl rfl qw6_59 qw6_61 qw0_45 qw1_12 qw6_62 hvX11_hasBy ⟨Nat.le_of_ble_eq_true rfl, Nat.le_of_ble_eq_true rfl⟩ ⟨Nat.zero_le _, Nat.zero_le _⟩ 0 11 rfl rfl rfl rfl (Nat.le_of_ble_eq_true rfl) E0_b (fun _ _ _ _ _ _ => trivial) rfl dX11_two_97 [.int z97.1] rfl ?_
    refine sm_aload_n F dX11_two_100 rfl 0 rfl ?_
    refine sm_iload_n F dX11_two_101 rfl 1 rfl ?_
    refine sm_iload_n F dX11_two_102 rfl 1 rfl ?_
    refine sm_iload F dX11_two_103 5 rfl ?_
    refine sm_iload_n F dX11_two_105 rfl 2 rfl ?_
    refine sm_iload F dX11_two_106 6 rfl ?_
    refine sm_iload_n F dX11_two_108 rfl 3 rfl ?_
    obtain ⟨z109, hz109, hf⟩ := bd_some hf
    refine sm_callV (rest := [.int z97.1]) F (ct_X11_hasBy l D cI cZ cO a hz109) (cut_D_id cI cZ cO a z97.2 z109.2) rfl rfl rfl qw6_59 qw6_61 qw0_45 qw1_12 qw6_62 hvX11_hasBy ⟨Nat.le_of_ble_eq_true rfl, Nat.le_of_ble_eq_true rfl⟩ ⟨Nat.zero_le _, Nat.zero_le _⟩ 0 11 rfl rfl rfl rfl (Nat.le_of_ble_eq_true rfl) E0_b (fun _ _ _ _ _ _ => trivial) rfl dX11_two_109 [.int z109.1, .int z97.1] rfl ?_
    refine sm_icmp_gt (tgt := 153) F dX11_two_112 (by decide) (fun c112 => ?_) (fun c112 => ?_)
    · replace hf := if_t c112 hf
      refine sm_iinc F [(0, .ref (a 0)), (1, .int x1), (2, .int x2), (3, .int x3), (5, .int (x5 + 1)), (6, .int (x5 / (2 : Int32))), (7, .int (x5 - x5 / (2 : Int32) * (2 : Int32)))] 4 [1, 2, 3, 4, 0, 5, 6] dX11_two_153 rfl kc_i_1 (by decide) rfl ?_
      refine sm_goto (tgt := 68) F dX11_two_156 (by decide) ?_
      refine sm_sub (lv' := [(0, .ref (a 0)), (1, .int x1), (2, .int x2), (3, .int x3), (5, .int (x5 + 1))]) [0, 1, 2, 3, 4] rfl ?_
      exact hk68 z109.2 (x5 + 1) hf
    · replace hf := if_f c112 hf
      refine sm_aload_n F dX11_two_115 rfl 0 rfl ?_
      refine sm_iload_n F dX11_two_116 rfl 2 rfl ?_
      refine sm_iload_n F dX11_two_117 rfl 1 rfl ?_
      refine sm_iload F dX11_two_118 5 rfl ?_
      refine sm_iload_n F dX11_two_120 rfl 2 rfl ?_
      refine sm_iconst F dX11_two_121 kc_i_1 ?_
      refine sm_iload F dX11_two_122 6 rfl ?_
      refine sm_isub F dX11_two_124 ?_
      refine sm_iload_n F dX11_two_125 rfl 3 rfl ?_
      obtain ⟨z126, hz126, hf⟩ := bd_some hf
      refine sm_callV (rest := []) F (ct_X11_hasBy l D cI cZ cO a hz126) (cut_D_id cI cZ cO a z109.2 z126.2) rfl rfl rfl qw6_59 qw6_61 qw0_45 qw1_12 qw6_62 hvX11_hasBy ⟨Nat.le_of_ble_eq_true rfl, Nat.le_of_ble_eq_true rfl⟩ ⟨Nat.zero_le _, Nat.zero_le _⟩ 0 11 rfl rfl rfl rfl (Nat.le_of_ble_eq_true rfl) E0_b (fun _ _ _ _ _ _ => trivial) rfl dX11_two_126 [.int z126.1] rfl ?_
      refine sm_aload_n F dX11_two_129 rfl 0 rfl ?_
      refine sm_iload_n F dX11_two_130 rfl 2 rfl ?_
      refine sm_iload_n F dX11_two_131 rfl 1 rfl ?_
      refine sm_iload F dX11_two_132 5 rfl ?_
      refine sm_iload_n F dX11_two_134 rfl 2 rfl ?_
      refine sm_iload F dX11_two_135 6 rfl ?_
      refine sm_iload_n F dX11_two_137 rfl 3 rfl ?_
      obtain ⟨z138, hz138, hf⟩ := bd_some hf
      refine sm_callV (rest := [.int z126.1]) F (ct_X11_hasBy l D cI cZ cO a hz138) (cut_D_id cI cZ cO a z126.2 z138.2) rfl rfl rfl qw6_59 qw6_61 qw0_45 qw1_12 qw6_62 hvX11_hasBy ⟨Nat.le_of_ble_eq_true rfl, Nat.le_of_ble_eq_true rfl⟩ ⟨Nat.zero_le _, Nat.zero_le _⟩ 0 11 rfl rfl rfl rfl (Nat.le_of_ble_eq_true rfl) E0_b (fun _ _ _ _ _ _ => trivial) rfl dX11_two_138 [.int z138.1, .int z126.1] rfl ?_
      refine sm_icmp_gt (tgt := 153) F dX11_two_141 (by decide) (fun c141 => ?_) (fun c141 => ?_)
      · replace hf := if_t c141 hf
        refine sm_iinc F [(0, .ref (a 0)), (1, .int x1), (2, .int x2), (3, .int x3), (5, .int (x5 + 1)), (6, .int (x5 / (2 : Int32))), (7, .int (x5 - x5 / (2 : Int32) * (2 : Int32)))] 4 [1, 2, 3, 4, 0, 5, 6] dX11_two_153 rfl kc_i_1 (by decide) rfl ?_
        refine sm_goto (tgt := 68) F dX11_two_156 (by decide) ?_
        refine sm_sub (lv' := [(0, .ref (a 0)), (1, .int x1), (2, .int x2), (3, .int x3), (5, .int (x5 + 1))]) [0, 1, 2, 3, 4] rfl ?_
        exact hk68 z138.2 (x5 + 1) hf
      · replace hf := if_f c141 hf
        refine sm_bipush F dX11_two_144 kc_b_10 ?_
        refine sm_iload F dX11_two_146 5 rfl ?_
        refine sm_imul F dX11_two_148 ?_
        refine sm_iload F dX11_two_149 6 rfl ?_
        refine sm_iadd F dX11_two_151 ?_
        exact sm_iret F dX11_two_152 (Prod.mk.inj (Option.some.inj hf)).1 (congrArg (fun z => (wD cI cZ cO a z)) (Prod.mk.inj (Option.some.inj hf)).2)
set_option maxRecDepth 100000 in
set_option maxHeartbeats 4000000 in
theorem s_X11_two_68 {p : Program} {l : Launch} {e : Env} {s : State} {m : MethodId} {args : Array Value} {below : List Frame} {meth : Method} {c : Code} {A : Nat → Prop} {D : va_G} {cI cZ cO : ClassId} {a : Nat → Nat} {r : Int32} {o : DS} (F : smF p s m args meth c cX11_two 8 (some .int) RX11 D (tyL cI cZ cO) A) (x1 : Int32) (x2 : Int32) (x3 : Int32)  (n : Nat) (u : DS) (x5 : Int32) (hf : f_X11_two_68 x1 x2 x3  n u x5 = some (r, o)) : Sm p l e rmX11_two s m args below meth c D A 8 0 0 (smQ below args s D A (some (.int r)) (wD cI cZ cO a o)) 68 [(0, .ref (a 0)), (1, .int x1), (2, .int x2), (3, .int x3), (5, .int x5)] [] (wD cI cZ cO a u) :=
  lq2_ind (P := fun (u : DS) (x5 : Int32) => Sm p l e rmX11_two s m args below meth c D A 8 0 0 (smQ below args s D A (some (.int r)) (wD cI cZ cO a o)) 68 [(0, .ref (a 0)), (1, .int x1), (2, .int x2), (3, .int x3), (5, .int x5)] [] (wD cI cZ cO a u)) (fun k68 hk68 u x5 h9 => s_X11_two_68_b F x1 x2 x3  k68 hk68 u x5 h9) n u x5 hf
set_option maxRecDepth 100000 in
set_option maxHeartbeats 4000000 in
theorem s_X11_two_53 {p : Program} {l : Launch} {e : Env} {s : State} {m : MethodId} {args : Array Value} {below : List Frame} {meth : Method} {c : Code} {A : Nat → Prop} {D : va_G} {cI cZ cO : ClassId} {a : Nat → Nat} {r : Int32} {o : DS} (F : smF p s m args meth c cX11_two 8 (some .int) RX11 D (tyL cI cZ cO) A) (x1 : Int32) (x2 : Int32) (x3 : Int32)  (u : DS) (x4 : Int32) (hf : f_X11_two_53 x1 x2 x3   u x4 = some (r, o)) : Sm p l e rmX11_two s m args below meth c D A 8 0 0 (smQ below args s D A (some (.int r)) (wD cI cZ cO a o)) 53 [(0, .ref (a 0)), (1, .int x1), (2, .int x2), (3, .int x3), (4, .int x4)] [] (wD cI cZ cO a u) := by
  unfold f_X11_two_53 at hf
  refine sm_iload F dX11_two_53 4 rfl ?_
  refine sm_if_eq (tgt := 65) F dX11_two_55 (by decide) (fun c55 => ?_) (fun c55 => ?_)
  · replace hf := if_t c55 hf
    refine sm_iconst F dX11_two_65 kc_i_0 ?_
    refine sm_istore F [(0, .ref (a 0)), (1, .int x1), (2, .int x2), (3, .int x3), (5, .int (0 : Int32))] [1, 2, 3, 4, 0] dX11_two_66 (by decide) rfl ?_
    exact s_X11_two_68 F x1 x2 x3 smN u (0 : Int32) hf
  · replace hf := if_f c55 hf
    refine sm_aload_n F dX11_two_58 rfl 0 rfl ?_
    refine sm_iload F dX11_two_59 4 rfl ?_
    obtain ⟨z61, hz61, hf⟩ := bd_some hf
    refine sm_callV (rest := []) F (ct_X11_no l D cI cZ cO a hz61) (cut_D_id cI cZ cO a u z61.2) rfl rfl rfl qw5_59 qw5_61 qw0_29 qw1_12 qw5_62 hvX11_no ⟨Nat.le_of_ble_eq_true rfl, Nat.le_of_ble_eq_true rfl⟩ ⟨Nat.zero_le _, Nat.zero_le _⟩ 0 11 rfl rfl rfl rfl (Nat.le_of_ble_eq_true rfl) E0_b (fun _ _ _ _ _ _ => trivial) rfl dX11_two_61 [.int z61.1] rfl ?_
    exact sm_iret F dX11_two_64 (Prod.mk.inj (Option.some.inj hf)).1 (congrArg (fun z => (wD cI cZ cO a z)) (Prod.mk.inj (Option.some.inj hf)).2)
set_option maxRecDepth 100000 in
set_option maxHeartbeats 4000000 in
theorem s_X11_two_20 {p : Program} {l : Launch} {e : Env} {s : State} {m : MethodId} {args : Array Value} {below : List Frame} {meth : Method} {c : Code} {A : Nat → Prop} {D : va_G} {cI cZ cO : ClassId} {a : Nat → Nat} {r : Int32} {o : DS} (F : smF p s m args meth c cX11_two 8 (some .int) RX11 D (tyL cI cZ cO) A) (x1 : Int32) (x2 : Int32) (x3 : Int32)  (u : DS) (y0 : Int32) (hf : f_X11_two_20 x1 x2 x3   u y0 = some (r, o)) : Sm p l e rmX11_two s m args below meth c D A 8 0 0 (smQ below args s D A (some (.int r)) (wD cI cZ cO a o)) 20 [(0, .ref (a 0)), (1, .int x1), (2, .int x2), (3, .int x3)] [.int y0] (wD cI cZ cO a u) := by
  unfold f_X11_two_20 at hf
  refine sm_istore F [(0, .ref (a 0)), (1, .int x1), (2, .int x2), (3, .int x3), (4, .int y0)] [1, 2, 3, 4, 0] dX11_two_20 (by decide) rfl ?_
  refine sm_iload F dX11_two_22 4 rfl ?_
  refine sm_if_ne (tgt := 53) F dX11_two_24 (by decide) (fun c24 => ?_) (fun c24 => ?_)
  · replace hf := if_f c24 hf
    exact s_X11_two_53 F x1 x2 x3 u y0 hf
  · replace hf := if_t c24 hf
    refine sm_aload_n F dX11_two_27 rfl 0 rfl ?_
    refine sm_get (v := .ref (a 1)) F inX11 0 rfl rfl 0 (by decide) qw5_15 rfl rfl dX11_two_28 ?_
    refine sm_iload_n F dX11_two_31 rfl 1 rfl ?_
    obtain ⟨z32, hz32, hf⟩ := bd_some hf
    refine sm_callS (rest := []) F (ct_X11_isHere l D cI cZ cO (fun i => a (pm_D_i1 i)) hz32) (cut_D_i1_ro cI cZ cO a u) rfl rfl rfl qw5_114 qw5_115 qw1_12 qw5_116 hsX11_isHere ⟨Nat.le_of_ble_eq_true rfl, Nat.le_of_ble_eq_true rfl⟩ ⟨Nat.zero_le _, Nat.zero_le _⟩ rfl (Nat.le_of_ble_eq_true rfl) E0_b (fun _ _ _ _ _ _ => trivial) rfl dX11_two_32 [.int z32] rfl ?_
    refine sm_if_eq (tgt := 49) F dX11_two_35 (by decide) (fun c35 => ?_) (fun c35 => ?_)
    · replace hf := if_t c35 hf
      refine sm_bipush F dX11_two_49 kc_b_m3 ?_
      refine sm_istore F [(0, .ref (a 0)), (1, .int x1), (2, .int x2), (3, .int x3), (4, .int ((-3) : Int32))] [1, 2, 3, 4, 0] dX11_two_51 (by decide) rfl ?_
      exact s_X11_two_53 F x1 x2 x3 u ((-3) : Int32) hf
    · replace hf := if_f c35 hf
      refine sm_aload_n F dX11_two_38 rfl 0 rfl ?_
      refine sm_get (v := .ref (a 1)) F inX11 0 rfl rfl 0 (by decide) qw5_15 rfl rfl dX11_two_39 ?_
      refine sm_iload_n F dX11_two_42 rfl 2 rfl ?_
      obtain ⟨z43, hz43, hf⟩ := bd_some hf
      refine sm_callS (rest := []) F (ct_X11_isHere l D cI cZ cO (fun i => a (pm_D_i1 i)) hz43) (cut_D_i1_ro cI cZ cO a u) rfl rfl rfl qw5_114 qw5_115 qw1_12 qw5_116 hsX11_isHere ⟨Nat.le_of_ble_eq_true rfl, Nat.le_of_ble_eq_true rfl⟩ ⟨Nat.zero_le _, Nat.zero_le _⟩ rfl (Nat.le_of_ble_eq_true rfl) E0_b (fun _ _ _ _ _ _ => trivial) rfl dX11_two_43 [.int z43] rfl ?_
      refine sm_if_ne (tgt := 53) F dX11_two_46 (by decide) (fun c46 => ?_) (fun c46 => ?_)
      · replace hf := if_f c46 hf
        exact s_X11_two_53 F x1 x2 x3 u y0 hf
      · replace hf := if_t c46 hf
        refine sm_bipush F dX11_two_49 kc_b_m3 ?_
        refine sm_istore F [(0, .ref (a 0)), (1, .int x1), (2, .int x2), (3, .int x3), (4, .int ((-3) : Int32))] [1, 2, 3, 4, 0] dX11_two_51 (by decide) rfl ?_
        exact s_X11_two_53 F x1 x2 x3 u ((-3) : Int32) hf
set_option maxRecDepth 100000 in
set_option maxHeartbeats 4000000 in
theorem ct_X11_two (l : Launch) (D : va_G) (cI cZ cO : ClassId) (a : Nat → Nat) {u : DS} {x1 : Int32} {x2 : Int32} {x3 : Int32} {r : Int32} {o : DS} (hf : f_X11_two u x1 x2 x3 = some (r, o)) : Ct l yX11_two (uw (Cond.code yX11_two cX11_two 8 (some .int))) rmX11_two D (tyL cI cZ cO) E0 [.ref (a 0), .int x1, .int x2, .int x3] (wD cI cZ cO a u) (some (.int r)) (wD cI cZ cO a o) := by
  refine sm_start (cc := cX11_two) (maxL := 8) (ret := (some .int)) (own := RX11) (by decide) rfl rfl (Nat.le_of_ble_eq_true rfl) (lv := [(0, .ref (a 0)), (1, .int x1), (2, .int x2), (3, .int x3)]) rfl ?_
  intro p e s m below meth c A F hE hA
  unfold f_X11_two at hf
  refine sm_aload_n F dX11_two_0 rfl 0 rfl ?_
  refine sm_iload_n F dX11_two_1 rfl 1 rfl ?_
  refine sm_iload_n F dX11_two_2 rfl 2 rfl ?_
  obtain ⟨z3, hz3, hf⟩ := bd_some hf
  refine sm_callV (rest := []) F (ct_X11_areTwo l D cI cZ cO a hz3) (cut_D_id cI cZ cO a u u) rfl rfl rfl qw5_106 qw5_108 qw0_36 qw1_12 qw5_109 hvX11_areTwo ⟨Nat.le_of_ble_eq_true rfl, Nat.le_of_ble_eq_true rfl⟩ ⟨Nat.zero_le _, Nat.zero_le _⟩ 0 11 rfl rfl rfl rfl (Nat.le_of_ble_eq_true rfl) E0_b (fun _ _ _ _ _ _ => trivial) rfl dX11_two_3 [.int z3] rfl ?_
  refine sm_if_eq (tgt := 19) F dX11_two_6 (by decide) (fun c6 => ?_) (fun c6 => ?_)
  · replace hf := if_t c6 hf
    refine sm_iconst F dX11_two_19 kc_i_m1 ?_
    exact s_X11_two_20 F x1 x2 x3 u ((-1) : Int32) hf
  · replace hf := if_f c6 hf
    refine sm_iload_n F dX11_two_9 rfl 3 rfl ?_
    refine sm_iconst F dX11_two_10 kc_i_0 ?_
    refine sm_bipush F dX11_two_11 kc_b_30 ?_
    obtain ⟨z13, hz13, hf⟩ := bd_some hf
    refine sm_callS (rest := []) F (ct_X11_wrongBy l D (tyL cI cZ cO) hz13) (cut_D_none cI cZ cO a u) rfl rfl rfl qw5_159 qw5_160 qw1_12 qw5_161 hsX11_wrongBy ⟨Nat.le_of_ble_eq_true rfl, Nat.le_of_ble_eq_true rfl⟩ ⟨Nat.zero_le _, Nat.zero_le _⟩ rfl (Nat.le_of_ble_eq_true rfl) E0_b (fun _ _ _ _ _ _ => trivial) rfl dX11_two_13 [.int z13] rfl ?_
    refine sm_goto (tgt := 20) F dX11_two_16 (by decide) ?_
    exact s_X11_two_20 F x1 x2 x3 u z13 hf
/-! SoManyForgottenModel.gcd(JJ)J -/
abbrev rmX11_gcd : Room := { frames := 0, cells := 0, slots := 0, locals := 0 }
set_option maxRecDepth 100000 in
theorem hsX11_gcd : yX11_gcd.cls ≠ "java/lang/invoke/MethodHandle" ∧ yX11_gcd.cls ≠ "java/lang/invoke/VarHandle" ∧ (parseMethodDescriptor yX11_gcd.desc).map (fun d => d.parameters.length) = some 2 := by decide +kernel
set_option maxRecDepth 100000 in
set_option maxHeartbeats 4000000 in
theorem s_X11_gcd_6_b {p : Program} {l : Launch} {e : Env} {s : State} {m : MethodId} {args : Array Value} {below : List Frame} {meth : Method} {c : Code} {A : Nat → Prop} {D : va_G} {tys : List (ClassId × FieldType)} {r : Int64} (F : smF p s m args meth c cX11_gcd 10 (some .long) RX11 D tys A)  (k6 : Int64 → Int64 → Option Int64) (hk6 : ∀ (x4' : Int64) (x6' : Int64), k6 x4' x6' = some r → Sm p l e rmX11_gcd s m args below meth c D A 10 0 0 (smQ below args s D A (some (.long r)) []) 6 [(4, .long x4'), (6, .long x6')] [] []) (x4 : Int64) (x6 : Int64) (hf : b_X11_gcd_6   k6 x4 x6 = some r) : Sm p l e rmX11_gcd s m args below meth c D A 10 0 0 (smQ below args s D A (some (.long r)) []) 6 [(4, .long x4), (6, .long x6)] [] [] := by
  unfold b_X11_gcd_6 at hf
  refine sm_lload F dX11_gcd_6 1 rfl ?_
  refine sm_lconst F dX11_gcd_8 kc_l_0 ?_
  refine sm_lcmp F dX11_gcd_9 ?_
  refine sm_if_eq (tgt := 31) F dX11_gcd_10 (by decide) (fun c10 => ?_) (fun c10 => ?_)
  · replace hf := if_t c10 hf
    refine sm_lload F dX11_gcd_31 0 rfl ?_
    exact sm_lret F dX11_gcd_33 (Option.some.inj hf) rfl
  · replace hf := if_f c10 hf
    refine sm_lload F dX11_gcd_13 0 rfl ?_
    refine sm_lload F dX11_gcd_15 1 rfl ?_
    obtain ⟨h17, hf⟩ := dzl_some hf
    refine sm_lrem F dX11_gcd_17 h17 ?_
    refine sm_lstore F [(6, .long x6), (8, .long (x4 - x4 / x6 * x6))] [2, 0] dX11_gcd_18 (by decide) rfl ?_
    refine sm_lload F dX11_gcd_20 0 rfl ?_
    refine sm_lstore F [(4, .long x6), (8, .long (x4 - x4 / x6 * x6))] [0, 2] dX11_gcd_22 (by decide) rfl ?_
    refine sm_lload F dX11_gcd_24 1 rfl ?_
    refine sm_lstore F [(4, .long x6), (6, .long (x4 - x4 / x6 * x6))] [1, 0] dX11_gcd_26 (by decide) rfl ?_
    refine sm_goto (tgt := 6) F dX11_gcd_28 (by decide) ?_
    exact hk6 x6 (x4 - x4 / x6 * x6) hf
set_option maxRecDepth 100000 in
set_option maxHeartbeats 4000000 in
theorem s_X11_gcd_6 {p : Program} {l : Launch} {e : Env} {s : State} {m : MethodId} {args : Array Value} {below : List Frame} {meth : Method} {c : Code} {A : Nat → Prop} {D : va_G} {tys : List (ClassId × FieldType)} {r : Int64} (F : smF p s m args meth c cX11_gcd 10 (some .long) RX11 D tys A)   (n : Nat) (x4 : Int64) (x6 : Int64) (hf : f_X11_gcd_6   n x4 x6 = some r) : Sm p l e rmX11_gcd s m args below meth c D A 10 0 0 (smQ below args s D A (some (.long r)) []) 6 [(4, .long x4), (6, .long x6)] [] [] :=
  lq2_ind (P := fun (x4 : Int64) (x6 : Int64) => Sm p l e rmX11_gcd s m args below meth c D A 10 0 0 (smQ below args s D A (some (.long r)) []) 6 [(4, .long x4), (6, .long x6)] [] []) (fun k6 hk6 x4 x6 h9 => s_X11_gcd_6_b F   k6 hk6 x4 x6 h9) n x4 x6 hf
set_option maxRecDepth 100000 in
set_option maxHeartbeats 4000000 in
theorem ct_X11_gcd (l : Launch) (D : va_G) (tys : List (ClassId × FieldType)) {x0 : Int64} {x2 : Int64} {r : Int64} (hf : f_X11_gcd x0 x2 = some r) : Ct l yX11_gcd (uw (Cond.code yX11_gcd cX11_gcd 10 (some .long))) rmX11_gcd D tys E0 [.long x0, .long x2] [] (some (.long r)) [] := by
  refine sm_start (cc := cX11_gcd) (maxL := 10) (ret := (some .long)) (own := RX11) (by decide) rfl rfl (Nat.le_of_ble_eq_true rfl) (lv := [(0, .long x0), (2, .long x2)]) rfl ?_
  intro p e s m below meth c A F hE hA
  unfold f_X11_gcd at hf
  refine sm_lload_n F dX11_gcd_0 rfl 0 rfl ?_
  refine sm_lstore F [(2, .long x2), (4, .long x0)] [2, 0] dX11_gcd_1 (by decide) rfl ?_
  refine sm_lload_n F dX11_gcd_3 rfl 0 rfl ?_
  refine sm_lstore F [(4, .long x0), (6, .long x2)] [2, 0] dX11_gcd_4 (by decide) rfl ?_
  exact s_X11_gcd_6 F  smN x0 x2 hf
/-! SoManyForgottenModel.partOf(JJI)J -/
abbrev rmX11_partOf : Room := { frames := 1, cells := 0, slots := 0, locals := 29 }
set_option maxRecDepth 100000 in
theorem hsX11_partOf : yX11_partOf.cls ≠ "java/lang/invoke/MethodHandle" ∧ yX11_partOf.cls ≠ "java/lang/invoke/VarHandle" ∧ (parseMethodDescriptor yX11_partOf.desc).map (fun d => d.parameters.length) = some 3 := by decide +kernel
set_option maxRecDepth 100000 in
set_option maxHeartbeats 4000000 in
theorem s_X11_partOf_20 {p : Program} {l : Launch} {e : Env} {s : State} {m : MethodId} {args : Array Value} {below : List Frame} {meth : Method} {c : Code} {A : Nat → Prop} {D : va_G} {tys : List (ClassId × FieldType)} {r : Int64} (F : smF p s m args meth c cX11_partOf 5 (some .long) RX11 D tys A) (x0 : Int64) (x2 : Int64)  (y0 : Int64) (hf : f_X11_partOf_20 x0 x2   y0 = some r) : Sm p l e rmX11_partOf s m args below meth c D A 5 0 0 (smQ below args s D A (some (.long r)) []) 20 [(0, .long x0), (2, .long x2)] [.long y0] [] := by
  unfold f_X11_partOf_20 at hf
  refine sm_lload_n F dX11_partOf_20 rfl 0 rfl ?_
  refine sm_lload_n F dX11_partOf_21 rfl 1 rfl ?_
  obtain ⟨z22, hz22, hf⟩ := bd_some hf
  refine sm_callS (rest := [.long y0]) F (ct_X11_gcd l D tys hz22) cut_N_none rfl rfl rfl qw6_82 qw6_83 qw1_12 qw6_84 hsX11_gcd ⟨Nat.le_of_ble_eq_true rfl, Nat.le_of_ble_eq_true rfl⟩ ⟨Nat.zero_le _, Nat.zero_le _⟩ rfl (Nat.le_of_ble_eq_true rfl) E0_b (fun _ _ _ _ _ _ => trivial) rfl dX11_partOf_22 [.long z22, .long y0] rfl ?_
  obtain ⟨h25, hf⟩ := dzl_some hf
  refine sm_ldiv F dX11_partOf_25 h25 ?_
  exact sm_lret F dX11_partOf_26 (Option.some.inj hf) rfl
set_option maxRecDepth 100000 in
set_option maxHeartbeats 4000000 in
theorem ct_X11_partOf (l : Launch) (D : va_G) (tys : List (ClassId × FieldType)) {x0 : Int64} {x2 : Int64} {x4 : Int32} {r : Int64} (hf : f_X11_partOf x0 x2 x4 = some r) : Ct l yX11_partOf (uw (Cond.code yX11_partOf cX11_partOf 5 (some .long))) rmX11_partOf D tys E0 [.long x0, .long x2, .int x4] [] (some (.long r)) [] := by
  refine sm_start (cc := cX11_partOf) (maxL := 5) (ret := (some .long)) (own := RX11) (by decide) rfl rfl (Nat.le_of_ble_eq_true rfl) (lv := [(0, .long x0), (2, .long x2), (4, .int x4)]) rfl ?_
  intro p e s m below meth c A F hE hA
  unfold f_X11_partOf at hf
  refine sm_lload_n F dX11_partOf_0 rfl 0 rfl ?_
  refine sm_lconst F dX11_partOf_1 kc_l_0 ?_
  refine sm_lcmp F dX11_partOf_2 ?_
  refine sm_if_ne (tgt := 10) F dX11_partOf_3 (by decide) (fun c3 => ?_) (fun c3 => ?_)
  · replace hf := if_f c3 hf
    refine sm_iload F dX11_partOf_10 2 rfl ?_
    refine sm_if_ne (tgt := 19) F dX11_partOf_12 (by decide) (fun c12 => ?_) (fun c12 => ?_)
    · replace hf := if_f c12 hf
      refine sm_lload_n F dX11_partOf_19 rfl 1 rfl ?_
      refine sm_sub (lv' := [(0, .long x0), (2, .long x2)]) [0, 1] rfl ?_
      exact s_X11_partOf_20 F x0 x2 x2 hf
    · replace hf := if_t c12 hf
      refine sm_lload_n F dX11_partOf_15 rfl 0 rfl ?_
      refine sm_goto (tgt := 20) F dX11_partOf_16 (by decide) ?_
      refine sm_sub (lv' := [(0, .long x0), (2, .long x2)]) [0, 1] rfl ?_
      exact s_X11_partOf_20 F x0 x2 x0 hf
  · replace hf := if_t c3 hf
    refine sm_iload F dX11_partOf_6 2 rfl ?_
    refine sm_i2l F dX11_partOf_8 ?_
    exact sm_lret F dX11_partOf_9 (Option.some.inj hf) rfl
/-! SoManyForgottenModel.feasts([I)V -/
abbrev rmX11_feasts : Room := { frames := 2, cells := 0, slots := 0, locals := 42 }
set_option maxRecDepth 100000 in
theorem hsX11_feasts : yX11_feasts.cls ≠ "java/lang/invoke/MethodHandle" ∧ yX11_feasts.cls ≠ "java/lang/invoke/VarHandle" ∧ (parseMethodDescriptor yX11_feasts.desc).map (fun d => d.parameters.length) = some 1 := by decide +kernel
set_option maxRecDepth 100000 in
set_option maxHeartbeats 4000000 in
theorem s_X11_feasts_11_b {p : Program} {l : Launch} {e : Env} {s : State} {m : MethodId} {args : Array Value} {below : List Frame} {meth : Method} {c : Code} {A : Nat → Prop} {D : va_G} {cI cZ cO : ClassId} {a : Nat → Nat} {o : Nat → Int32} (F : smF p s m args meth c cX11_feasts 3 none RX11 D (tyL cI cZ cO) A)  (k2 : (Nat → Int32) → Int32 → Option (Nat → Int32)) (hk2 : ∀ (u' : Nat → Int32) (x1' : Int32), k2 u' x1' = some o → Sm p l e rmX11_feasts s m args below meth c D A 3 0 0 (smQ below args s D A none (wI cI cZ cO a o)) 2 [(0, .ref (a 0)), (1, .int x1')] [] (wI cI cZ cO a u')) (k11 : (Nat → Int32) → Int32 → Int32 → Option (Nat → Int32)) (hk11 : ∀ (u' : Nat → Int32) (x1' : Int32) (x2' : Int32), k11 u' x1' x2' = some o → Sm p l e rmX11_feasts s m args below meth c D A 3 0 0 (smQ below args s D A none (wI cI cZ cO a o)) 11 [(0, .ref (a 0)), (1, .int x1'), (2, .int x2')] [] (wI cI cZ cO a u')) (u : Nat → Int32) (x1 : Int32) (x2 : Int32) (hf : b_X11_feasts_11  k2 k11 u x1 x2 = some o) : Sm p l e rmX11_feasts s m args below meth c D A 3 0 0 (smQ below args s D A none (wI cI cZ cO a o)) 11 [(0, .ref (a 0)), (1, .int x1), (2, .int x2)] [] (wI cI cZ cO a u) := by
  unfold b_X11_feasts_11 at hf
  refine sm_iload_n F dX11_feasts_11 rfl 2 rfl ?_
  refine sm_aload_n F dX11_feasts_12 rfl 0 rfl ?_
  refine sm_iconst F dX11_feasts_13 kc_i_0 ?_
  obtain ⟨h14, hf⟩ := ck_some hf
  refine sm_iald F 0 0 rfl rfl h14 dX11_feasts_14 ?_
  refine sm_icmp_ge (tgt := 64) F dX11_feasts_15 (by decide) (fun c15 => ?_) (fun c15 => ?_)
  · replace hf := if_t c15 hf
    refine sm_iinc F [(0, .ref (a 0)), (1, .int (x1 + 1)), (2, .int x2)] 1 [1, 0, 2] dX11_feasts_64 rfl kc_i_1 (by decide) rfl ?_
    refine sm_goto (tgt := 2) F dX11_feasts_67 (by decide) ?_
    refine sm_sub (lv' := [(0, .ref (a 0)), (1, .int (x1 + 1))]) [0, 1] rfl ?_
    exact hk2 u (x1 + 1) hf
  · replace hf := if_f c15 hf
    refine sm_iload_n F dX11_feasts_18 rfl 1 rfl ?_
    refine sm_iload_n F dX11_feasts_19 rfl 2 rfl ?_
    refine sm_icmp_eq (tgt := 58) F dX11_feasts_20 (by decide) (fun c20 => ?_) (fun c20 => ?_)
    · replace hf := if_t c20 hf
      refine sm_iinc F [(0, .ref (a 0)), (1, .int x1), (2, .int (x2 + 1))] 2 [1, 2, 0] dX11_feasts_58 rfl kc_i_1 (by decide) rfl ?_
      refine sm_goto (tgt := 11) F dX11_feasts_61 (by decide) ?_
      exact hk11 u x1 (x2 + 1) hf
    · replace hf := if_f c20 hf
      refine sm_aload_n F dX11_feasts_23 rfl 0 rfl ?_
      refine sm_iload_n F dX11_feasts_24 rfl 1 rfl ?_
      obtain ⟨z25, hz25, hf⟩ := bd_some hf
      refine sm_callS (rest := []) F (ct_X11_isHere l D cI cZ cO a hz25) (cut_I_id cI cZ cO a u u) rfl rfl rfl qw5_114 qw5_115 qw1_12 qw5_116 hsX11_isHere ⟨Nat.le_of_ble_eq_true rfl, Nat.le_of_ble_eq_true rfl⟩ ⟨Nat.zero_le _, Nat.zero_le _⟩ rfl (Nat.le_of_ble_eq_true rfl) E0_b (fun _ _ _ _ _ _ => trivial) rfl dX11_feasts_25 [.int z25] rfl ?_
      refine sm_if_eq (tgt := 58) F dX11_feasts_28 (by decide) (fun c28 => ?_) (fun c28 => ?_)
      · replace hf := if_t c28 hf
        refine sm_iinc F [(0, .ref (a 0)), (1, .int x1), (2, .int (x2 + 1))] 2 [1, 2, 0] dX11_feasts_58 rfl kc_i_1 (by decide) rfl ?_
        refine sm_goto (tgt := 11) F dX11_feasts_61 (by decide) ?_
        exact hk11 u x1 (x2 + 1) hf
      · replace hf := if_f c28 hf
        refine sm_aload_n F dX11_feasts_31 rfl 0 rfl ?_
        refine sm_iload_n F dX11_feasts_32 rfl 2 rfl ?_
        obtain ⟨z33, hz33, hf⟩ := bd_some hf
        refine sm_callS (rest := []) F (ct_X11_isHere l D cI cZ cO a hz33) (cut_I_id cI cZ cO a u u) rfl rfl rfl qw5_114 qw5_115 qw1_12 qw5_116 hsX11_isHere ⟨Nat.le_of_ble_eq_true rfl, Nat.le_of_ble_eq_true rfl⟩ ⟨Nat.zero_le _, Nat.zero_le _⟩ rfl (Nat.le_of_ble_eq_true rfl) E0_b (fun _ _ _ _ _ _ => trivial) rfl dX11_feasts_33 [.int z33] rfl ?_
        refine sm_if_eq (tgt := 58) F dX11_feasts_36 (by decide) (fun c36 => ?_) (fun c36 => ?_)
        · replace hf := if_t c36 hf
          refine sm_iinc F [(0, .ref (a 0)), (1, .int x1), (2, .int (x2 + 1))] 2 [1, 2, 0] dX11_feasts_58 rfl kc_i_1 (by decide) rfl ?_
          refine sm_goto (tgt := 11) F dX11_feasts_61 (by decide) ?_
          exact hk11 u x1 (x2 + 1) hf
        · replace hf := if_f c36 hf
          refine sm_aload_n F dX11_feasts_39 rfl 0 rfl ?_
          refine sm_iload_n F dX11_feasts_40 rfl 1 rfl ?_
          refine sm_iload_n F dX11_feasts_41 rfl 2 rfl ?_
          obtain ⟨z42, hz42, hf⟩ := bd_some hf
          refine sm_callS (rest := [.ref (a 0)]) F (ct_X11_by l D (tyL cI cZ cO) hz42) (cut_I_none cI cZ cO a u) rfl rfl rfl qw5_103 qw5_104 qw1_12 qw5_105 hsX11_by ⟨Nat.le_of_ble_eq_true rfl, Nat.le_of_ble_eq_true rfl⟩ ⟨Nat.zero_le _, Nat.zero_le _⟩ rfl (Nat.le_of_ble_eq_true rfl) E0_b (fun _ _ _ _ _ _ => trivial) rfl dX11_feasts_42 [.int z42, .ref (a 0)] rfl ?_
          refine sm_aload_n F dX11_feasts_45 rfl 0 rfl ?_
          refine sm_iload_n F dX11_feasts_46 rfl 1 rfl ?_
          refine sm_iload_n F dX11_feasts_47 rfl 2 rfl ?_
          obtain ⟨z48, hz48, hf⟩ := bd_some hf
          refine sm_callS (rest := [.ref (a 0), .int z42, .ref (a 0)]) F (ct_X11_by l D (tyL cI cZ cO) hz48) (cut_I_none cI cZ cO a u) rfl rfl rfl qw5_103 qw5_104 qw1_12 qw5_105 hsX11_by ⟨Nat.le_of_ble_eq_true rfl, Nat.le_of_ble_eq_true rfl⟩ ⟨Nat.zero_le _, Nat.zero_le _⟩ rfl (Nat.le_of_ble_eq_true rfl) E0_b (fun _ _ _ _ _ _ => trivial) rfl dX11_feasts_48 [.int z48, .ref (a 0), .int z42, .ref (a 0)] rfl ?_
          obtain ⟨h51, hf⟩ := ck_some hf
          refine sm_iald F 0 0 rfl rfl h51 dX11_feasts_51 ?_
          refine sm_iconst F dX11_feasts_52 kc_i_2 ?_
          refine sm_iadd F dX11_feasts_53 ?_
          obtain ⟨z54, hz54, hf⟩ := bd_some hf
          refine sm_callS (rest := [.int z42, .ref (a 0)]) F (ct_X11_held l D (tyL cI cZ cO) hz54) (cut_I_none cI cZ cO a u) rfl rfl rfl qw5_120 qw5_121 qw1_12 qw5_122 hsX11_held ⟨Nat.le_of_ble_eq_true rfl, Nat.le_of_ble_eq_true rfl⟩ ⟨Nat.zero_le _, Nat.zero_le _⟩ rfl (Nat.le_of_ble_eq_true rfl) E0_b (fun _ _ _ _ _ _ => trivial) rfl dX11_feasts_54 [.int z54, .int z42, .ref (a 0)] rfl ?_
          obtain ⟨h57, hf⟩ := ck_some hf
          refine sm_iast F 0 0 rfl rfl h57 (wI cI cZ cO a (upd u (Int32.toNatClampNeg z42) z54)) rfl dX11_feasts_57 ?_
          refine sm_iinc F [(0, .ref (a 0)), (1, .int x1), (2, .int (x2 + 1))] 2 [1, 2, 0] dX11_feasts_58 rfl kc_i_1 (by decide) rfl ?_
          refine sm_goto (tgt := 11) F dX11_feasts_61 (by decide) ?_
          exact hk11 (upd u (Int32.toNatClampNeg z42) z54) x1 (x2 + 1) hf
set_option maxRecDepth 100000 in
set_option maxHeartbeats 4000000 in
theorem s_X11_feasts_11 {p : Program} {l : Launch} {e : Env} {s : State} {m : MethodId} {args : Array Value} {below : List Frame} {meth : Method} {c : Code} {A : Nat → Prop} {D : va_G} {cI cZ cO : ClassId} {a : Nat → Nat} {o : Nat → Int32} (F : smF p s m args meth c cX11_feasts 3 none RX11 D (tyL cI cZ cO) A)  (k2 : (Nat → Int32) → Int32 → Option (Nat → Int32)) (hk2 : ∀ (u' : Nat → Int32) (x1' : Int32), k2 u' x1' = some o → Sm p l e rmX11_feasts s m args below meth c D A 3 0 0 (smQ below args s D A none (wI cI cZ cO a o)) 2 [(0, .ref (a 0)), (1, .int x1')] [] (wI cI cZ cO a u')) (n : Nat) (u : Nat → Int32) (x1 : Int32) (x2 : Int32) (hf : f_X11_feasts_11  k2 n u x1 x2 = some o) : Sm p l e rmX11_feasts s m args below meth c D A 3 0 0 (smQ below args s D A none (wI cI cZ cO a o)) 11 [(0, .ref (a 0)), (1, .int x1), (2, .int x2)] [] (wI cI cZ cO a u) :=
  lq3_ind (P := fun (u : Nat → Int32) (x1 : Int32) (x2 : Int32) => Sm p l e rmX11_feasts s m args below meth c D A 3 0 0 (smQ below args s D A none (wI cI cZ cO a o)) 11 [(0, .ref (a 0)), (1, .int x1), (2, .int x2)] [] (wI cI cZ cO a u)) (fun k11 hk11 u x1 x2 h9 => s_X11_feasts_11_b F  k2 hk2 k11 hk11 u x1 x2 h9) n u x1 x2 hf
set_option maxRecDepth 100000 in
set_option maxHeartbeats 4000000 in
theorem s_X11_feasts_2_b {p : Program} {l : Launch} {e : Env} {s : State} {m : MethodId} {args : Array Value} {below : List Frame} {meth : Method} {c : Code} {A : Nat → Prop} {D : va_G} {cI cZ cO : ClassId} {a : Nat → Nat} {o : Nat → Int32} (F : smF p s m args meth c cX11_feasts 3 none RX11 D (tyL cI cZ cO) A)  (k2 : (Nat → Int32) → Int32 → Option (Nat → Int32)) (hk2 : ∀ (u' : Nat → Int32) (x1' : Int32), k2 u' x1' = some o → Sm p l e rmX11_feasts s m args below meth c D A 3 0 0 (smQ below args s D A none (wI cI cZ cO a o)) 2 [(0, .ref (a 0)), (1, .int x1')] [] (wI cI cZ cO a u')) (u : Nat → Int32) (x1 : Int32) (hf : b_X11_feasts_2   k2 u x1 = some o) : Sm p l e rmX11_feasts s m args below meth c D A 3 0 0 (smQ below args s D A none (wI cI cZ cO a o)) 2 [(0, .ref (a 0)), (1, .int x1)] [] (wI cI cZ cO a u) := by
  unfold b_X11_feasts_2 at hf
  refine sm_iload_n F dX11_feasts_2 rfl 1 rfl ?_
  refine sm_aload_n F dX11_feasts_3 rfl 0 rfl ?_
  refine sm_iconst F dX11_feasts_4 kc_i_0 ?_
  obtain ⟨h5, hf⟩ := ck_some hf
  refine sm_iald F 0 0 rfl rfl h5 dX11_feasts_5 ?_
  refine sm_icmp_ge (tgt := 70) F dX11_feasts_6 (by decide) (fun c6 => ?_) (fun c6 => ?_)
  · replace hf := if_t c6 hf
    exact sm_vret F dX11_feasts_70 (congrArg (fun z => (wI cI cZ cO a z)) (Option.some.inj hf))
  · replace hf := if_f c6 hf
    refine sm_iconst F dX11_feasts_9 kc_i_0 ?_
    refine sm_istore_n F [(0, .ref (a 0)), (1, .int x1), (2, .int (0 : Int32))] [1, 2, 0] dX11_feasts_10 rfl (by decide) rfl ?_
    exact s_X11_feasts_11 F k2 hk2 smN u x1 (0 : Int32) hf
set_option maxRecDepth 100000 in
set_option maxHeartbeats 4000000 in
theorem s_X11_feasts_2 {p : Program} {l : Launch} {e : Env} {s : State} {m : MethodId} {args : Array Value} {below : List Frame} {meth : Method} {c : Code} {A : Nat → Prop} {D : va_G} {cI cZ cO : ClassId} {a : Nat → Nat} {o : Nat → Int32} (F : smF p s m args meth c cX11_feasts 3 none RX11 D (tyL cI cZ cO) A)   (n : Nat) (u : Nat → Int32) (x1 : Int32) (hf : f_X11_feasts_2   n u x1 = some o) : Sm p l e rmX11_feasts s m args below meth c D A 3 0 0 (smQ below args s D A none (wI cI cZ cO a o)) 2 [(0, .ref (a 0)), (1, .int x1)] [] (wI cI cZ cO a u) :=
  lq2_ind (P := fun (u : Nat → Int32) (x1 : Int32) => Sm p l e rmX11_feasts s m args below meth c D A 3 0 0 (smQ below args s D A none (wI cI cZ cO a o)) 2 [(0, .ref (a 0)), (1, .int x1)] [] (wI cI cZ cO a u)) (fun k2 hk2 u x1 h9 => s_X11_feasts_2_b F   k2 hk2 u x1 h9) n u x1 hf
set_option maxRecDepth 100000 in
set_option maxHeartbeats 4000000 in
theorem ct_X11_feasts (l : Launch) (D : va_G) (cI cZ cO : ClassId) (a : Nat → Nat) {u : Nat → Int32} {o : Nat → Int32} (hf : f_X11_feasts u = some o) : Ct l yX11_feasts (uw (Cond.code yX11_feasts cX11_feasts 3 none)) rmX11_feasts D (tyL cI cZ cO) E0 [.ref (a 0)] (wI cI cZ cO a u) none (wI cI cZ cO a o) := by
  refine sm_start (cc := cX11_feasts) (maxL := 3) (ret := none) (own := RX11) (by decide) rfl rfl (Nat.le_of_ble_eq_true rfl) (lv := [(0, .ref (a 0))]) rfl ?_
  intro p e s m below meth c A F hE hA
  unfold f_X11_feasts at hf
  refine sm_iconst F dX11_feasts_0 kc_i_0 ?_
  refine sm_istore_n F [(0, .ref (a 0)), (1, .int (0 : Int32))] [1, 0] dX11_feasts_1 rfl (by decide) rfl ?_
  exact s_X11_feasts_2 F  smN u (0 : Int32) hf
/-! SoManyForgottenModel.feast(IIII)J -/
abbrev rmX11_feast : Room := { frames := 5, cells := 0, slots := 0, locals := 110 }
set_option maxRecDepth 100000 in
theorem hvX11_feast : yX11_feast.cls = RX11 ∧ yX11_feast.cls ≠ "java/lang/invoke/MethodHandle" ∧ yX11_feast.cls ≠ "java/lang/invoke/VarHandle" ∧ (parseMethodDescriptor yX11_feast.desc).map (fun d => d.parameters.length) = some 4 := by decide +kernel
set_option maxRecDepth 100000 in
set_option maxHeartbeats 4000000 in
theorem s_X11_feast_23 {p : Program} {l : Launch} {e : Env} {s : State} {m : MethodId} {args : Array Value} {below : List Frame} {meth : Method} {c : Code} {A : Nat → Prop} {D : va_G} {cI cZ cO : ClassId} {a : Nat → Nat} {r : Int64} {o : DS} (F : smF p s m args meth c cX11_feast 13 (some .long) RX11 D (tyL cI cZ cO) A)   (u : DS) (hf : f_X11_feast_23    u = some (r, o)) : Sm p l e rmX11_feast s m args below meth c D A 13 0 0 (smQ below args s D A (some (.long r)) (wD cI cZ cO a o)) 23 [(0, .ref (a 0))] [] (wD cI cZ cO a u) := by
  unfold f_X11_feast_23 at hf
  refine sm_aload_n F dX11_feast_23 rfl 0 rfl ?_
  refine sm_bipush F dX11_feast_24 kc_b_m4 ?_
  obtain ⟨z26, hz26, hf⟩ := bd_some hf
  refine sm_callV (rest := []) F (ct_X11_noWide l D cI cZ cO a hz26) (cut_D_id cI cZ cO a u z26.2) rfl rfl rfl qw6_71 qw6_73 qw0_47 qw1_12 qw6_74 hvX11_noWide ⟨Nat.le_of_ble_eq_true rfl, Nat.le_of_ble_eq_true rfl⟩ ⟨Nat.zero_le _, Nat.zero_le _⟩ 0 11 rfl rfl rfl rfl (Nat.le_of_ble_eq_true rfl) E0_b (fun _ _ _ _ _ _ => trivial) rfl dX11_feast_26 [.long z26.1] rfl ?_
  exact sm_lret F dX11_feast_29 (Prod.mk.inj (Option.some.inj hf)).1 (congrArg (fun z => (wD cI cZ cO a z)) (Prod.mk.inj (Option.some.inj hf)).2)
set_option maxRecDepth 100000 in
set_option maxHeartbeats 4000000 in
theorem s_X11_feast_42 {p : Program} {l : Launch} {e : Env} {s : State} {m : MethodId} {args : Array Value} {below : List Frame} {meth : Method} {c : Code} {A : Nat → Prop} {D : va_G} {cI cZ cO : ClassId} {a : Nat → Nat} {r : Int64} {o : DS} (F : smF p s m args meth c cX11_feast 13 (some .long) RX11 D (tyL cI cZ cO) A)   (u : DS) (hf : f_X11_feast_42    u = some (r, o)) : Sm p l e rmX11_feast s m args below meth c D A 13 0 0 (smQ below args s D A (some (.long r)) (wD cI cZ cO a o)) 42 [(0, .ref (a 0))] [] (wD cI cZ cO a u) := by
  unfold f_X11_feast_42 at hf
  refine sm_aload_n F dX11_feast_42 rfl 0 rfl ?_
  refine sm_bipush F dX11_feast_43 kc_b_m6 ?_
  obtain ⟨z45, hz45, hf⟩ := bd_some hf
  refine sm_callV (rest := []) F (ct_X11_noWide l D cI cZ cO a hz45) (cut_D_id cI cZ cO a u z45.2) rfl rfl rfl qw6_71 qw6_73 qw0_47 qw1_12 qw6_74 hvX11_noWide ⟨Nat.le_of_ble_eq_true rfl, Nat.le_of_ble_eq_true rfl⟩ ⟨Nat.zero_le _, Nat.zero_le _⟩ 0 11 rfl rfl rfl rfl (Nat.le_of_ble_eq_true rfl) E0_b (fun _ _ _ _ _ _ => trivial) rfl dX11_feast_45 [.long z45.1] rfl ?_
  exact sm_lret F dX11_feast_48 (Prod.mk.inj (Option.some.inj hf)).1 (congrArg (fun z => (wD cI cZ cO a z)) (Prod.mk.inj (Option.some.inj hf)).2)
set_option maxRecDepth 100000 in
set_option maxHeartbeats 4000000 in
theorem s_X11_feast_168 {p : Program} {l : Launch} {e : Env} {s : State} {m : MethodId} {args : Array Value} {below : List Frame} {meth : Method} {c : Code} {A : Nat → Prop} {D : va_G} {cI cZ cO : ClassId} {a : Nat → Nat} {r : Int64} {o : DS} (F : smF p s m args meth c cX11_feast 13 (some .long) RX11 D (tyL cI cZ cO) A) (x1 : Int32) (x2 : Int32) (x3 : Int32) (x4 : Int32) (k97 : DS → Int64 → Int64 → Int32 → Option (Int64 × (DS))) (hk97 : ∀ (u' : DS) (x5' : Int64) (x7' : Int64) (x9' : Int32), k97 u' x5' x7' x9' = some (r, o) → Sm p l e rmX11_feast s m args below meth c D A 13 0 0 (smQ below args s D A (some (.long r)) (wD cI cZ cO a o)) 97 [(0, .ref (a 0)), (1, .int x1), (2, .int x2), (3, .int x3), (4, .int x4), (5, .long x5'), (7, .long x7'), (9, .int x9')] [] (wD cI cZ cO a u')) (k122 : DS → Int64 → Int64 → Int32 → Int64 → Int32 → Option (Int64 × (DS))) (hk122 : ∀ (u' : DS) (x5' : Int64) (x7' : Int64) (x9' : Int32) (x10' : Int64) (x12' : Int32), k122 u' x5' x7' x9' x10' x12' = some (r, o) → Sm p l e rmX11_feast s m args below meth c D A 13 0 0 (smQ below args s D A (some (.long r)) (wD cI cZ cO a o)) 122 [(0, .ref (a 0)), (1, .int x1), (2, .int x2), (3, .int x3), (4, .int x4), (5, .long x5'), (7, .long x7'), (9, .int x9'), (10, .long x10'), (12, .int x12')] [] (wD cI cZ cO a u')) (u : DS) (x5 : Int64) (x7 : Int64) (x9 : Int32) (x10 : Int64) (x12 : Int32) (hf : f_X11_feast_168 x1 x2 x3 x4 k97 k122  u x5 x7 x9 x10 x12 = some (r, o)) : Sm p l e rmX11_feast s m args below meth c D A 13 0 0 (smQ below args s D A (some (.long r)) (wD cI cZ cO a o)) 168 [(0, .ref (a 0)), (1, .int x1), (2, .int x2), (3, .int x3), (4, .int x4), (5, .long x5), (7, .long x7), (9, .int x9), (10, .long x10), (12, .int x12)] [] (wD cI cZ cO a u) := by
  unfold f_X11_feast_168 at hf
  refine sm_aload_n F dX11_feast_168 rfl 0 rfl ?_
  refine sm_get (v := .ref (a 2)) F inX11 0 rfl rfl 1 (by decide) qw5_16 rfl rfl dX11_feast_169 ?_
  obtain ⟨z172, hz172, hf⟩ := bd_some hf
  refine sm_callS (rest := []) F (ct_X11_week l D cI cZ cO (fun i => a (pm_D_i2 i)) hz172) (cut_D_i2 cI cZ cO a u z172) rfl rfl rfl qw5_129 qw5_130 qw1_12 qw5_131 hsX11_week ⟨Nat.le_of_ble_eq_true rfl, Nat.le_of_ble_eq_true rfl⟩ ⟨Nat.zero_le _, Nat.zero_le _⟩ rfl (Nat.le_of_ble_eq_true rfl) E0_b (fun _ _ _ _ _ _ => trivial) rfl dX11_feast_172 [] rfl ?_
  refine sm_iinc F [(0, .ref (a 0)), (1, .int x1), (2, .int x2), (3, .int x3), (4, .int x4), (5, .long x5), (7, .long x7), (9, .int x9), (10, .long x10), (12, .int (x12 + 1))] 9 [1, 2, 3, 4, 5, 6, 7, 8, 9, 0] dX11_feast_175 rfl kc_i_1 (by decide) rfl ?_
  refine sm_goto (tgt := 122) F dX11_feast_178 (by decide) ?_
  exact hk122 (sD_m u z172) x5 x7 x9 x10 (x12 + 1) hf
set_option maxRecDepth 100000 in
set_option maxHeartbeats 4000000 in
theorem s_X11_feast_148 {p : Program} {l : Launch} {e : Env} {s : State} {m : MethodId} {args : Array Value} {below : List Frame} {meth : Method} {c : Code} {A : Nat → Prop} {D : va_G} {cI cZ cO : ClassId} {a : Nat → Nat} {r : Int64} {o : DS} (F : smF p s m args meth c cX11_feast 13 (some .long) RX11 D (tyL cI cZ cO) A) (x1 : Int32) (x2 : Int32) (x3 : Int32) (x4 : Int32) (k97 : DS → Int64 → Int64 → Int32 → Option (Int64 × (DS))) (hk97 : ∀ (u' : DS) (x5' : Int64) (x7' : Int64) (x9' : Int32), k97 u' x5' x7' x9' = some (r, o) → Sm p l e rmX11_feast s m args below meth c D A 13 0 0 (smQ below args s D A (some (.long r)) (wD cI cZ cO a o)) 97 [(0, .ref (a 0)), (1, .int x1), (2, .int x2), (3, .int x3), (4, .int x4), (5, .long x5'), (7, .long x7'), (9, .int x9')] [] (wD cI cZ cO a u')) (k122 : DS → Int64 → Int64 → Int32 → Int64 → Int32 → Option (Int64 × (DS))) (hk122 : ∀ (u' : DS) (x5' : Int64) (x7' : Int64) (x9' : Int32) (x10' : Int64) (x12' : Int32), k122 u' x5' x7' x9' x10' x12' = some (r, o) → Sm p l e rmX11_feast s m args below meth c D A 13 0 0 (smQ below args s D A (some (.long r)) (wD cI cZ cO a o)) 122 [(0, .ref (a 0)), (1, .int x1), (2, .int x2), (3, .int x3), (4, .int x4), (5, .long x5'), (7, .long x7'), (9, .int x9'), (10, .long x10'), (12, .int x12')] [] (wD cI cZ cO a u')) (u : DS) (x5 : Int64) (x7 : Int64) (x9 : Int32) (x12 : Int32) (y0 : Int64) (y1 : Int64) (hf : f_X11_feast_148 x1 x2 x3 x4 k97 k122  u x5 x7 x9 x12 y0 y1 = some (r, o)) : Sm p l e rmX11_feast s m args below meth c D A 13 0 0 (smQ below args s D A (some (.long r)) (wD cI cZ cO a o)) 148 [(0, .ref (a 0)), (1, .int x1), (2, .int x2), (3, .int x3), (4, .int x4), (5, .long x5), (7, .long x7), (9, .int x9), (12, .int x12)] [.long y0, .long y1] (wD cI cZ cO a u) := by
  unfold f_X11_feast_148 at hf
  refine sm_lmul F dX11_feast_148 ?_
  refine sm_lstore F [(0, .ref (a 0)), (1, .int x1), (2, .int x2), (3, .int x3), (4, .int x4), (5, .long x5), (7, .long x7), (9, .int x9), (10, .long (y1 * y0)), (12, .int x12)] [1, 2, 3, 4, 5, 6, 7, 8, 0, 9] dX11_feast_149 (by decide) rfl ?_
  refine sm_iload F dX11_feast_151 7 rfl ?_
  refine sm_iload F dX11_feast_153 9 rfl ?_
  obtain ⟨z155, hz155, hf⟩ := bd_some hf
  refine sm_callS (rest := []) F (ct_X11_has l D (tyL cI cZ cO) hz155) (cut_D_none cI cZ cO a u) rfl rfl rfl qw6_32 qw6_33 qw1_12 qw6_34 hsX11_has ⟨Nat.le_of_ble_eq_true rfl, Nat.le_of_ble_eq_true rfl⟩ ⟨Nat.zero_le _, Nat.zero_le _⟩ rfl (Nat.le_of_ble_eq_true rfl) E0_b (fun _ _ _ _ _ _ => trivial) rfl dX11_feast_155 [.int z155] rfl ?_
  refine sm_if_eq (tgt := 168) F dX11_feast_158 (by decide) (fun c158 => ?_) (fun c158 => ?_)
  · replace hf := if_t c158 hf
    exact s_X11_feast_168 F x1 x2 x3 x4 k97 hk97 k122 hk122 u x5 x7 x9 (y1 * y0) x12 hf
  · replace hf := if_f c158 hf
    refine sm_aload_n F dX11_feast_161 rfl 0 rfl ?_
    refine sm_get (v := .ref (a 2)) F inX11 0 rfl rfl 1 (by decide) qw5_16 rfl rfl dX11_feast_162 ?_
    obtain ⟨z165, hz165, hf⟩ := bd_some hf
    refine sm_callS (rest := []) F (ct_X11_feasts l D cI cZ cO (fun i => a (pm_D_i2 i)) hz165) (cut_D_i2 cI cZ cO a u z165) rfl rfl rfl qw6_76 qw6_77 qw1_12 qw6_78 hsX11_feasts ⟨Nat.le_of_ble_eq_true rfl, Nat.le_of_ble_eq_true rfl⟩ ⟨Nat.zero_le _, Nat.zero_le _⟩ rfl (Nat.le_of_ble_eq_true rfl) E0_b (fun _ _ _ _ _ _ => trivial) rfl dX11_feast_165 [] rfl ?_
    exact s_X11_feast_168 F x1 x2 x3 x4 k97 hk97 k122 hk122 (sD_m u z165) x5 x7 x9 (y1 * y0) x12 hf
set_option maxRecDepth 100000 in
set_option maxHeartbeats 4000000 in
theorem s_X11_feast_122_b {p : Program} {l : Launch} {e : Env} {s : State} {m : MethodId} {args : Array Value} {below : List Frame} {meth : Method} {c : Code} {A : Nat → Prop} {D : va_G} {cI cZ cO : ClassId} {a : Nat → Nat} {r : Int64} {o : DS} (F : smF p s m args meth c cX11_feast 13 (some .long) RX11 D (tyL cI cZ cO) A) (x1 : Int32) (x2 : Int32) (x3 : Int32) (x4 : Int32) (k97 : DS → Int64 → Int64 → Int32 → Option (Int64 × (DS))) (hk97 : ∀ (u' : DS) (x5' : Int64) (x7' : Int64) (x9' : Int32), k97 u' x5' x7' x9' = some (r, o) → Sm p l e rmX11_feast s m args below meth c D A 13 0 0 (smQ below args s D A (some (.long r)) (wD cI cZ cO a o)) 97 [(0, .ref (a 0)), (1, .int x1), (2, .int x2), (3, .int x3), (4, .int x4), (5, .long x5'), (7, .long x7'), (9, .int x9')] [] (wD cI cZ cO a u')) (k122 : DS → Int64 → Int64 → Int32 → Int64 → Int32 → Option (Int64 × (DS))) (hk122 : ∀ (u' : DS) (x5' : Int64) (x7' : Int64) (x9' : Int32) (x10' : Int64) (x12' : Int32), k122 u' x5' x7' x9' x10' x12' = some (r, o) → Sm p l e rmX11_feast s m args below meth c D A 13 0 0 (smQ below args s D A (some (.long r)) (wD cI cZ cO a o)) 122 [(0, .ref (a 0)), (1, .int x1), (2, .int x2), (3, .int x3), (4, .int x4), (5, .long x5'), (7, .long x7'), (9, .int x9'), (10, .long x10'), (12, .int x12')] [] (wD cI cZ cO a u')) (u : DS) (x5 : Int64) (x7 : Int64) (x9 : Int32) (x10 : Int64) (x12 : Int32) (hf : b_X11_feast_122 x1 x2 x3 x4 k97 k122 u x5 x7 x9 x10 x12 = some (r, o)) : Sm p l e rmX11_feast s m args below meth c D A 13 0 0 (smQ below args s D A (some (.long r)) (wD cI cZ cO a o)) 122 [(0, .ref (a 0)), (1, .int x1), (2, .int x2), (3, .int x3), (4, .int x4), (5, .long x5), (7, .long x7), (9, .int x9), (10, .long x10), (12, .int x12)] [] (wD cI cZ cO a u) := by
  unfold b_X11_feast_122 at hf
  refine sm_iload F dX11_feast_122 9 rfl ?_
  refine sm_iload_n F dX11_feast_124 rfl 2 rfl ?_
  refine sm_icmp_ge (tgt := 181) F dX11_feast_125 (by decide) (fun c125 => ?_) (fun c125 => ?_)
  · replace hf := if_t c125 hf
    refine sm_lload F dX11_feast_181 5 rfl ?_
    refine sm_aload_n F dX11_feast_183 rfl 0 rfl ?_
    refine sm_get (v := .ref (a 2)) F inX11 0 rfl rfl 1 (by decide) qw5_16 rfl rfl dX11_feast_184 ?_
    refine sm_iload_n F dX11_feast_187 rfl 1 rfl ?_
    obtain ⟨z188, hz188, hf⟩ := bd_some hf
    refine sm_callS (rest := [.long x5]) F (ct_X11_isHere l D cI cZ cO (fun i => a (pm_D_i2 i)) hz188) (cut_D_i2_ro cI cZ cO a u) rfl rfl rfl qw5_114 qw5_115 qw1_12 qw5_116 hsX11_isHere ⟨Nat.le_of_ble_eq_true rfl, Nat.le_of_ble_eq_true rfl⟩ ⟨Nat.zero_le _, Nat.zero_le _⟩ rfl (Nat.le_of_ble_eq_true rfl) E0_b (fun _ _ _ _ _ _ => trivial) rfl dX11_feast_188 [.int z188, .long x5] rfl ?_
    refine sm_if_eq (tgt := 199) F dX11_feast_191 (by decide) (fun c191 => ?_) (fun c191 => ?_)
    · replace hf := if_t c191 hf
      refine sm_lconst F dX11_feast_199 kc_l_0 ?_
      refine sm_ladd F dX11_feast_200 ?_
      refine sm_lstore F [(0, .ref (a 0)), (1, .int x1), (2, .int x2), (3, .int x3), (4, .int x4), (5, .long (x5 + (0 : Int64))), (7, .long x7), (9, .int x9)] [1, 2, 3, 4, 5, 0, 6, 7] dX11_feast_201 (by decide) rfl ?_
      refine sm_iinc F [(0, .ref (a 0)), (1, .int x1), (2, .int x2), (3, .int x3), (4, .int x4), (5, .long (x5 + (0 : Int64))), (7, .long x7), (9, .int (x9 + 1))] 7 [1, 2, 3, 4, 5, 6, 7, 0] dX11_feast_203 rfl kc_i_1 (by decide) rfl ?_
      refine sm_goto (tgt := 97) F dX11_feast_206 (by decide) ?_
      exact hk97 u (x5 + (0 : Int64)) x7 (x9 + 1) hf
    · replace hf := if_f c191 hf
      refine sm_lload F dX11_feast_194 8 rfl ?_
      refine sm_goto (tgt := 200) F dX11_feast_196 (by decide) ?_
      refine sm_ladd F dX11_feast_200 ?_
      refine sm_lstore F [(0, .ref (a 0)), (1, .int x1), (2, .int x2), (3, .int x3), (4, .int x4), (5, .long (x5 + x10)), (7, .long x7), (9, .int x9)] [1, 2, 3, 4, 5, 0, 6, 7] dX11_feast_201 (by decide) rfl ?_
      refine sm_iinc F [(0, .ref (a 0)), (1, .int x1), (2, .int x2), (3, .int x3), (4, .int x4), (5, .long (x5 + x10)), (7, .long x7), (9, .int (x9 + 1))] 7 [1, 2, 3, 4, 5, 6, 7, 0] dX11_feast_203 rfl kc_i_1 (by decide) rfl ?_
      refine sm_goto (tgt := 97) F dX11_feast_206 (by decide) ?_
      exact hk97 u (x5 + x10) x7 (x9 + 1) hf
  · replace hf := if_f c125 hf
    refine sm_lload F dX11_feast_128 8 rfl ?_
    refine sm_iload F dX11_feast_130 7 rfl ?_
    refine sm_iload F dX11_feast_132 9 rfl ?_
    obtain ⟨z134, hz134, hf⟩ := bd_some hf
    refine sm_callS (rest := [.long x10]) F (ct_X11_has l D (tyL cI cZ cO) hz134) (cut_D_none cI cZ cO a u) rfl rfl rfl qw6_32 qw6_33 qw1_12 qw6_34 hsX11_has ⟨Nat.le_of_ble_eq_true rfl, Nat.le_of_ble_eq_true rfl⟩ ⟨Nat.zero_le _, Nat.zero_le _⟩ rfl (Nat.le_of_ble_eq_true rfl) E0_b (fun _ _ _ _ _ _ => trivial) rfl dX11_feast_134 [.int z134, .long x10] rfl ?_
    refine sm_if_eq (tgt := 144) F dX11_feast_137 (by decide) (fun c137 => ?_) (fun c137 => ?_)
    · replace hf := if_t c137 hf
      refine sm_iload_n F dX11_feast_144 rfl 3 rfl ?_
      refine sm_iconst F dX11_feast_145 kc_i_1 ?_
      refine sm_isub F dX11_feast_146 ?_
      refine sm_i2l F dX11_feast_147 ?_
      refine sm_sub (lv' := [(0, .ref (a 0)), (1, .int x1), (2, .int x2), (3, .int x3), (4, .int x4), (5, .long x5), (7, .long x7), (9, .int x9), (12, .int x12)]) [0, 1, 2, 3, 4, 5, 6, 7, 9] rfl ?_
      exact s_X11_feast_148 F x1 x2 x3 x4 k97 hk97 k122 hk122 u x5 x7 x9 x12 (Int32.toInt64 (x3 - (1 : Int32))) x10 hf
    · replace hf := if_f c137 hf
      refine sm_lconst F dX11_feast_140 kc_l_1 ?_
      refine sm_goto (tgt := 148) F dX11_feast_141 (by decide) ?_
      refine sm_sub (lv' := [(0, .ref (a 0)), (1, .int x1), (2, .int x2), (3, .int x3), (4, .int x4), (5, .long x5), (7, .long x7), (9, .int x9), (12, .int x12)]) [0, 1, 2, 3, 4, 5, 6, 7, 9] rfl ?_
      exact s_X11_feast_148 F x1 x2 x3 x4 k97 hk97 k122 hk122 u x5 x7 x9 x12 (1 : Int64) x10 hf
set_option maxRecDepth 100000 in
set_option maxHeartbeats 4000000 in
theorem s_X11_feast_122 {p : Program} {l : Launch} {e : Env} {s : State} {m : MethodId} {args : Array Value} {below : List Frame} {meth : Method} {c : Code} {A : Nat → Prop} {D : va_G} {cI cZ cO : ClassId} {a : Nat → Nat} {r : Int64} {o : DS} (F : smF p s m args meth c cX11_feast 13 (some .long) RX11 D (tyL cI cZ cO) A) (x1 : Int32) (x2 : Int32) (x3 : Int32) (x4 : Int32) (k97 : DS → Int64 → Int64 → Int32 → Option (Int64 × (DS))) (hk97 : ∀ (u' : DS) (x5' : Int64) (x7' : Int64) (x9' : Int32), k97 u' x5' x7' x9' = some (r, o) → Sm p l e rmX11_feast s m args below meth c D A 13 0 0 (smQ below args s D A (some (.long r)) (wD cI cZ cO a o)) 97 [(0, .ref (a 0)), (1, .int x1), (2, .int x2), (3, .int x3), (4, .int x4), (5, .long x5'), (7, .long x7'), (9, .int x9')] [] (wD cI cZ cO a u')) (n : Nat) (u : DS) (x5 : Int64) (x7 : Int64) (x9 : Int32) (x10 : Int64) (x12 : Int32) (hf : f_X11_feast_122 x1 x2 x3 x4 k97 n u x5 x7 x9 x10 x12 = some (r, o)) : Sm p l e rmX11_feast s m args below meth c D A 13 0 0 (smQ below args s D A (some (.long r)) (wD cI cZ cO a o)) 122 [(0, .ref (a 0)), (1, .int x1), (2, .int x2), (3, .int x3), (4, .int x4), (5, .long x5), (7, .long x7), (9, .int x9), (10, .long x10), (12, .int x12)] [] (wD cI cZ cO a u) :=
  lq6_ind (P := fun (u : DS) (x5 : Int64) (x7 : Int64) (x9 : Int32) (x10 : Int64) (x12 : Int32) => Sm p l e rmX11_feast s m args below meth c D A 13 0 0 (smQ below args s D A (some (.long r)) (wD cI cZ cO a o)) 122 [(0, .ref (a 0)), (1, .int x1), (2, .int x2), (3, .int x3), (4, .int x4), (5, .long x5), (7, .long x7), (9, .int x9), (10, .long x10), (12, .int x12)] [] (wD cI cZ cO a u)) (fun k122 hk122 u x5 x7 x9 x10 x12 h9 => s_X11_feast_122_b F x1 x2 x3 x4 k97 hk97 k122 hk122 u x5 x7 x9 x10 x12 h9) n u x5 x7 x9 x10 x12 hf
set_option maxRecDepth 100000 in
set_option maxHeartbeats 4000000 in
theorem s_X11_feast_97_b {p : Program} {l : Launch} {e : Env} {s : State} {m : MethodId} {args : Array Value} {below : List Frame} {meth : Method} {c : Code} {A : Nat → Prop} {D : va_G} {cI cZ cO : ClassId} {a : Nat → Nat} {r : Int64} {o : DS} (F : smF p s m args meth c cX11_feast 13 (some .long) RX11 D (tyL cI cZ cO) A) (x1 : Int32) (x2 : Int32) (x3 : Int32) (x4 : Int32) (k97 : DS → Int64 → Int64 → Int32 → Option (Int64 × (DS))) (hk97 : ∀ (u' : DS) (x5' : Int64) (x7' : Int64) (x9' : Int32), k97 u' x5' x7' x9' = some (r, o) → Sm p l e rmX11_feast s m args below meth c D A 13 0 0 (smQ below args s D A (some (.long r)) (wD cI cZ cO a o)) 97 [(0, .ref (a 0)), (1, .int x1), (2, .int x2), (3, .int x3), (4, .int x4), (5, .long x5'), (7, .long x7'), (9, .int x9')] [] (wD cI cZ cO a u')) (u : DS) (x5 : Int64) (x7 : Int64) (x9 : Int32) (hf : b_X11_feast_97 x1 x2 x3 x4  k97 u x5 x7 x9 = some (r, o)) : Sm p l e rmX11_feast s m args below meth c D A 13 0 0 (smQ below args s D A (some (.long r)) (wD cI cZ cO a o)) 97 [(0, .ref (a 0)), (1, .int x1), (2, .int x2), (3, .int x3), (4, .int x4), (5, .long x5), (7, .long x7), (9, .int x9)] [] (wD cI cZ cO a u) := by
  unfold b_X11_feast_97 at hf
  refine sm_iload F dX11_feast_97 7 rfl ?_
  refine sm_iconst F dX11_feast_99 kc_i_1 ?_
  refine sm_iload_n F dX11_feast_100 rfl 2 rfl ?_
  refine sm_ishl F dX11_feast_101 ?_
  refine sm_icmp_ge (tgt := 209) F dX11_feast_102 (by decide) (fun c102 => ?_) (fun c102 => ?_)
  · replace hf := if_t c102 hf
    refine sm_lload F dX11_feast_209 5 rfl ?_
    refine sm_lload F dX11_feast_211 6 rfl ?_
    refine sm_iload F dX11_feast_213 4 rfl ?_
    obtain ⟨z215, hz215, hf⟩ := bd_some hf
    refine sm_callS (rest := []) F (ct_X11_partOf l D (tyL cI cZ cO) hz215) (cut_D_none cI cZ cO a u) rfl rfl rfl qw6_79 qw6_80 qw1_12 qw6_81 hsX11_partOf ⟨Nat.le_of_ble_eq_true rfl, Nat.le_of_ble_eq_true rfl⟩ ⟨Nat.zero_le _, Nat.zero_le _⟩ rfl (Nat.le_of_ble_eq_true rfl) E0_b (fun _ _ _ _ _ _ => trivial) rfl dX11_feast_215 [.long z215] rfl ?_
    exact sm_lret F dX11_feast_218 (Prod.mk.inj (Option.some.inj hf)).1 (congrArg (fun z => (wD cI cZ cO a z)) (Prod.mk.inj (Option.some.inj hf)).2)
  · replace hf := if_f c102 hf
    refine sm_lconst F dX11_feast_105 kc_l_1 ?_
    refine sm_lstore F [(0, .ref (a 0)), (1, .int x1), (2, .int x2), (3, .int x3), (4, .int x4), (5, .long x5), (7, .long x7), (9, .int x9), (10, .long (1 : Int64))] [1, 2, 3, 4, 5, 6, 7, 8, 0] dX11_feast_106 (by decide) rfl ?_
    refine sm_aload_n F dX11_feast_108 rfl 0 rfl ?_
    refine sm_get (v := .ref (a 1)) F inX11 0 rfl rfl 0 (by decide) qw5_15 rfl rfl dX11_feast_109 ?_
    refine sm_aload_n F dX11_feast_112 rfl 0 rfl ?_
    refine sm_get (v := .ref (a 2)) F inX11 0 rfl rfl 1 (by decide) qw5_16 rfl rfl dX11_feast_113 ?_
    obtain ⟨z116, hz116, hf⟩ := bd_some hf
    refine sm_callS (rest := []) F (ct_X11_copies l D cI cZ cO (fun i => a (pm_D_ii1_2 i)) hz116) (cut_D_ii1_2 cI cZ cO a u z116) rfl rfl rfl qw5_89 qw5_90 qw1_12 qw5_91 hsX11_copies ⟨Nat.le_of_ble_eq_true rfl, Nat.le_of_ble_eq_true rfl⟩ ⟨Nat.zero_le _, Nat.zero_le _⟩ rfl (Nat.le_of_ble_eq_true rfl) E0_b (fun _ _ _ _ _ _ => trivial) rfl dX11_feast_116 [] rfl ?_
    refine sm_iconst F dX11_feast_119 kc_i_0 ?_
    refine sm_istore F [(0, .ref (a 0)), (1, .int x1), (2, .int x2), (3, .int x3), (4, .int x4), (5, .long x5), (7, .long x7), (9, .int x9), (10, .long (1 : Int64)), (12, .int (0 : Int32))] [1, 2, 3, 4, 5, 6, 7, 8, 9, 0] dX11_feast_120 (by decide) rfl ?_
    exact s_X11_feast_122 F x1 x2 x3 x4 k97 hk97 smN (sD_m (sD_s u z116.1) z116.2) x5 x7 x9 (1 : Int64) (0 : Int32) hf
set_option maxRecDepth 100000 in
set_option maxHeartbeats 4000000 in
theorem s_X11_feast_97 {p : Program} {l : Launch} {e : Env} {s : State} {m : MethodId} {args : Array Value} {below : List Frame} {meth : Method} {c : Code} {A : Nat → Prop} {D : va_G} {cI cZ cO : ClassId} {a : Nat → Nat} {r : Int64} {o : DS} (F : smF p s m args meth c cX11_feast 13 (some .long) RX11 D (tyL cI cZ cO) A) (x1 : Int32) (x2 : Int32) (x3 : Int32) (x4 : Int32)  (n : Nat) (u : DS) (x5 : Int64) (x7 : Int64) (x9 : Int32) (hf : f_X11_feast_97 x1 x2 x3 x4  n u x5 x7 x9 = some (r, o)) : Sm p l e rmX11_feast s m args below meth c D A 13 0 0 (smQ below args s D A (some (.long r)) (wD cI cZ cO a o)) 97 [(0, .ref (a 0)), (1, .int x1), (2, .int x2), (3, .int x3), (4, .int x4), (5, .long x5), (7, .long x7), (9, .int x9)] [] (wD cI cZ cO a u) :=
  lq4_ind (P := fun (u : DS) (x5 : Int64) (x7 : Int64) (x9 : Int32) => Sm p l e rmX11_feast s m args below meth c D A 13 0 0 (smQ below args s D A (some (.long r)) (wD cI cZ cO a o)) 97 [(0, .ref (a 0)), (1, .int x1), (2, .int x2), (3, .int x3), (4, .int x4), (5, .long x5), (7, .long x7), (9, .int x9)] [] (wD cI cZ cO a u)) (fun k97 hk97 u x5 x7 x9 h9 => s_X11_feast_97_b F x1 x2 x3 x4  k97 hk97 u x5 x7 x9 h9) n u x5 x7 x9 hf
set_option maxRecDepth 100000 in
set_option maxHeartbeats 4000000 in
theorem s_X11_feast_75_b {p : Program} {l : Launch} {e : Env} {s : State} {m : MethodId} {args : Array Value} {below : List Frame} {meth : Method} {c : Code} {A : Nat → Prop} {D : va_G} {cI cZ cO : ClassId} {a : Nat → Nat} {r : Int64} {o : DS} (F : smF p s m args meth c cX11_feast 13 (some .long) RX11 D (tyL cI cZ cO) A) (x1 : Int32) (x2 : Int32) (x3 : Int32) (x4 : Int32) (k75 : DS → Int64 → Int64 → Int32 → Option (Int64 × (DS))) (hk75 : ∀ (u' : DS) (x5' : Int64) (x7' : Int64) (x9' : Int32), k75 u' x5' x7' x9' = some (r, o) → Sm p l e rmX11_feast s m args below meth c D A 13 0 0 (smQ below args s D A (some (.long r)) (wD cI cZ cO a o)) 75 [(0, .ref (a 0)), (1, .int x1), (2, .int x2), (3, .int x3), (4, .int x4), (5, .long x5'), (7, .long x7'), (9, .int x9')] [] (wD cI cZ cO a u')) (u : DS) (x5 : Int64) (x7 : Int64) (x9 : Int32) (hf : b_X11_feast_75 x1 x2 x3 x4  k75 u x5 x7 x9 = some (r, o)) : Sm p l e rmX11_feast s m args below meth c D A 13 0 0 (smQ below args s D A (some (.long r)) (wD cI cZ cO a o)) 75 [(0, .ref (a 0)), (1, .int x1), (2, .int x2), (3, .int x3), (4, .int x4), (5, .long x5), (7, .long x7), (9, .int x9)] [] (wD cI cZ cO a u) := by
  unfold b_X11_feast_75 at hf
  refine sm_iload F dX11_feast_75 7 rfl ?_
  refine sm_iload_n F dX11_feast_77 rfl 2 rfl ?_
  refine sm_icmp_ge (tgt := 94) F dX11_feast_78 (by decide) (fun c78 => ?_) (fun c78 => ?_)
  · replace hf := if_t c78 hf
    refine sm_iconst F dX11_feast_94 kc_i_0 ?_
    refine sm_istore F [(0, .ref (a 0)), (1, .int x1), (2, .int x2), (3, .int x3), (4, .int x4), (5, .long x5), (7, .long x7), (9, .int (0 : Int32))] [1, 2, 3, 4, 5, 6, 7, 0] dX11_feast_95 (by decide) rfl ?_
    exact s_X11_feast_97 F x1 x2 x3 x4 smN u x5 x7 (0 : Int32) hf
  · replace hf := if_f c78 hf
    refine sm_lload F dX11_feast_81 6 rfl ?_
    refine sm_iload_n F dX11_feast_83 rfl 3 rfl ?_
    refine sm_i2l F dX11_feast_84 ?_
    refine sm_lmul F dX11_feast_85 ?_
    refine sm_lstore F [(0, .ref (a 0)), (1, .int x1), (2, .int x2), (3, .int x3), (4, .int x4), (5, .long x5), (7, .long (x7 * (Int32.toInt64 x3))), (9, .int x9)] [1, 2, 3, 4, 5, 6, 0, 7] dX11_feast_86 (by decide) rfl ?_
    refine sm_iinc F [(0, .ref (a 0)), (1, .int x1), (2, .int x2), (3, .int x3), (4, .int x4), (5, .long x5), (7, .long (x7 * (Int32.toInt64 x3))), (9, .int (x9 + 1))] 7 [1, 2, 3, 4, 5, 6, 7, 0] dX11_feast_88 rfl kc_i_1 (by decide) rfl ?_
    refine sm_goto (tgt := 75) F dX11_feast_91 (by decide) ?_
    exact hk75 u x5 (x7 * (Int32.toInt64 x3)) (x9 + 1) hf
set_option maxRecDepth 100000 in
set_option maxHeartbeats 4000000 in
theorem s_X11_feast_75 {p : Program} {l : Launch} {e : Env} {s : State} {m : MethodId} {args : Array Value} {below : List Frame} {meth : Method} {c : Code} {A : Nat → Prop} {D : va_G} {cI cZ cO : ClassId} {a : Nat → Nat} {r : Int64} {o : DS} (F : smF p s m args meth c cX11_feast 13 (some .long) RX11 D (tyL cI cZ cO) A) (x1 : Int32) (x2 : Int32) (x3 : Int32) (x4 : Int32)  (n : Nat) (u : DS) (x5 : Int64) (x7 : Int64) (x9 : Int32) (hf : f_X11_feast_75 x1 x2 x3 x4  n u x5 x7 x9 = some (r, o)) : Sm p l e rmX11_feast s m args below meth c D A 13 0 0 (smQ below args s D A (some (.long r)) (wD cI cZ cO a o)) 75 [(0, .ref (a 0)), (1, .int x1), (2, .int x2), (3, .int x3), (4, .int x4), (5, .long x5), (7, .long x7), (9, .int x9)] [] (wD cI cZ cO a u) :=
  lq4_ind (P := fun (u : DS) (x5 : Int64) (x7 : Int64) (x9 : Int32) => Sm p l e rmX11_feast s m args below meth c D A 13 0 0 (smQ below args s D A (some (.long r)) (wD cI cZ cO a o)) 75 [(0, .ref (a 0)), (1, .int x1), (2, .int x2), (3, .int x3), (4, .int x4), (5, .long x5), (7, .long x7), (9, .int x9)] [] (wD cI cZ cO a u)) (fun k75 hk75 u x5 x7 x9 h9 => s_X11_feast_75_b F x1 x2 x3 x4  k75 hk75 u x5 x7 x9 h9) n u x5 x7 x9 hf
set_option maxRecDepth 100000 in
set_option maxHeartbeats 4000000 in
theorem ct_X11_feast (l : Launch) (D : va_G) (cI cZ cO : ClassId) (a : Nat → Nat) {u : DS} {x1 : Int32} {x2 : Int32} {x3 : Int32} {x4 : Int32} {r : Int64} {o : DS} (hf : f_X11_feast u x1 x2 x3 x4 = some (r, o)) : Ct l yX11_feast (uw (Cond.code yX11_feast cX11_feast 13 (some .long))) rmX11_feast D (tyL cI cZ cO) E0 [.ref (a 0), .int x1, .int x2, .int x3, .int x4] (wD cI cZ cO a u) (some (.long r)) (wD cI cZ cO a o) := by
  refine sm_start (cc := cX11_feast) (maxL := 13) (ret := (some .long)) (own := RX11) (by decide) rfl rfl (Nat.le_of_ble_eq_true rfl) (lv := [(0, .ref (a 0)), (1, .int x1), (2, .int x2), (3, .int x3), (4, .int x4)]) rfl ?_
  intro p e s m below meth c A F hE hA
  unfold f_X11_feast at hf
  refine sm_aload_n F dX11_feast_0 rfl 0 rfl ?_
  refine sm_iload_n F dX11_feast_1 rfl 1 rfl ?_
  obtain ⟨z2, hz2, hf⟩ := bd_some hf
  refine sm_callV (rest := []) F (ct_X11_isOne l D cI cZ cO a hz2) (cut_D_id cI cZ cO a u u) rfl rfl rfl qw5_110 qw5_112 qw0_37 qw1_12 qw5_113 hvX11_isOne ⟨Nat.le_of_ble_eq_true rfl, Nat.le_of_ble_eq_true rfl⟩ ⟨Nat.zero_le _, Nat.zero_le _⟩ 0 11 rfl rfl rfl rfl (Nat.le_of_ble_eq_true rfl) E0_b (fun _ _ _ _ _ _ => trivial) rfl dX11_feast_2 [.int z2] rfl ?_
  refine sm_if_ne (tgt := 14) F dX11_feast_5 (by decide) (fun c5 => ?_) (fun c5 => ?_)
  · replace hf := if_f c5 hf
    refine sm_iload_n F dX11_feast_14 rfl 2 rfl ?_
    refine sm_if_lt (tgt := 23) F dX11_feast_15 (by decide) (fun c15 => ?_) (fun c15 => ?_)
    · replace hf := if_t c15 hf
      refine sm_sub (lv' := [(0, .ref (a 0))]) [0] rfl ?_
      exact s_X11_feast_23 F  u hf
    · replace hf := if_f c15 hf
      refine sm_iload_n F dX11_feast_18 rfl 3 rfl ?_
      refine sm_iconst F dX11_feast_19 kc_i_2 ?_
      refine sm_icmp_ge (tgt := 30) F dX11_feast_20 (by decide) (fun c20 => ?_) (fun c20 => ?_)
      · replace hf := if_t c20 hf
        refine sm_iload_n F dX11_feast_30 rfl 2 rfl ?_
        refine sm_bipush F dX11_feast_31 kc_b_7 ?_
        refine sm_icmp_gt (tgt := 42) F dX11_feast_33 (by decide) (fun c33 => ?_) (fun c33 => ?_)
        · replace hf := if_t c33 hf
          refine sm_sub (lv' := [(0, .ref (a 0))]) [0] rfl ?_
          exact s_X11_feast_42 F  u hf
        · replace hf := if_f c33 hf
          refine sm_iload_n F dX11_feast_36 rfl 3 rfl ?_
          refine sm_bipush F dX11_feast_37 kc_b_20 ?_
          refine sm_icmp_le (tgt := 49) F dX11_feast_39 (by decide) (fun c39 => ?_) (fun c39 => ?_)
          · replace hf := if_t c39 hf
            refine sm_iload F dX11_feast_49 4 rfl ?_
            refine sm_iconst F dX11_feast_51 kc_i_0 ?_
            refine sm_iconst F dX11_feast_52 kc_i_1 ?_
            obtain ⟨z53, hz53, hf⟩ := bd_some hf
            refine sm_callS (rest := []) F (ct_X11_isIn l D (tyL cI cZ cO) hz53) (cut_D_none cI cZ cO a u) rfl rfl rfl qw5_86 qw5_87 qw1_12 qw5_88 hsX11_isIn ⟨Nat.le_of_ble_eq_true rfl, Nat.le_of_ble_eq_true rfl⟩ ⟨Nat.zero_le _, Nat.zero_le _⟩ rfl (Nat.le_of_ble_eq_true rfl) E0_b (fun _ _ _ _ _ _ => trivial) rfl dX11_feast_53 [.int z53] rfl ?_
            refine sm_if_ne (tgt := 66) F dX11_feast_56 (by decide) (fun c56 => ?_) (fun c56 => ?_)
            · replace hf := if_f c56 hf
              refine sm_lconst F dX11_feast_66 kc_l_0 ?_
              refine sm_lstore F [(0, .ref (a 0)), (1, .int x1), (2, .int x2), (3, .int x3), (4, .int x4), (5, .long (0 : Int64))] [1, 2, 3, 4, 5, 0] dX11_feast_67 (by decide) rfl ?_
              refine sm_lconst F dX11_feast_69 kc_l_1 ?_
              refine sm_lstore F [(0, .ref (a 0)), (1, .int x1), (2, .int x2), (3, .int x3), (4, .int x4), (5, .long (0 : Int64)), (7, .long (1 : Int64))] [1, 2, 3, 4, 5, 6, 0] dX11_feast_70 (by decide) rfl ?_
              refine sm_iconst F dX11_feast_72 kc_i_0 ?_
              refine sm_istore F [(0, .ref (a 0)), (1, .int x1), (2, .int x2), (3, .int x3), (4, .int x4), (5, .long (0 : Int64)), (7, .long (1 : Int64)), (9, .int (0 : Int32))] [1, 2, 3, 4, 5, 6, 7, 0] dX11_feast_73 (by decide) rfl ?_
              exact s_X11_feast_75 F x1 x2 x3 x4 smN u (0 : Int64) (1 : Int64) (0 : Int32) hf
            · replace hf := if_t c56 hf
              refine sm_aload_n F dX11_feast_59 rfl 0 rfl ?_
              refine sm_bipush F dX11_feast_60 kc_b_m2 ?_
              obtain ⟨z62, hz62, hf⟩ := bd_some hf
              refine sm_callV (rest := []) F (ct_X11_noWide l D cI cZ cO a hz62) (cut_D_id cI cZ cO a u z62.2) rfl rfl rfl qw6_71 qw6_73 qw0_47 qw1_12 qw6_74 hvX11_noWide ⟨Nat.le_of_ble_eq_true rfl, Nat.le_of_ble_eq_true rfl⟩ ⟨Nat.zero_le _, Nat.zero_le _⟩ 0 11 rfl rfl rfl rfl (Nat.le_of_ble_eq_true rfl) E0_b (fun _ _ _ _ _ _ => trivial) rfl dX11_feast_62 [.long z62.1] rfl ?_
              exact sm_lret F dX11_feast_65 (Prod.mk.inj (Option.some.inj hf)).1 (congrArg (fun z => (wD cI cZ cO a z)) (Prod.mk.inj (Option.some.inj hf)).2)
          · replace hf := if_f c39 hf
            refine sm_sub (lv' := [(0, .ref (a 0))]) [0] rfl ?_
            exact s_X11_feast_42 F  u hf
      · replace hf := if_f c20 hf
        refine sm_sub (lv' := [(0, .ref (a 0))]) [0] rfl ?_
        exact s_X11_feast_23 F  u hf
  · replace hf := if_t c5 hf
    refine sm_aload_n F dX11_feast_8 rfl 0 rfl ?_
    refine sm_iconst F dX11_feast_9 kc_i_m1 ?_
    obtain ⟨z10, hz10, hf⟩ := bd_some hf
    refine sm_callV (rest := []) F (ct_X11_noWide l D cI cZ cO a hz10) (cut_D_id cI cZ cO a u z10.2) rfl rfl rfl qw6_71 qw6_73 qw0_47 qw1_12 qw6_74 hvX11_noWide ⟨Nat.le_of_ble_eq_true rfl, Nat.le_of_ble_eq_true rfl⟩ ⟨Nat.zero_le _, Nat.zero_le _⟩ 0 11 rfl rfl rfl rfl (Nat.le_of_ble_eq_true rfl) E0_b (fun _ _ _ _ _ _ => trivial) rfl dX11_feast_10 [.long z10.1] rfl ?_
    exact sm_lret F dX11_feast_13 (Prod.mk.inj (Option.some.inj hf)).1 (congrArg (fun z => (wD cI cZ cO a z)) (Prod.mk.inj (Option.some.inj hf)).2)
/-! SoManyForgottenModel.knownAll([I)I -/
abbrev rmX11_knownAll : Room := { frames := 3, cells := 0, slots := 0, locals := 65 }
set_option maxRecDepth 100000 in
theorem hsX11_knownAll : yX11_knownAll.cls ≠ "java/lang/invoke/MethodHandle" ∧ yX11_knownAll.cls ≠ "java/lang/invoke/VarHandle" ∧ (parseMethodDescriptor yX11_knownAll.desc).map (fun d => d.parameters.length) = some 1 := by decide +kernel
set_option maxRecDepth 100000 in
set_option maxHeartbeats 4000000 in
theorem s_X11_knownAll_4_b {p : Program} {l : Launch} {e : Env} {s : State} {m : MethodId} {args : Array Value} {below : List Frame} {meth : Method} {c : Code} {A : Nat → Prop} {D : va_G} {cI cZ cO : ClassId} {a : Nat → Nat} {r : Int32} (F : smF p s m args meth c cX11_knownAll 3 (some .int) RX11 D (tyL cI cZ cO) A) (u : Nat → Int32) (k4 : Int32 → Int32 → Option Int32) (hk4 : ∀ (x1' : Int32) (x2' : Int32), k4 x1' x2' = some r → Sm p l e rmX11_knownAll s m args below meth c D A 3 0 0 (smQ below args s D A (some (.int r)) (wI cI cZ cO a u)) 4 [(0, .ref (a 0)), (1, .int x1'), (2, .int x2')] [] (wI cI cZ cO a u)) (x1 : Int32) (x2 : Int32) (hf : b_X11_knownAll_4 u  k4 x1 x2 = some r) : Sm p l e rmX11_knownAll s m args below meth c D A 3 0 0 (smQ below args s D A (some (.int r)) (wI cI cZ cO a u)) 4 [(0, .ref (a 0)), (1, .int x1), (2, .int x2)] [] (wI cI cZ cO a u) := by
  unfold b_X11_knownAll_4 at hf
  refine sm_iload_n F dX11_knownAll_4 rfl 2 rfl ?_
  refine sm_aload_n F dX11_knownAll_5 rfl 0 rfl ?_
  refine sm_iconst F dX11_knownAll_6 kc_i_0 ?_
  obtain ⟨h7, hf⟩ := ck_some hf
  refine sm_iald F 0 0 rfl rfl h7 dX11_knownAll_7 ?_
  refine sm_icmp_ge (tgt := 37) F dX11_knownAll_8 (by decide) (fun c8 => ?_) (fun c8 => ?_)
  · replace hf := if_t c8 hf
    refine sm_iload_n F dX11_knownAll_37 rfl 1 rfl ?_
    exact sm_iret F dX11_knownAll_38 (Option.some.inj hf) rfl
  · replace hf := if_f c8 hf
    refine sm_iload_n F dX11_knownAll_11 rfl 1 rfl ?_
    refine sm_aload_n F dX11_knownAll_12 rfl 0 rfl ?_
    refine sm_iload_n F dX11_knownAll_13 rfl 2 rfl ?_
    obtain ⟨z14, hz14, hf⟩ := bd_some hf
    refine sm_callS (rest := [.int x1]) F (ct_X11_isHere l D cI cZ cO a hz14) (cut_I_id cI cZ cO a u u) rfl rfl rfl qw5_114 qw5_115 qw1_12 qw5_116 hsX11_isHere ⟨Nat.le_of_ble_eq_true rfl, Nat.le_of_ble_eq_true rfl⟩ ⟨Nat.zero_le _, Nat.zero_le _⟩ rfl (Nat.le_of_ble_eq_true rfl) E0_b (fun _ _ _ _ _ _ => trivial) rfl dX11_knownAll_14 [.int z14, .int x1] rfl ?_
    refine sm_if_eq (tgt := 28) F dX11_knownAll_17 (by decide) (fun c17 => ?_) (fun c17 => ?_)
    · replace hf := if_t c17 hf
      refine sm_iconst F dX11_knownAll_28 kc_i_0 ?_
      refine sm_iadd F dX11_knownAll_29 ?_
      refine sm_istore_n F [(0, .ref (a 0)), (1, .int (x1 + (0 : Int32))), (2, .int x2)] [1, 0, 2] dX11_knownAll_30 rfl (by decide) rfl ?_
      refine sm_iinc F [(0, .ref (a 0)), (1, .int (x1 + (0 : Int32))), (2, .int (x2 + 1))] 2 [1, 2, 0] dX11_knownAll_31 rfl kc_i_1 (by decide) rfl ?_
      refine sm_goto (tgt := 4) F dX11_knownAll_34 (by decide) ?_
      exact hk4 (x1 + (0 : Int32)) (x2 + 1) hf
    · replace hf := if_f c17 hf
      refine sm_aload_n F dX11_knownAll_20 rfl 0 rfl ?_
      refine sm_iload_n F dX11_knownAll_21 rfl 2 rfl ?_
      obtain ⟨z22, hz22, hf⟩ := bd_some hf
      refine sm_callS (rest := [.int x1]) F (ct_X11_knownIn l D cI cZ cO a hz22) (cut_I_id cI cZ cO a u u) rfl rfl rfl qw5_141 qw5_142 qw1_12 qw5_143 hsX11_knownIn ⟨Nat.le_of_ble_eq_true rfl, Nat.le_of_ble_eq_true rfl⟩ ⟨Nat.zero_le _, Nat.zero_le _⟩ rfl (Nat.le_of_ble_eq_true rfl) E0_b (fun _ _ _ _ _ _ => trivial) rfl dX11_knownAll_22 [.int z22, .int x1] rfl ?_
      refine sm_goto (tgt := 29) F dX11_knownAll_25 (by decide) ?_
      refine sm_iadd F dX11_knownAll_29 ?_
      refine sm_istore_n F [(0, .ref (a 0)), (1, .int (x1 + z22)), (2, .int x2)] [1, 0, 2] dX11_knownAll_30 rfl (by decide) rfl ?_
      refine sm_iinc F [(0, .ref (a 0)), (1, .int (x1 + z22)), (2, .int (x2 + 1))] 2 [1, 2, 0] dX11_knownAll_31 rfl kc_i_1 (by decide) rfl ?_
      refine sm_goto (tgt := 4) F dX11_knownAll_34 (by decide) ?_
      exact hk4 (x1 + z22) (x2 + 1) hf
set_option maxRecDepth 100000 in
set_option maxHeartbeats 4000000 in
theorem s_X11_knownAll_4 {p : Program} {l : Launch} {e : Env} {s : State} {m : MethodId} {args : Array Value} {below : List Frame} {meth : Method} {c : Code} {A : Nat → Prop} {D : va_G} {cI cZ cO : ClassId} {a : Nat → Nat} {r : Int32} (F : smF p s m args meth c cX11_knownAll 3 (some .int) RX11 D (tyL cI cZ cO) A) (u : Nat → Int32)  (n : Nat) (x1 : Int32) (x2 : Int32) (hf : f_X11_knownAll_4 u  n x1 x2 = some r) : Sm p l e rmX11_knownAll s m args below meth c D A 3 0 0 (smQ below args s D A (some (.int r)) (wI cI cZ cO a u)) 4 [(0, .ref (a 0)), (1, .int x1), (2, .int x2)] [] (wI cI cZ cO a u) :=
  lq2_ind (P := fun (x1 : Int32) (x2 : Int32) => Sm p l e rmX11_knownAll s m args below meth c D A 3 0 0 (smQ below args s D A (some (.int r)) (wI cI cZ cO a u)) 4 [(0, .ref (a 0)), (1, .int x1), (2, .int x2)] [] (wI cI cZ cO a u)) (fun k4 hk4 x1 x2 h9 => s_X11_knownAll_4_b F u  k4 hk4 x1 x2 h9) n x1 x2 hf
set_option maxRecDepth 100000 in
set_option maxHeartbeats 4000000 in
theorem ct_X11_knownAll (l : Launch) (D : va_G) (cI cZ cO : ClassId) (a : Nat → Nat) {u : Nat → Int32} {r : Int32} (hf : f_X11_knownAll u = some r) : Ct l yX11_knownAll (uw (Cond.code yX11_knownAll cX11_knownAll 3 (some .int))) rmX11_knownAll D (tyL cI cZ cO) E0 [.ref (a 0)] (wI cI cZ cO a u) (some (.int r)) (wI cI cZ cO a u) := by
  refine sm_start (cc := cX11_knownAll) (maxL := 3) (ret := (some .int)) (own := RX11) (by decide) rfl rfl (Nat.le_of_ble_eq_true rfl) (lv := [(0, .ref (a 0))]) rfl ?_
  intro p e s m below meth c A F hE hA
  unfold f_X11_knownAll at hf
  refine sm_iconst F dX11_knownAll_0 kc_i_0 ?_
  refine sm_istore_n F [(0, .ref (a 0)), (1, .int (0 : Int32))] [1, 0] dX11_knownAll_1 rfl (by decide) rfl ?_
  refine sm_iconst F dX11_knownAll_2 kc_i_0 ?_
  refine sm_istore_n F [(0, .ref (a 0)), (1, .int (0 : Int32)), (2, .int (0 : Int32))] [1, 2, 0] dX11_knownAll_3 rfl (by decide) rfl ?_
  exact s_X11_knownAll_4 F u smN (0 : Int32) (0 : Int32) hf
/-! SoManyForgottenModel.mean(I)J -/
abbrev rmX11_mean : Room := { frames := 4, cells := 0, slots := 0, locals := 87 }
set_option maxRecDepth 100000 in
theorem hvX11_mean : yX11_mean.cls = RX11 ∧ yX11_mean.cls ≠ "java/lang/invoke/MethodHandle" ∧ yX11_mean.cls ≠ "java/lang/invoke/VarHandle" ∧ (parseMethodDescriptor yX11_mean.desc).map (fun d => d.parameters.length) = some 1 := by decide +kernel
set_option maxRecDepth 100000 in
set_option maxHeartbeats 4000000 in
theorem ct_X11_mean (l : Launch) (D : va_G) (cI cZ cO : ClassId) (a : Nat → Nat) {u : DS} {x1 : Int32} {r : Int64} {o : DS} (hf : f_X11_mean u x1 = some (r, o)) : Ct l yX11_mean (uw (Cond.code yX11_mean cX11_mean 2 (some .long))) rmX11_mean D (tyL cI cZ cO) E0 [.ref (a 0), .int x1] (wD cI cZ cO a u) (some (.long r)) (wD cI cZ cO a o) := by
  refine sm_start (cc := cX11_mean) (maxL := 2) (ret := (some .long)) (own := RX11) (by decide) rfl rfl (Nat.le_of_ble_eq_true rfl) (lv := [(0, .ref (a 0)), (1, .int x1)]) rfl ?_
  intro p e s m below meth c A F hE hA
  unfold f_X11_mean at hf
  refine sm_iload_n F dX11_mean_0 rfl 1 rfl ?_
  refine sm_iconst F dX11_mean_1 kc_i_0 ?_
  refine sm_iconst F dX11_mean_2 kc_i_1 ?_
  obtain ⟨z3, hz3, hf⟩ := bd_some hf
  refine sm_callS (rest := []) F (ct_X11_isIn l D (tyL cI cZ cO) hz3) (cut_D_none cI cZ cO a u) rfl rfl rfl qw5_86 qw5_87 qw1_12 qw5_88 hsX11_isIn ⟨Nat.le_of_ble_eq_true rfl, Nat.le_of_ble_eq_true rfl⟩ ⟨Nat.zero_le _, Nat.zero_le _⟩ rfl (Nat.le_of_ble_eq_true rfl) E0_b (fun _ _ _ _ _ _ => trivial) rfl dX11_mean_3 [.int z3] rfl ?_
  refine sm_if_eq (tgt := 35) F dX11_mean_6 (by decide) (fun c6 => ?_) (fun c6 => ?_)
  · replace hf := if_t c6 hf
    refine sm_aload_n F dX11_mean_35 rfl 0 rfl ?_
    refine sm_bipush F dX11_mean_36 kc_b_m2 ?_
    obtain ⟨z38, hz38, hf⟩ := bd_some hf
    refine sm_callV (rest := []) F (ct_X11_noWide l D cI cZ cO a hz38) (cut_D_id cI cZ cO a u z38.2) rfl rfl rfl qw6_71 qw6_73 qw0_47 qw1_12 qw6_74 hvX11_noWide ⟨Nat.le_of_ble_eq_true rfl, Nat.le_of_ble_eq_true rfl⟩ ⟨Nat.zero_le _, Nat.zero_le _⟩ 0 11 rfl rfl rfl rfl (Nat.le_of_ble_eq_true rfl) E0_b (fun _ _ _ _ _ _ => trivial) rfl dX11_mean_38 [.long z38.1] rfl ?_
    exact sm_lret F dX11_mean_41 (Prod.mk.inj (Option.some.inj hf)).1 (congrArg (fun z => (wD cI cZ cO a z)) (Prod.mk.inj (Option.some.inj hf)).2)
  · replace hf := if_f c6 hf
    refine sm_aload_n F dX11_mean_9 rfl 0 rfl ?_
    refine sm_get (v := .ref (a 1)) F inX11 0 rfl rfl 0 (by decide) qw5_15 rfl rfl dX11_mean_10 ?_
    obtain ⟨z13, hz13, hf⟩ := bd_some hf
    refine sm_callS (rest := []) F (ct_X11_knownAll l D cI cZ cO (fun i => a (pm_D_i1 i)) hz13) (cut_D_i1_ro cI cZ cO a u) rfl rfl rfl qw6_89 qw6_90 qw1_12 qw6_91 hsX11_knownAll ⟨Nat.le_of_ble_eq_true rfl, Nat.le_of_ble_eq_true rfl⟩ ⟨Nat.zero_le _, Nat.zero_le _⟩ rfl (Nat.le_of_ble_eq_true rfl) E0_b (fun _ _ _ _ _ _ => trivial) rfl dX11_mean_13 [.int z13] rfl ?_
    refine sm_i2l F dX11_mean_16 ?_
    refine sm_aload_n F dX11_mean_17 rfl 0 rfl ?_
    refine sm_get (v := .ref (a 1)) F inX11 0 rfl rfl 0 (by decide) qw5_15 rfl rfl dX11_mean_18 ?_
    obtain ⟨z21, hz21, hf⟩ := bd_some hf
    refine sm_callS (rest := [.long (Int32.toInt64 z13)]) F (ct_X11_hereIn l D cI cZ cO (fun i => a (pm_D_i1 i)) hz21) (cut_D_i1_ro cI cZ cO a u) rfl rfl rfl qw5_174 qw5_175 qw1_12 qw5_176 hsX11_hereIn ⟨Nat.le_of_ble_eq_true rfl, Nat.le_of_ble_eq_true rfl⟩ ⟨Nat.zero_le _, Nat.zero_le _⟩ rfl (Nat.le_of_ble_eq_true rfl) E0_b (fun _ _ _ _ _ _ => trivial) rfl dX11_mean_21 [.int z21, .long (Int32.toInt64 z13)] rfl ?_
    obtain ⟨z24, hz24, hf⟩ := bd_some hf
    refine sm_callS (rest := [.long (Int32.toInt64 z13)]) F (ct_X11_bits l D (tyL cI cZ cO) hz24) (cut_D_none cI cZ cO a u) rfl rfl rfl qw5_177 qw5_178 qw1_12 qw5_179 hsX11_bits ⟨Nat.le_of_ble_eq_true rfl, Nat.le_of_ble_eq_true rfl⟩ ⟨Nat.zero_le _, Nat.zero_le _⟩ rfl (Nat.le_of_ble_eq_true rfl) E0_b (fun _ _ _ _ _ _ => trivial) rfl dX11_mean_24 [.int z24, .long (Int32.toInt64 z13)] rfl ?_
    refine sm_i2l F dX11_mean_27 ?_
    refine sm_iload_n F dX11_mean_28 rfl 1 rfl ?_
    obtain ⟨z29, hz29, hf⟩ := bd_some hf
    refine sm_callS (rest := []) F (ct_X11_partOf l D (tyL cI cZ cO) hz29) (cut_D_none cI cZ cO a u) rfl rfl rfl qw6_79 qw6_80 qw1_12 qw6_81 hsX11_partOf ⟨Nat.le_of_ble_eq_true rfl, Nat.le_of_ble_eq_true rfl⟩ ⟨Nat.zero_le _, Nat.zero_le _⟩ rfl (Nat.le_of_ble_eq_true rfl) E0_b (fun _ _ _ _ _ _ => trivial) rfl dX11_mean_29 [.long z29] rfl ?_
    refine sm_goto (tgt := 41) F dX11_mean_32 (by decide) ?_
    exact sm_lret F dX11_mean_41 (Prod.mk.inj (Option.some.inj hf)).1 (congrArg (fun z => (wD cI cZ cO a z)) (Prod.mk.inj (Option.some.inj hf)).2)
/-! SoManyForgottenModel.whatIs(III)I -/
abbrev rmX11_whatIs : Room := { frames := 5, cells := 0, slots := 0, locals := 110 }
set_option maxRecDepth 100000 in
theorem hvX11_whatIs : yX11_whatIs.cls = RX11 ∧ yX11_whatIs.cls ≠ "java/lang/invoke/MethodHandle" ∧ yX11_whatIs.cls ≠ "java/lang/invoke/VarHandle" ∧ (parseMethodDescriptor yX11_whatIs.desc).map (fun d => d.parameters.length) = some 3 := by decide +kernel
set_option maxRecDepth 100000 in
set_option maxHeartbeats 4000000 in
theorem s_X11_whatIs_118 {p : Program} {l : Launch} {e : Env} {s : State} {m : MethodId} {args : Array Value} {below : List Frame} {meth : Method} {c : Code} {A : Nat → Prop} {D : va_G} {cI cZ cO : ClassId} {a : Nat → Nat} {r : Int32} {o : DS} (F : smF p s m args meth c cX11_whatIs 8 (some .int) RX11 D (tyL cI cZ cO) A) (x1 : Int32) (x2 : Int32) (x3 : Int32) (k37 : DS → Int32 → Int32 → Option (Int32 × (DS))) (hk37 : ∀ (u' : DS) (x4' : Int32) (x5' : Int32), k37 u' x4' x5' = some (r, o) → Sm p l e rmX11_whatIs s m args below meth c D A 8 0 0 (smQ below args s D A (some (.int r)) (wD cI cZ cO a o)) 37 [(0, .ref (a 0)), (1, .int x1), (2, .int x2), (3, .int x3), (4, .int x4'), (5, .int x5')] [] (wD cI cZ cO a u')) (k82 : DS → Int32 → Int32 → Int32 → Int32 → Option (Int32 × (DS))) (hk82 : ∀ (u' : DS) (x4' : Int32) (x5' : Int32) (x6' : Int32) (x7' : Int32), k82 u' x4' x5' x6' x7' = some (r, o) → Sm p l e rmX11_whatIs s m args below meth c D A 8 0 0 (smQ below args s D A (some (.int r)) (wD cI cZ cO a o)) 82 [(0, .ref (a 0)), (1, .int x1), (2, .int x2), (3, .int x3), (4, .int x4'), (5, .int x5'), (6, .int x6'), (7, .int x7')] [] (wD cI cZ cO a u')) (u : DS) (x4 : Int32) (x5 : Int32) (x7 : Int32) (y0 : Int32) (y1 : Int32) (hf : f_X11_whatIs_118 x1 x2 x3 k37 k82  u x4 x5 x7 y0 y1 = some (r, o)) : Sm p l e rmX11_whatIs s m args below meth c D A 8 0 0 (smQ below args s D A (some (.int r)) (wD cI cZ cO a o)) 118 [(0, .ref (a 0)), (1, .int x1), (2, .int x2), (3, .int x3), (4, .int x4), (5, .int x5), (7, .int x7)] [.int y0, .int y1] (wD cI cZ cO a u) := by
  unfold f_X11_whatIs_118 at hf
  refine sm_iand F dX11_whatIs_118 ?_
  refine sm_istore F [(0, .ref (a 0)), (1, .int x1), (2, .int x2), (3, .int x3), (4, .int x4), (5, .int x5), (6, .int (y1 &&& y0)), (7, .int x7)] [1, 2, 3, 4, 5, 6, 0, 7] dX11_whatIs_119 (by decide) rfl ?_
  refine sm_aload_n F dX11_whatIs_121 rfl 0 rfl ?_
  refine sm_get (v := .ref (a 2)) F inX11 0 rfl rfl 1 (by decide) qw5_16 rfl rfl dX11_whatIs_122 ?_
  obtain ⟨z125, hz125, hf⟩ := bd_some hf
  refine sm_callS (rest := []) F (ct_X11_week l D cI cZ cO (fun i => a (pm_D_i2 i)) hz125) (cut_D_i2 cI cZ cO a u z125) rfl rfl rfl qw5_129 qw5_130 qw1_12 qw5_131 hsX11_week ⟨Nat.le_of_ble_eq_true rfl, Nat.le_of_ble_eq_true rfl⟩ ⟨Nat.zero_le _, Nat.zero_le _⟩ rfl (Nat.le_of_ble_eq_true rfl) E0_b (fun _ _ _ _ _ _ => trivial) rfl dX11_whatIs_125 [] rfl ?_
  refine sm_iinc F [(0, .ref (a 0)), (1, .int x1), (2, .int x2), (3, .int x3), (4, .int x4), (5, .int x5), (6, .int (y1 &&& y0)), (7, .int (x7 + 1))] 7 [1, 2, 3, 4, 5, 6, 7, 0] dX11_whatIs_128 rfl kc_i_1 (by decide) rfl ?_
  refine sm_goto (tgt := 82) F dX11_whatIs_131 (by decide) ?_
  exact hk82 (sD_m u z125) x4 x5 (y1 &&& y0) (x7 + 1) hf
set_option maxRecDepth 100000 in
set_option maxHeartbeats 4000000 in
theorem s_X11_whatIs_82_b {p : Program} {l : Launch} {e : Env} {s : State} {m : MethodId} {args : Array Value} {below : List Frame} {meth : Method} {c : Code} {A : Nat → Prop} {D : va_G} {cI cZ cO : ClassId} {a : Nat → Nat} {r : Int32} {o : DS} (F : smF p s m args meth c cX11_whatIs 8 (some .int) RX11 D (tyL cI cZ cO) A) (x1 : Int32) (x2 : Int32) (x3 : Int32) (k37 : DS → Int32 → Int32 → Option (Int32 × (DS))) (hk37 : ∀ (u' : DS) (x4' : Int32) (x5' : Int32), k37 u' x4' x5' = some (r, o) → Sm p l e rmX11_whatIs s m args below meth c D A 8 0 0 (smQ below args s D A (some (.int r)) (wD cI cZ cO a o)) 37 [(0, .ref (a 0)), (1, .int x1), (2, .int x2), (3, .int x3), (4, .int x4'), (5, .int x5')] [] (wD cI cZ cO a u')) (k82 : DS → Int32 → Int32 → Int32 → Int32 → Option (Int32 × (DS))) (hk82 : ∀ (u' : DS) (x4' : Int32) (x5' : Int32) (x6' : Int32) (x7' : Int32), k82 u' x4' x5' x6' x7' = some (r, o) → Sm p l e rmX11_whatIs s m args below meth c D A 8 0 0 (smQ below args s D A (some (.int r)) (wD cI cZ cO a o)) 82 [(0, .ref (a 0)), (1, .int x1), (2, .int x2), (3, .int x3), (4, .int x4'), (5, .int x5'), (6, .int x6'), (7, .int x7')] [] (wD cI cZ cO a u')) (u : DS) (x4 : Int32) (x5 : Int32) (x6 : Int32) (x7 : Int32) (hf : b_X11_whatIs_82 x1 x2 x3 k37 k82 u x4 x5 x6 x7 = some (r, o)) : Sm p l e rmX11_whatIs s m args below meth c D A 8 0 0 (smQ below args s D A (some (.int r)) (wD cI cZ cO a o)) 82 [(0, .ref (a 0)), (1, .int x1), (2, .int x2), (3, .int x3), (4, .int x4), (5, .int x5), (6, .int x6), (7, .int x7)] [] (wD cI cZ cO a u) := by
  unfold b_X11_whatIs_82 at hf
  refine sm_iload F dX11_whatIs_82 7 rfl ?_
  refine sm_aload_n F dX11_whatIs_84 rfl 0 rfl ?_
  refine sm_get (v := .int (gD_rowN u)) F inX11 0 rfl rfl 9 (by decide) qw5_24 rfl rfl dX11_whatIs_85 ?_
  refine sm_icmp_ge (tgt := 134) F dX11_whatIs_88 (by decide) (fun c88 => ?_) (fun c88 => ?_)
  · replace hf := if_t c88 hf
    refine sm_iload F dX11_whatIs_134 4 rfl ?_
    refine sm_iload F dX11_whatIs_136 6 rfl ?_
    refine sm_if_eq (tgt := 148) F dX11_whatIs_138 (by decide) (fun c138 => ?_) (fun c138 => ?_)
    · replace hf := if_t c138 hf
      refine sm_iconst F dX11_whatIs_148 kc_i_0 ?_
      refine sm_ior F dX11_whatIs_149 ?_
      refine sm_istore F [(0, .ref (a 0)), (1, .int x1), (2, .int x2), (3, .int x3), (4, .int (x4 ||| (0 : Int32))), (5, .int x5)] [1, 2, 3, 4, 0, 5] dX11_whatIs_150 (by decide) rfl ?_
      refine sm_iinc F [(0, .ref (a 0)), (1, .int x1), (2, .int x2), (3, .int x3), (4, .int (x4 ||| (0 : Int32))), (5, .int (x5 + 1))] 5 [1, 2, 3, 4, 5, 0] dX11_whatIs_152 rfl kc_i_1 (by decide) rfl ?_
      refine sm_goto (tgt := 37) F dX11_whatIs_155 (by decide) ?_
      exact hk37 u (x4 ||| (0 : Int32)) (x5 + 1) hf
    · replace hf := if_f c138 hf
      refine sm_iconst F dX11_whatIs_141 kc_i_1 ?_
      refine sm_iload F dX11_whatIs_142 5 rfl ?_
      refine sm_ishl F dX11_whatIs_144 ?_
      refine sm_goto (tgt := 149) F dX11_whatIs_145 (by decide) ?_
      refine sm_ior F dX11_whatIs_149 ?_
      refine sm_istore F [(0, .ref (a 0)), (1, .int x1), (2, .int x2), (3, .int x3), (4, .int (x4 ||| ((1 : Int32) <<< (x5 &&& 31)))), (5, .int x5)] [1, 2, 3, 4, 0, 5] dX11_whatIs_150 (by decide) rfl ?_
      refine sm_iinc F [(0, .ref (a 0)), (1, .int x1), (2, .int x2), (3, .int x3), (4, .int (x4 ||| ((1 : Int32) <<< (x5 &&& 31)))), (5, .int (x5 + 1))] 5 [1, 2, 3, 4, 5, 0] dX11_whatIs_152 rfl kc_i_1 (by decide) rfl ?_
      refine sm_goto (tgt := 37) F dX11_whatIs_155 (by decide) ?_
      exact hk37 u (x4 ||| ((1 : Int32) <<< (x5 &&& 31))) (x5 + 1) hf
  · replace hf := if_f c88 hf
    refine sm_iload F dX11_whatIs_91 6 rfl ?_
    refine sm_aload_n F dX11_whatIs_93 rfl 0 rfl ?_
    refine sm_get (v := .ref (a 2)) F inX11 0 rfl rfl 1 (by decide) qw5_16 rfl rfl dX11_whatIs_94 ?_
    refine sm_iload_n F dX11_whatIs_97 rfl 2 rfl ?_
    refine sm_iload_n F dX11_whatIs_98 rfl 1 rfl ?_
    obtain ⟨z99, hz99, hf⟩ := bd_some hf
    refine sm_callS (rest := [.ref (a 2), .int x6]) F (ct_X11_by l D (tyL cI cZ cO) hz99) (cut_D_none cI cZ cO a u) rfl rfl rfl qw5_103 qw5_104 qw1_12 qw5_105 hsX11_by ⟨Nat.le_of_ble_eq_true rfl, Nat.le_of_ble_eq_true rfl⟩ ⟨Nat.zero_le _, Nat.zero_le _⟩ rfl (Nat.le_of_ble_eq_true rfl) E0_b (fun _ _ _ _ _ _ => trivial) rfl dX11_whatIs_99 [.int z99, .ref (a 2), .int x6] rfl ?_
    obtain ⟨h102, hf⟩ := ck_some hf
    refine sm_iald F 2 0 rfl rfl h102 dX11_whatIs_102 ?_
    refine sm_aload_n F dX11_whatIs_103 rfl 0 rfl ?_
    refine sm_get (v := .ref (a 6)) F inX11 0 rfl rfl 6 (by decide) qw5_21 rfl rfl dX11_whatIs_104 ?_
    refine sm_iload F dX11_whatIs_107 7 rfl ?_
    obtain ⟨h109, hf⟩ := ck_some hf
    refine sm_iald F 6 0 rfl rfl h109 dX11_whatIs_109 ?_
    refine sm_icmp_ne (tgt := 117) F dX11_whatIs_110 (by decide) (fun c110 => ?_) (fun c110 => ?_)
    · replace hf := if_f c110 hf
      refine sm_iconst F dX11_whatIs_117 kc_i_0 ?_
      refine sm_sub (lv' := [(0, .ref (a 0)), (1, .int x1), (2, .int x2), (3, .int x3), (4, .int x4), (5, .int x5), (7, .int x7)]) [0, 1, 2, 3, 4, 5, 7] rfl ?_
      exact s_X11_whatIs_118 F x1 x2 x3 k37 hk37 k82 hk82 u x4 x5 x7 (0 : Int32) x6 hf
    · replace hf := if_t c110 hf
      refine sm_iconst F dX11_whatIs_113 kc_i_1 ?_
      refine sm_goto (tgt := 118) F dX11_whatIs_114 (by decide) ?_
      refine sm_sub (lv' := [(0, .ref (a 0)), (1, .int x1), (2, .int x2), (3, .int x3), (4, .int x4), (5, .int x5), (7, .int x7)]) [0, 1, 2, 3, 4, 5, 7] rfl ?_
      exact s_X11_whatIs_118 F x1 x2 x3 k37 hk37 k82 hk82 u x4 x5 x7 (1 : Int32) x6 hf
set_option maxRecDepth 100000 in
set_option maxHeartbeats 4000000 in
theorem s_X11_whatIs_82 {p : Program} {l : Launch} {e : Env} {s : State} {m : MethodId} {args : Array Value} {below : List Frame} {meth : Method} {c : Code} {A : Nat → Prop} {D : va_G} {cI cZ cO : ClassId} {a : Nat → Nat} {r : Int32} {o : DS} (F : smF p s m args meth c cX11_whatIs 8 (some .int) RX11 D (tyL cI cZ cO) A) (x1 : Int32) (x2 : Int32) (x3 : Int32) (k37 : DS → Int32 → Int32 → Option (Int32 × (DS))) (hk37 : ∀ (u' : DS) (x4' : Int32) (x5' : Int32), k37 u' x4' x5' = some (r, o) → Sm p l e rmX11_whatIs s m args below meth c D A 8 0 0 (smQ below args s D A (some (.int r)) (wD cI cZ cO a o)) 37 [(0, .ref (a 0)), (1, .int x1), (2, .int x2), (3, .int x3), (4, .int x4'), (5, .int x5')] [] (wD cI cZ cO a u')) (n : Nat) (u : DS) (x4 : Int32) (x5 : Int32) (x6 : Int32) (x7 : Int32) (hf : f_X11_whatIs_82 x1 x2 x3 k37 n u x4 x5 x6 x7 = some (r, o)) : Sm p l e rmX11_whatIs s m args below meth c D A 8 0 0 (smQ below args s D A (some (.int r)) (wD cI cZ cO a o)) 82 [(0, .ref (a 0)), (1, .int x1), (2, .int x2), (3, .int x3), (4, .int x4), (5, .int x5), (6, .int x6), (7, .int x7)] [] (wD cI cZ cO a u) :=
  lq5_ind (P := fun (u : DS) (x4 : Int32) (x5 : Int32) (x6 : Int32) (x7 : Int32) => Sm p l e rmX11_whatIs s m args below meth c D A 8 0 0 (smQ below args s D A (some (.int r)) (wD cI cZ cO a o)) 82 [(0, .ref (a 0)), (1, .int x1), (2, .int x2), (3, .int x3), (4, .int x4), (5, .int x5), (6, .int x6), (7, .int x7)] [] (wD cI cZ cO a u)) (fun k82 hk82 u x4 x5 x6 x7 h9 => s_X11_whatIs_82_b F x1 x2 x3 k37 hk37 k82 hk82 u x4 x5 x6 x7 h9) n u x4 x5 x6 x7 hf
set_option maxRecDepth 100000 in
set_option maxHeartbeats 4000000 in
theorem s_X11_whatIs_50 {p : Program} {l : Launch} {e : Env} {s : State} {m : MethodId} {args : Array Value} {below : List Frame} {meth : Method} {c : Code} {A : Nat → Prop} {D : va_G} {cI cZ cO : ClassId} {a : Nat → Nat} {r : Int32} {o : DS} (F : smF p s m args meth c cX11_whatIs 8 (some .int) RX11 D (tyL cI cZ cO) A) (x1 : Int32) (x2 : Int32) (x3 : Int32) (k37 : DS → Int32 → Int32 → Option (Int32 × (DS))) (hk37 : ∀ (u' : DS) (x4' : Int32) (x5' : Int32), k37 u' x4' x5' = some (r, o) → Sm p l e rmX11_whatIs s m args below meth c D A 8 0 0 (smQ below args s D A (some (.int r)) (wD cI cZ cO a o)) 37 [(0, .ref (a 0)), (1, .int x1), (2, .int x2), (3, .int x3), (4, .int x4'), (5, .int x5')] [] (wD cI cZ cO a u')) (u : DS) (x4 : Int32) (x5 : Int32) (y0 : Int32) (y1 : Int32) (hf : f_X11_whatIs_50 x1 x2 x3 k37  u x4 x5 y0 y1 = some (r, o)) : Sm p l e rmX11_whatIs s m args below meth c D A 8 0 0 (smQ below args s D A (some (.int r)) (wD cI cZ cO a o)) 50 [(0, .ref (a 0)), (1, .int x1), (2, .int x2), (3, .int x3), (4, .int x4), (5, .int x5)] [.int y0, .int y1] (wD cI cZ cO a u) := by
  unfold f_X11_whatIs_50 at hf
  refine sm_icmp_ge (tgt := 158) F dX11_whatIs_50 (by decide) (fun c50 => ?_) (fun c50 => ?_)
  · replace hf := if_t c50 hf
    refine sm_iload F dX11_whatIs_158 4 rfl ?_
    exact sm_iret F dX11_whatIs_160 (Prod.mk.inj (Option.some.inj hf)).1 (congrArg (fun z => (wD cI cZ cO a z)) (Prod.mk.inj (Option.some.inj hf)).2)
  · replace hf := if_f c50 hf
    refine sm_iconst F dX11_whatIs_53 kc_i_1 ?_
    refine sm_istore F [(0, .ref (a 0)), (1, .int x1), (2, .int x2), (3, .int x3), (4, .int x4), (5, .int x5), (6, .int (1 : Int32))] [1, 2, 3, 4, 5, 6, 0] dX11_whatIs_54 (by decide) rfl ?_
    refine sm_aload_n F dX11_whatIs_56 rfl 0 rfl ?_
    refine sm_get (v := .ref (a 1)) F inX11 0 rfl rfl 0 (by decide) qw5_15 rfl rfl dX11_whatIs_57 ?_
    refine sm_aload_n F dX11_whatIs_60 rfl 0 rfl ?_
    refine sm_get (v := .ref (a 2)) F inX11 0 rfl rfl 1 (by decide) qw5_16 rfl rfl dX11_whatIs_61 ?_
    obtain ⟨z64, hz64, hf⟩ := bd_some hf
    refine sm_callS (rest := []) F (ct_X11_copies l D cI cZ cO (fun i => a (pm_D_ii1_2 i)) hz64) (cut_D_ii1_2 cI cZ cO a u z64) rfl rfl rfl qw5_89 qw5_90 qw1_12 qw5_91 hsX11_copies ⟨Nat.le_of_ble_eq_true rfl, Nat.le_of_ble_eq_true rfl⟩ ⟨Nat.zero_le _, Nat.zero_le _⟩ rfl (Nat.le_of_ble_eq_true rfl) E0_b (fun _ _ _ _ _ _ => trivial) rfl dX11_whatIs_64 [] rfl ?_
    refine sm_aload_n F dX11_whatIs_67 rfl 0 rfl ?_
    refine sm_get (v := .ref (a 2)) F inX11 0 rfl rfl 1 (by decide) qw5_16 rfl rfl dX11_whatIs_68 ?_
    refine sm_iload_n F dX11_whatIs_71 rfl 1 rfl ?_
    refine sm_iload_n F dX11_whatIs_72 rfl 3 rfl ?_
    obtain ⟨z73, hz73, hf⟩ := bd_some hf
    refine sm_callS (rest := [.ref (a 2)]) F (ct_X11_of l D (tyL cI cZ cO) hz73) (cut_D_none cI cZ cO a (sD_m (sD_s u z64.1) z64.2)) rfl rfl rfl qw5_100 qw5_101 qw1_12 qw5_102 hsX11_of ⟨Nat.le_of_ble_eq_true rfl, Nat.le_of_ble_eq_true rfl⟩ ⟨Nat.zero_le _, Nat.zero_le _⟩ rfl (Nat.le_of_ble_eq_true rfl) E0_b (fun _ _ _ _ _ _ => trivial) rfl dX11_whatIs_73 [.int z73, .ref (a 2)] rfl ?_
    refine sm_iload F dX11_whatIs_76 5 rfl ?_
    obtain ⟨h78, hf⟩ := ck_some hf
    refine sm_iast F 2 0 rfl rfl h78 (wD cI cZ cO a (sD_m (sD_m (sD_s u z64.1) z64.2) (upd (gD_m (sD_m (sD_s u z64.1) z64.2)) (Int32.toNatClampNeg z73) x5))) rfl dX11_whatIs_78 ?_
    refine sm_iconst F dX11_whatIs_79 kc_i_0 ?_
    refine sm_istore F [(0, .ref (a 0)), (1, .int x1), (2, .int x2), (3, .int x3), (4, .int x4), (5, .int x5), (6, .int (1 : Int32)), (7, .int (0 : Int32))] [1, 2, 3, 4, 5, 6, 7, 0] dX11_whatIs_80 (by decide) rfl ?_
    exact s_X11_whatIs_82 F x1 x2 x3 k37 hk37 smN (sD_m (sD_m (sD_s u z64.1) z64.2) (upd (gD_m (sD_m (sD_s u z64.1) z64.2)) (Int32.toNatClampNeg z73) x5)) x4 x5 (1 : Int32) (0 : Int32) hf
set_option maxRecDepth 100000 in
set_option maxHeartbeats 4000000 in
theorem s_X11_whatIs_37_b {p : Program} {l : Launch} {e : Env} {s : State} {m : MethodId} {args : Array Value} {below : List Frame} {meth : Method} {c : Code} {A : Nat → Prop} {D : va_G} {cI cZ cO : ClassId} {a : Nat → Nat} {r : Int32} {o : DS} (F : smF p s m args meth c cX11_whatIs 8 (some .int) RX11 D (tyL cI cZ cO) A) (x1 : Int32) (x2 : Int32) (x3 : Int32) (k37 : DS → Int32 → Int32 → Option (Int32 × (DS))) (hk37 : ∀ (u' : DS) (x4' : Int32) (x5' : Int32), k37 u' x4' x5' = some (r, o) → Sm p l e rmX11_whatIs s m args below meth c D A 8 0 0 (smQ below args s D A (some (.int r)) (wD cI cZ cO a o)) 37 [(0, .ref (a 0)), (1, .int x1), (2, .int x2), (3, .int x3), (4, .int x4'), (5, .int x5')] [] (wD cI cZ cO a u')) (u : DS) (x4 : Int32) (x5 : Int32) (hf : b_X11_whatIs_37 x1 x2 x3  k37 u x4 x5 = some (r, o)) : Sm p l e rmX11_whatIs s m args below meth c D A 8 0 0 (smQ below args s D A (some (.int r)) (wD cI cZ cO a o)) 37 [(0, .ref (a 0)), (1, .int x1), (2, .int x2), (3, .int x3), (4, .int x4), (5, .int x5)] [] (wD cI cZ cO a u) := by
  unfold b_X11_whatIs_37 at hf
  refine sm_iload F dX11_whatIs_37 5 rfl ?_
  refine sm_iload_n F dX11_whatIs_39 rfl 3 rfl ?_
  refine sm_if_ne (tgt := 48) F dX11_whatIs_40 (by decide) (fun c40 => ?_) (fun c40 => ?_)
  · replace hf := if_f c40 hf
    refine sm_bipush F dX11_whatIs_48 kc_b_10 ?_
    exact s_X11_whatIs_50 F x1 x2 x3 k37 hk37 u x4 x5 (10 : Int32) x5 hf
  · replace hf := if_t c40 hf
    refine sm_bipush F dX11_whatIs_43 kc_b_6 ?_
    refine sm_goto (tgt := 50) F dX11_whatIs_45 (by decide) ?_
    exact s_X11_whatIs_50 F x1 x2 x3 k37 hk37 u x4 x5 (6 : Int32) x5 hf
set_option maxRecDepth 100000 in
set_option maxHeartbeats 4000000 in
theorem s_X11_whatIs_37 {p : Program} {l : Launch} {e : Env} {s : State} {m : MethodId} {args : Array Value} {below : List Frame} {meth : Method} {c : Code} {A : Nat → Prop} {D : va_G} {cI cZ cO : ClassId} {a : Nat → Nat} {r : Int32} {o : DS} (F : smF p s m args meth c cX11_whatIs 8 (some .int) RX11 D (tyL cI cZ cO) A) (x1 : Int32) (x2 : Int32) (x3 : Int32)  (n : Nat) (u : DS) (x4 : Int32) (x5 : Int32) (hf : f_X11_whatIs_37 x1 x2 x3  n u x4 x5 = some (r, o)) : Sm p l e rmX11_whatIs s m args below meth c D A 8 0 0 (smQ below args s D A (some (.int r)) (wD cI cZ cO a o)) 37 [(0, .ref (a 0)), (1, .int x1), (2, .int x2), (3, .int x3), (4, .int x4), (5, .int x5)] [] (wD cI cZ cO a u) :=
  lq3_ind (P := fun (u : DS) (x4 : Int32) (x5 : Int32) => Sm p l e rmX11_whatIs s m args below meth c D A 8 0 0 (smQ below args s D A (some (.int r)) (wD cI cZ cO a o)) 37 [(0, .ref (a 0)), (1, .int x1), (2, .int x2), (3, .int x3), (4, .int x4), (5, .int x5)] [] (wD cI cZ cO a u)) (fun k37 hk37 u x4 x5 h9 => s_X11_whatIs_37_b F x1 x2 x3  k37 hk37 u x4 x5 h9) n u x4 x5 hf
set_option maxRecDepth 100000 in
set_option maxHeartbeats 4000000 in
theorem ct_X11_whatIs (l : Launch) (D : va_G) (cI cZ cO : ClassId) (a : Nat → Nat) {u : DS} {x1 : Int32} {x2 : Int32} {x3 : Int32} {r : Int32} {o : DS} (hf : f_X11_whatIs u x1 x2 x3 = some (r, o)) : Ct l yX11_whatIs (uw (Cond.code yX11_whatIs cX11_whatIs 8 (some .int))) rmX11_whatIs D (tyL cI cZ cO) E0 [.ref (a 0), .int x1, .int x2, .int x3] (wD cI cZ cO a u) (some (.int r)) (wD cI cZ cO a o) := by
  refine sm_start (cc := cX11_whatIs) (maxL := 8) (ret := (some .int)) (own := RX11) (by decide) rfl rfl (Nat.le_of_ble_eq_true rfl) (lv := [(0, .ref (a 0)), (1, .int x1), (2, .int x2), (3, .int x3)]) rfl ?_
  intro p e s m below meth c A F hE hA
  unfold f_X11_whatIs at hf
  refine sm_aload_n F dX11_whatIs_0 rfl 0 rfl ?_
  refine sm_iload_n F dX11_whatIs_1 rfl 1 rfl ?_
  refine sm_iload_n F dX11_whatIs_2 rfl 2 rfl ?_
  obtain ⟨z3, hz3, hf⟩ := bd_some hf
  refine sm_callV (rest := []) F (ct_X11_areTwo l D cI cZ cO a hz3) (cut_D_id cI cZ cO a u u) rfl rfl rfl qw5_106 qw5_108 qw0_36 qw1_12 qw5_109 hvX11_areTwo ⟨Nat.le_of_ble_eq_true rfl, Nat.le_of_ble_eq_true rfl⟩ ⟨Nat.zero_le _, Nat.zero_le _⟩ 0 11 rfl rfl rfl rfl (Nat.le_of_ble_eq_true rfl) E0_b (fun _ _ _ _ _ _ => trivial) rfl dX11_whatIs_3 [.int z3] rfl ?_
  refine sm_if_ne (tgt := 15) F dX11_whatIs_6 (by decide) (fun c6 => ?_) (fun c6 => ?_)
  · replace hf := if_f c6 hf
    refine sm_iload_n F dX11_whatIs_15 rfl 3 rfl ?_
    refine sm_iconst F dX11_whatIs_16 kc_i_0 ?_
    refine sm_iconst F dX11_whatIs_17 kc_i_1 ?_
    obtain ⟨z18, hz18, hf⟩ := bd_some hf
    refine sm_callS (rest := []) F (ct_X11_isIn l D (tyL cI cZ cO) hz18) (cut_D_none cI cZ cO a u) rfl rfl rfl qw5_86 qw5_87 qw1_12 qw5_88 hsX11_isIn ⟨Nat.le_of_ble_eq_true rfl, Nat.le_of_ble_eq_true rfl⟩ ⟨Nat.zero_le _, Nat.zero_le _⟩ rfl (Nat.le_of_ble_eq_true rfl) E0_b (fun _ _ _ _ _ _ => trivial) rfl dX11_whatIs_18 [.int z18] rfl ?_
    refine sm_if_ne (tgt := 31) F dX11_whatIs_21 (by decide) (fun c21 => ?_) (fun c21 => ?_)
    · replace hf := if_f c21 hf
      refine sm_iconst F dX11_whatIs_31 kc_i_0 ?_
      refine sm_istore F [(0, .ref (a 0)), (1, .int x1), (2, .int x2), (3, .int x3), (4, .int (0 : Int32))] [1, 2, 3, 4, 0] dX11_whatIs_32 (by decide) rfl ?_
      refine sm_iconst F dX11_whatIs_34 kc_i_0 ?_
      refine sm_istore F [(0, .ref (a 0)), (1, .int x1), (2, .int x2), (3, .int x3), (4, .int (0 : Int32)), (5, .int (0 : Int32))] [1, 2, 3, 4, 5, 0] dX11_whatIs_35 (by decide) rfl ?_
      exact s_X11_whatIs_37 F x1 x2 x3 smN u (0 : Int32) (0 : Int32) hf
    · replace hf := if_t c21 hf
      refine sm_aload_n F dX11_whatIs_24 rfl 0 rfl ?_
      refine sm_bipush F dX11_whatIs_25 kc_b_m2 ?_
      obtain ⟨z27, hz27, hf⟩ := bd_some hf
      refine sm_callV (rest := []) F (ct_X11_no l D cI cZ cO a hz27) (cut_D_id cI cZ cO a u z27.2) rfl rfl rfl qw5_59 qw5_61 qw0_29 qw1_12 qw5_62 hvX11_no ⟨Nat.le_of_ble_eq_true rfl, Nat.le_of_ble_eq_true rfl⟩ ⟨Nat.zero_le _, Nat.zero_le _⟩ 0 11 rfl rfl rfl rfl (Nat.le_of_ble_eq_true rfl) E0_b (fun _ _ _ _ _ _ => trivial) rfl dX11_whatIs_27 [.int z27.1] rfl ?_
      exact sm_iret F dX11_whatIs_30 (Prod.mk.inj (Option.some.inj hf)).1 (congrArg (fun z => (wD cI cZ cO a z)) (Prod.mk.inj (Option.some.inj hf)).2)
  · replace hf := if_t c6 hf
    refine sm_aload_n F dX11_whatIs_9 rfl 0 rfl ?_
    refine sm_iconst F dX11_whatIs_10 kc_i_m1 ?_
    obtain ⟨z11, hz11, hf⟩ := bd_some hf
    refine sm_callV (rest := []) F (ct_X11_no l D cI cZ cO a hz11) (cut_D_id cI cZ cO a u z11.2) rfl rfl rfl qw5_59 qw5_61 qw0_29 qw1_12 qw5_62 hvX11_no ⟨Nat.le_of_ble_eq_true rfl, Nat.le_of_ble_eq_true rfl⟩ ⟨Nat.zero_le _, Nat.zero_le _⟩ 0 11 rfl rfl rfl rfl (Nat.le_of_ble_eq_true rfl) E0_b (fun _ _ _ _ _ _ => trivial) rfl dX11_whatIs_11 [.int z11.1] rfl ?_
    exact sm_iret F dX11_whatIs_14 (Prod.mk.inj (Option.some.inj hf)).1 (congrArg (fun z => (wD cI cZ cO a z)) (Prod.mk.inj (Option.some.inj hf)).2)
/-! SoManyForgottenModel.row(I)I -/
abbrev rmX11_row : Room := { frames := 1, cells := 0, slots := 0, locals := 22 }
set_option maxRecDepth 100000 in
theorem hvX11_row : yX11_row.cls = RX11 ∧ yX11_row.cls ≠ "java/lang/invoke/MethodHandle" ∧ yX11_row.cls ≠ "java/lang/invoke/VarHandle" ∧ (parseMethodDescriptor yX11_row.desc).map (fun d => d.parameters.length) = some 1 := by decide +kernel
set_option maxRecDepth 100000 in
set_option maxHeartbeats 4000000 in
theorem s_X11_row_24 {p : Program} {l : Launch} {e : Env} {s : State} {m : MethodId} {args : Array Value} {below : List Frame} {meth : Method} {c : Code} {A : Nat → Prop} {D : va_G} {cI cZ cO : ClassId} {a : Nat → Nat} {r : Int32} {o : DS} (F : smF p s m args meth c cX11_row 3 (some .int) RX11 D (tyL cI cZ cO) A) (x1 : Int32)  (u : DS) (x2 : Int32) (hf : f_X11_row_24 x1   u x2 = some (r, o)) : Sm p l e rmX11_row s m args below meth c D A 3 0 0 (smQ below args s D A (some (.int r)) (wD cI cZ cO a o)) 24 [(0, .ref (a 0)), (1, .int x1), (2, .int x2)] [] (wD cI cZ cO a u) := by
  unfold f_X11_row_24 at hf
  refine sm_iload_n F dX11_row_24 rfl 2 rfl ?_
  refine sm_if_eq (tgt := 34) F dX11_row_25 (by decide) (fun c25 => ?_) (fun c25 => ?_)
  · replace hf := if_t c25 hf
    refine sm_aload_n F dX11_row_34 rfl 0 rfl ?_
    refine sm_get (v := .ref (a 6)) F inX11 0 rfl rfl 6 (by decide) qw5_21 rfl rfl dX11_row_35 ?_
    refine sm_aload_n F dX11_row_38 rfl 0 rfl ?_
    refine sm_get (v := .int (gD_rowN u)) F inX11 0 rfl rfl 9 (by decide) qw5_24 rfl rfl dX11_row_39 ?_
    refine sm_iload_n F dX11_row_42 rfl 1 rfl ?_
    obtain ⟨h43, hf⟩ := ck_some hf
    refine sm_iast F 6 0 rfl rfl h43 (wD cI cZ cO a (sD_row u (upd (gD_row u) (Int32.toNatClampNeg (gD_rowN u)) x1))) rfl dX11_row_43 ?_
    refine sm_aload_n F dX11_row_44 rfl 0 rfl ?_
    refine sm_dup F dX11_row_45 rfl ?_
    refine sm_get (v := .int (gD_rowN (sD_row u (upd (gD_row u) (Int32.toNatClampNeg (gD_rowN u)) x1)))) F inX11 0 rfl rfl 9 (by decide) qw5_24 rfl rfl dX11_row_46 ?_
    refine sm_iconst F dX11_row_49 kc_i_1 ?_
    refine sm_iadd F dX11_row_50 ?_
    obtain ⟨v51, hv51, hf⟩ := bd_some hf
    refine sm_topi (Option.some.inj hv51) ?_
    refine sm_put F inX11 tyX11 tyX11_ok nmX11 0 rfl rfl 9 (by decide) qw5_24 rfl rfl rfl rfl (Nat.le_of_ble_eq_true rfl) (wD cI cZ cO a (sD_rowN (sD_row u (upd (gD_row u) (Int32.toNatClampNeg (gD_rowN u)) x1)) v51)) rfl dX11_row_51 ?_
    refine sm_aload_n F dX11_row_54 rfl 0 rfl ?_
    refine sm_get (v := .int (gD_rowN (sD_rowN (sD_row u (upd (gD_row u) (Int32.toNatClampNeg (gD_rowN u)) x1)) v51))) F inX11 0 rfl rfl 9 (by decide) qw5_24 rfl rfl dX11_row_55 ?_
    exact sm_iret F dX11_row_58 (Prod.mk.inj (Option.some.inj hf)).1 (congrArg (fun z => (wD cI cZ cO a z)) (Prod.mk.inj (Option.some.inj hf)).2)
  · replace hf := if_f c25 hf
    refine sm_aload_n F dX11_row_28 rfl 0 rfl ?_
    refine sm_iload_n F dX11_row_29 rfl 2 rfl ?_
    obtain ⟨z30, hz30, hf⟩ := bd_some hf
    refine sm_callV (rest := []) F (ct_X11_no l D cI cZ cO a hz30) (cut_D_id cI cZ cO a u z30.2) rfl rfl rfl qw5_59 qw5_61 qw0_29 qw1_12 qw5_62 hvX11_no ⟨Nat.le_of_ble_eq_true rfl, Nat.le_of_ble_eq_true rfl⟩ ⟨Nat.zero_le _, Nat.zero_le _⟩ 0 11 rfl rfl rfl rfl (Nat.le_of_ble_eq_true rfl) E0_b (fun _ _ _ _ _ _ => trivial) rfl dX11_row_30 [.int z30.1] rfl ?_
    exact sm_iret F dX11_row_33 (Prod.mk.inj (Option.some.inj hf)).1 (congrArg (fun z => (wD cI cZ cO a z)) (Prod.mk.inj (Option.some.inj hf)).2)
set_option maxRecDepth 100000 in
set_option maxHeartbeats 4000000 in
theorem ct_X11_row (l : Launch) (D : va_G) (cI cZ cO : ClassId) (a : Nat → Nat) {u : DS} {x1 : Int32} {r : Int32} {o : DS} (hf : f_X11_row u x1 = some (r, o)) : Ct l yX11_row (uw (Cond.code yX11_row cX11_row 3 (some .int))) rmX11_row D (tyL cI cZ cO) E0 [.ref (a 0), .int x1] (wD cI cZ cO a u) (some (.int r)) (wD cI cZ cO a o) := by
  refine sm_start (cc := cX11_row) (maxL := 3) (ret := (some .int)) (own := RX11) (by decide) rfl rfl (Nat.le_of_ble_eq_true rfl) (lv := [(0, .ref (a 0)), (1, .int x1)]) rfl ?_
  intro p e s m below meth c A F hE hA
  unfold f_X11_row at hf
  refine sm_iload_n F dX11_row_0 rfl 1 rfl ?_
  refine sm_iconst F dX11_row_1 kc_i_0 ?_
  refine sm_bipush F dX11_row_2 kc_b_99 ?_
  obtain ⟨z4, hz4, hf⟩ := bd_some hf
  refine sm_callS (rest := []) F (ct_X11_wrongBy l D (tyL cI cZ cO) hz4) (cut_D_none cI cZ cO a u) rfl rfl rfl qw5_159 qw5_160 qw1_12 qw5_161 hsX11_wrongBy ⟨Nat.le_of_ble_eq_true rfl, Nat.le_of_ble_eq_true rfl⟩ ⟨Nat.zero_le _, Nat.zero_le _⟩ rfl (Nat.le_of_ble_eq_true rfl) E0_b (fun _ _ _ _ _ _ => trivial) rfl dX11_row_4 [.int z4] rfl ?_
  refine sm_istore_n F [(0, .ref (a 0)), (1, .int x1), (2, .int z4)] [1, 2, 0] dX11_row_7 rfl (by decide) rfl ?_
  refine sm_iload_n F dX11_row_8 rfl 2 rfl ?_
  refine sm_if_ne (tgt := 24) F dX11_row_9 (by decide) (fun c9 => ?_) (fun c9 => ?_)
  · replace hf := if_f c9 hf
    exact s_X11_row_24 F x1 u z4 hf
  · replace hf := if_t c9 hf
    refine sm_aload_n F dX11_row_12 rfl 0 rfl ?_
    refine sm_get (v := .int (gD_rowN u)) F inX11 0 rfl rfl 9 (by decide) qw5_24 rfl rfl dX11_row_13 ?_
    refine sm_bipush F dX11_row_16 kc_b_16 ?_
    refine sm_icmp_ne (tgt := 24) F dX11_row_18 (by decide) (fun c18 => ?_) (fun c18 => ?_)
    · replace hf := if_f c18 hf
      exact s_X11_row_24 F x1 u z4 hf
    · replace hf := if_t c18 hf
      refine sm_bipush F dX11_row_21 kc_b_m6 ?_
      refine sm_istore_n F [(0, .ref (a 0)), (1, .int x1), (2, .int ((-6) : Int32))] [1, 2, 0] dX11_row_23 rfl (by decide) rfl ?_
      exact s_X11_row_24 F x1 u ((-6) : Int32) hf
/-! SoManyForgottenModel.judge()I -/
abbrev rmX11_judge : Room := { frames := 5, cells := 0, slots := 0, locals := 110 }
set_option maxRecDepth 100000 in
theorem hvX11_judge : yX11_judge.cls = RX11 ∧ yX11_judge.cls ≠ "java/lang/invoke/MethodHandle" ∧ yX11_judge.cls ≠ "java/lang/invoke/VarHandle" ∧ (parseMethodDescriptor yX11_judge.desc).map (fun d => d.parameters.length) = some 0 := by decide +kernel
set_option maxRecDepth 100000 in
set_option maxHeartbeats 4000000 in
theorem s_X11_judge_23_b {p : Program} {l : Launch} {e : Env} {s : State} {m : MethodId} {args : Array Value} {below : List Frame} {meth : Method} {c : Code} {A : Nat → Prop} {D : va_G} {cI cZ cO : ClassId} {a : Nat → Nat} {r : Int32} {o : DS} (F : smF p s m args meth c cX11_judge 3 (some .int) RX11 D (tyL cI cZ cO) A)  (k23 : DS → Int32 → Int32 → Option (Int32 × (DS))) (hk23 : ∀ (u' : DS) (x1' : Int32) (x2' : Int32), k23 u' x1' x2' = some (r, o) → Sm p l e rmX11_judge s m args below meth c D A 3 0 0 (smQ below args s D A (some (.int r)) (wD cI cZ cO a o)) 23 [(0, .ref (a 0)), (1, .int x1'), (2, .int x2')] [] (wD cI cZ cO a u')) (u : DS) (x1 : Int32) (x2 : Int32) (hf : b_X11_judge_23   k23 u x1 x2 = some (r, o)) : Sm p l e rmX11_judge s m args below meth c D A 3 0 0 (smQ below args s D A (some (.int r)) (wD cI cZ cO a o)) 23 [(0, .ref (a 0)), (1, .int x1), (2, .int x2)] [] (wD cI cZ cO a u) := by
  unfold b_X11_judge_23 at hf
  refine sm_iload_n F dX11_judge_23 rfl 2 rfl ?_
  refine sm_iload_n F dX11_judge_24 rfl 1 rfl ?_
  refine sm_icmp_ge (tgt := 62) F dX11_judge_25 (by decide) (fun c25 => ?_) (fun c25 => ?_)
  · replace hf := if_t c25 hf
    refine sm_bipush F dX11_judge_62 kc_b_m9 ?_
    exact sm_iret F dX11_judge_64 (Prod.mk.inj (Option.some.inj hf)).1 (congrArg (fun z => (wD cI cZ cO a z)) (Prod.mk.inj (Option.some.inj hf)).2)
  · replace hf := if_f c25 hf
    refine sm_aload_n F dX11_judge_28 rfl 0 rfl ?_
    refine sm_get (v := .ref (a 2)) F inX11 0 rfl rfl 1 (by decide) qw5_16 rfl rfl dX11_judge_29 ?_
    obtain ⟨z32, hz32, hf⟩ := bd_some hf
    refine sm_callS (rest := []) F (ct_X11_hereIn l D cI cZ cO (fun i => a (pm_D_i2 i)) hz32) (cut_D_i2_ro cI cZ cO a u) rfl rfl rfl qw5_174 qw5_175 qw1_12 qw5_176 hsX11_hereIn ⟨Nat.le_of_ble_eq_true rfl, Nat.le_of_ble_eq_true rfl⟩ ⟨Nat.zero_le _, Nat.zero_le _⟩ rfl (Nat.le_of_ble_eq_true rfl) E0_b (fun _ _ _ _ _ _ => trivial) rfl dX11_judge_32 [.int z32] rfl ?_
    obtain ⟨z35, hz35, hf⟩ := bd_some hf
    refine sm_callS (rest := []) F (ct_X11_bits l D (tyL cI cZ cO) hz35) (cut_D_none cI cZ cO a u) rfl rfl rfl qw5_177 qw5_178 qw1_12 qw5_179 hsX11_bits ⟨Nat.le_of_ble_eq_true rfl, Nat.le_of_ble_eq_true rfl⟩ ⟨Nat.zero_le _, Nat.zero_le _⟩ rfl (Nat.le_of_ble_eq_true rfl) E0_b (fun _ _ _ _ _ _ => trivial) rfl dX11_judge_35 [.int z35] rfl ?_
    refine sm_aload_n F dX11_judge_38 rfl 0 rfl ?_
    refine sm_get (v := .ref (a 6)) F inX11 0 rfl rfl 6 (by decide) qw5_21 rfl rfl dX11_judge_39 ?_
    refine sm_iload_n F dX11_judge_42 rfl 2 rfl ?_
    obtain ⟨h43, hf⟩ := ck_some hf
    refine sm_iald F 6 0 rfl rfl h43 dX11_judge_43 ?_
    refine sm_icmp_eq (tgt := 49) F dX11_judge_44 (by decide) (fun c44 => ?_) (fun c44 => ?_)
    · replace hf := if_t c44 hf
      refine sm_aload_n F dX11_judge_49 rfl 0 rfl ?_
      refine sm_get (v := .ref (a 2)) F inX11 0 rfl rfl 1 (by decide) qw5_16 rfl rfl dX11_judge_50 ?_
      obtain ⟨z53, hz53, hf⟩ := bd_some hf
      refine sm_callS (rest := []) F (ct_X11_week l D cI cZ cO (fun i => a (pm_D_i2 i)) hz53) (cut_D_i2 cI cZ cO a u z53) rfl rfl rfl qw5_129 qw5_130 qw1_12 qw5_131 hsX11_week ⟨Nat.le_of_ble_eq_true rfl, Nat.le_of_ble_eq_true rfl⟩ ⟨Nat.zero_le _, Nat.zero_le _⟩ rfl (Nat.le_of_ble_eq_true rfl) E0_b (fun _ _ _ _ _ _ => trivial) rfl dX11_judge_53 [] rfl ?_
      refine sm_iinc F [(0, .ref (a 0)), (1, .int x1), (2, .int (x2 + 1))] 2 [1, 2, 0] dX11_judge_56 rfl kc_i_1 (by decide) rfl ?_
      refine sm_goto (tgt := 23) F dX11_judge_59 (by decide) ?_
      exact hk23 (sD_m u z53) x1 (x2 + 1) hf
    · replace hf := if_f c44 hf
      refine sm_iload_n F dX11_judge_47 rfl 2 rfl ?_
      exact sm_iret F dX11_judge_48 (Prod.mk.inj (Option.some.inj hf)).1 (congrArg (fun z => (wD cI cZ cO a z)) (Prod.mk.inj (Option.some.inj hf)).2)
set_option maxRecDepth 100000 in
set_option maxHeartbeats 4000000 in
theorem s_X11_judge_23 {p : Program} {l : Launch} {e : Env} {s : State} {m : MethodId} {args : Array Value} {below : List Frame} {meth : Method} {c : Code} {A : Nat → Prop} {D : va_G} {cI cZ cO : ClassId} {a : Nat → Nat} {r : Int32} {o : DS} (F : smF p s m args meth c cX11_judge 3 (some .int) RX11 D (tyL cI cZ cO) A)   (n : Nat) (u : DS) (x1 : Int32) (x2 : Int32) (hf : f_X11_judge_23   n u x1 x2 = some (r, o)) : Sm p l e rmX11_judge s m args below meth c D A 3 0 0 (smQ below args s D A (some (.int r)) (wD cI cZ cO a o)) 23 [(0, .ref (a 0)), (1, .int x1), (2, .int x2)] [] (wD cI cZ cO a u) :=
  lq3_ind (P := fun (u : DS) (x1 : Int32) (x2 : Int32) => Sm p l e rmX11_judge s m args below meth c D A 3 0 0 (smQ below args s D A (some (.int r)) (wD cI cZ cO a o)) 23 [(0, .ref (a 0)), (1, .int x1), (2, .int x2)] [] (wD cI cZ cO a u)) (fun k23 hk23 u x1 x2 h9 => s_X11_judge_23_b F   k23 hk23 u x1 x2 h9) n u x1 x2 hf
set_option maxRecDepth 100000 in
set_option maxHeartbeats 4000000 in
theorem ct_X11_judge (l : Launch) (D : va_G) (cI cZ cO : ClassId) (a : Nat → Nat) {u : DS} {r : Int32} {o : DS} (hf : f_X11_judge u = some (r, o)) : Ct l yX11_judge (uw (Cond.code yX11_judge cX11_judge 3 (some .int))) rmX11_judge D (tyL cI cZ cO) E0 [.ref (a 0)] (wD cI cZ cO a u) (some (.int r)) (wD cI cZ cO a o) := by
  refine sm_start (cc := cX11_judge) (maxL := 3) (ret := (some .int)) (own := RX11) (by decide) rfl rfl (Nat.le_of_ble_eq_true rfl) (lv := [(0, .ref (a 0))]) rfl ?_
  intro p e s m below meth c A F hE hA
  unfold f_X11_judge at hf
  refine sm_aload_n F dX11_judge_0 rfl 0 rfl ?_
  refine sm_get (v := .int (gD_rowN u)) F inX11 0 rfl rfl 9 (by decide) qw5_24 rfl rfl dX11_judge_1 ?_
  refine sm_istore_n F [(0, .ref (a 0)), (1, .int (gD_rowN u))] [1, 0] dX11_judge_4 rfl (by decide) rfl ?_
  refine sm_aload_n F dX11_judge_5 rfl 0 rfl ?_
  refine sm_iconst F dX11_judge_6 kc_i_0 ?_
  refine sm_put F inX11 tyX11 tyX11_ok nmX11 0 rfl rfl 9 (by decide) qw5_24 rfl rfl rfl rfl (Nat.le_of_ble_eq_true rfl) (wD cI cZ cO a (sD_rowN u (0 : Int32))) rfl dX11_judge_7 ?_
  refine sm_aload_n F dX11_judge_10 rfl 0 rfl ?_
  refine sm_get (v := .ref (a 1)) F inX11 0 rfl rfl 0 (by decide) qw5_15 rfl rfl dX11_judge_11 ?_
  refine sm_aload_n F dX11_judge_14 rfl 0 rfl ?_
  refine sm_get (v := .ref (a 2)) F inX11 0 rfl rfl 1 (by decide) qw5_16 rfl rfl dX11_judge_15 ?_
  obtain ⟨z18, hz18, hf⟩ := bd_some hf
  refine sm_callS (rest := []) F (ct_X11_copies l D cI cZ cO (fun i => a (pm_D_ii1_2 i)) hz18) (cut_D_ii1_2 cI cZ cO a (sD_rowN u (0 : Int32)) z18) rfl rfl rfl qw5_89 qw5_90 qw1_12 qw5_91 hsX11_copies ⟨Nat.le_of_ble_eq_true rfl, Nat.le_of_ble_eq_true rfl⟩ ⟨Nat.zero_le _, Nat.zero_le _⟩ rfl (Nat.le_of_ble_eq_true rfl) E0_b (fun _ _ _ _ _ _ => trivial) rfl dX11_judge_18 [] rfl ?_
  refine sm_iconst F dX11_judge_21 kc_i_0 ?_
  refine sm_istore_n F [(0, .ref (a 0)), (1, .int (gD_rowN u)), (2, .int (0 : Int32))] [1, 2, 0] dX11_judge_22 rfl (by decide) rfl ?_
  exact s_X11_judge_23 F  smN (sD_m (sD_s (sD_rowN u (0 : Int32)) z18.1) z18.2) (gD_rowN u) (0 : Int32) hf
/-! SoManyForgottenModel.clear()I -/
abbrev rmX11_clear : Room := { frames := 0, cells := 0, slots := 0, locals := 0 }
set_option maxRecDepth 100000 in
theorem hvX11_clear : yX11_clear.cls = RX11 ∧ yX11_clear.cls ≠ "java/lang/invoke/MethodHandle" ∧ yX11_clear.cls ≠ "java/lang/invoke/VarHandle" ∧ (parseMethodDescriptor yX11_clear.desc).map (fun d => d.parameters.length) = some 0 := by decide +kernel
set_option maxRecDepth 100000 in
set_option maxHeartbeats 4000000 in
theorem ct_X11_clear (l : Launch) (D : va_G) (cI cZ cO : ClassId) (a : Nat → Nat) {u : DS} {r : Int32} {o : DS} (hf : f_X11_clear u = some (r, o)) : Ct l yX11_clear (uw (Cond.code yX11_clear cX11_clear 2 (some .int))) rmX11_clear D (tyL cI cZ cO) E0 [.ref (a 0)] (wD cI cZ cO a u) (some (.int r)) (wD cI cZ cO a o) := by
  refine sm_start (cc := cX11_clear) (maxL := 2) (ret := (some .int)) (own := RX11) (by decide) rfl rfl (Nat.le_of_ble_eq_true rfl) (lv := [(0, .ref (a 0))]) rfl ?_
  intro p e s m below meth c A F hE hA
  unfold f_X11_clear at hf
  refine sm_aload_n F dX11_clear_0 rfl 0 rfl ?_
  refine sm_get (v := .int (gD_rowN u)) F inX11 0 rfl rfl 9 (by decide) qw5_24 rfl rfl dX11_clear_1 ?_
  refine sm_istore_n F [(0, .ref (a 0)), (1, .int (gD_rowN u))] [1, 0] dX11_clear_4 rfl (by decide) rfl ?_
  refine sm_aload_n F dX11_clear_5 rfl 0 rfl ?_
  refine sm_iconst F dX11_clear_6 kc_i_0 ?_
  refine sm_put F inX11 tyX11 tyX11_ok nmX11 0 rfl rfl 9 (by decide) qw5_24 rfl rfl rfl rfl (Nat.le_of_ble_eq_true rfl) (wD cI cZ cO a (sD_rowN u (0 : Int32))) rfl dX11_clear_7 ?_
  refine sm_iload_n F dX11_clear_10 rfl 1 rfl ?_
  exact sm_iret F dX11_clear_11 (Prod.mk.inj (Option.some.inj hf)).1 (congrArg (fun z => (wD cI cZ cO a z)) (Prod.mk.inj (Option.some.inj hf)).2)
/-! SoManyForgottenModel.drawn(I)I -/
abbrev rmX11_drawn : Room := { frames := 0, cells := 0, slots := 0, locals := 0 }
set_option maxRecDepth 100000 in
theorem hvX11_drawn : yX11_drawn.cls = RX11 ∧ yX11_drawn.cls ≠ "java/lang/invoke/MethodHandle" ∧ yX11_drawn.cls ≠ "java/lang/invoke/VarHandle" ∧ (parseMethodDescriptor yX11_drawn.desc).map (fun d => d.parameters.length) = some 1 := by decide +kernel
set_option maxRecDepth 100000 in
set_option maxHeartbeats 4000000 in
theorem ct_X11_drawn (l : Launch) (D : va_G) (cI cZ cO : ClassId) (a : Nat → Nat) {u : DS} {x1 : Int32} {r : Int32} {o : DS} (hf : f_X11_drawn u x1 = some (r, o)) : Ct l yX11_drawn (uw (Cond.code yX11_drawn cX11_drawn 2 (some .int))) rmX11_drawn D (tyL cI cZ cO) E0 [.ref (a 0), .int x1] (wD cI cZ cO a u) (some (.int r)) (wD cI cZ cO a o) := by
  refine sm_start (cc := cX11_drawn) (maxL := 2) (ret := (some .int)) (own := RX11) (by decide) rfl rfl (Nat.le_of_ble_eq_true rfl) (lv := [(0, .ref (a 0)), (1, .int x1)]) rfl ?_
  intro p e s m below meth c A F hE hA
  unfold f_X11_drawn at hf
  refine sm_aload_n F dX11_drawn_0 rfl 0 rfl ?_
  refine sm_aload_n F dX11_drawn_1 rfl 0 rfl ?_
  refine sm_get (v := .int (gD_seed u)) F inX11 0 rfl rfl 12 (by decide) qw5_27 rfl rfl dX11_drawn_2 ?_
  refine sm_ldc (v := 1664525) F qw6_116 dX11_drawn_5 ?_
  refine sm_imul F dX11_drawn_7 ?_
  refine sm_ldc (v := 1013904223) F qw6_117 dX11_drawn_8 ?_
  refine sm_iadd F dX11_drawn_10 ?_
  obtain ⟨v11, hv11, hf⟩ := bd_some hf
  refine sm_topi (Option.some.inj hv11) ?_
  refine sm_put F inX11 tyX11 tyX11_ok nmX11 0 rfl rfl 12 (by decide) qw5_27 rfl rfl rfl rfl (Nat.le_of_ble_eq_true rfl) (wD cI cZ cO a (sD_seed u v11)) rfl dX11_drawn_11 ?_
  refine sm_aload_n F dX11_drawn_14 rfl 0 rfl ?_
  refine sm_get (v := .int (gD_seed (sD_seed u v11))) F inX11 0 rfl rfl 12 (by decide) qw5_27 rfl rfl dX11_drawn_15 ?_
  refine sm_ldc (v := 2147483647) F qw6_118 dX11_drawn_18 ?_
  refine sm_iand F dX11_drawn_20 ?_
  refine sm_sipush F dX11_drawn_21 kc_s_256 ?_
  refine sm_idiv F dX11_drawn_24 (by decide) ?_
  refine sm_iload_n F dX11_drawn_25 rfl 1 rfl ?_
  obtain ⟨h26, hf⟩ := dz_some hf
  refine sm_irem F dX11_drawn_26 h26 ?_
  exact sm_iret F dX11_drawn_27 (Prod.mk.inj (Option.some.inj hf)).1 (congrArg (fun z => (wD cI cZ cO a z)) (Prod.mk.inj (Option.some.inj hf)).2)
/-! SoManyForgottenModel.lots(III)I -/
abbrev rmX11_lots : Room := { frames := 6, cells := 0, slots := 0, locals := 132 }
set_option maxRecDepth 100000 in
theorem hvX11_lots : yX11_lots.cls = RX11 ∧ yX11_lots.cls ≠ "java/lang/invoke/MethodHandle" ∧ yX11_lots.cls ≠ "java/lang/invoke/VarHandle" ∧ (parseMethodDescriptor yX11_lots.desc).map (fun d => d.parameters.length) = some 3 := by decide +kernel
set_option maxRecDepth 100000 in
set_option maxHeartbeats 4000000 in
theorem s_X11_lots_86_b {p : Program} {l : Launch} {e : Env} {s : State} {m : MethodId} {args : Array Value} {below : List Frame} {meth : Method} {c : Code} {A : Nat → Prop} {D : va_G} {cI cZ cO : ClassId} {a : Nat → Nat} {r : Int32} {o : DS} (F : smF p s m args meth c cX11_lots 8 (some .int) RX11 D (tyL cI cZ cO) A) (x1 : Int32) (x3 : Int32) (k52 : DS → Int32 → Int32 → Option (Int32 × (DS))) (hk52 : ∀ (u' : DS) (x4' : Int32) (x5' : Int32), k52 u' x4' x5' = some (r, o) → Sm p l e rmX11_lots s m args below meth c D A 8 0 0 (smQ below args s D A (some (.int r)) (wD cI cZ cO a o)) 52 [(0, .ref (a 0)), (1, .int x1), (3, .int x3), (4, .int x4'), (5, .int x5')] [] (wD cI cZ cO a u')) (k72 : DS → Int32 → Int32 → Int32 → Option (Int32 × (DS))) (hk72 : ∀ (u' : DS) (x4' : Int32) (x5' : Int32) (x6' : Int32), k72 u' x4' x5' x6' = some (r, o) → Sm p l e rmX11_lots s m args below meth c D A 8 0 0 (smQ below args s D A (some (.int r)) (wD cI cZ cO a o)) 72 [(0, .ref (a 0)), (1, .int x1), (3, .int x3), (4, .int x4'), (5, .int x5'), (6, .int x6')] [] (wD cI cZ cO a u')) (k86 : DS → Int32 → Int32 → Int32 → Int32 → Option (Int32 × (DS))) (hk86 : ∀ (u' : DS) (x4' : Int32) (x5' : Int32) (x6' : Int32) (x7' : Int32), k86 u' x4' x5' x6' x7' = some (r, o) → Sm p l e rmX11_lots s m args below meth c D A 8 0 0 (smQ below args s D A (some (.int r)) (wD cI cZ cO a o)) 86 [(0, .ref (a 0)), (1, .int x1), (3, .int x3), (4, .int x4'), (5, .int x5'), (6, .int x6'), (7, .int x7')] [] (wD cI cZ cO a u')) (u : DS) (x4 : Int32) (x5 : Int32) (x6 : Int32) (x7 : Int32) (hf : b_X11_lots_86 x1 x3 k52 k72 k86 u x4 x5 x6 x7 = some (r, o)) : Sm p l e rmX11_lots s m args below meth c D A 8 0 0 (smQ below args s D A (some (.int r)) (wD cI cZ cO a o)) 86 [(0, .ref (a 0)), (1, .int x1), (3, .int x3), (4, .int x4), (5, .int x5), (6, .int x6), (7, .int x7)] [] (wD cI cZ cO a u) := by
  unfold b_X11_lots_86 at hf
  refine sm_iload F dX11_lots_86 6 rfl ?_
  refine sm_aload_n F dX11_lots_88 rfl 0 rfl ?_
  refine sm_get (v := .ref (a 1)) F inX11 0 rfl rfl 0 (by decide) qw5_15 rfl rfl dX11_lots_89 ?_
  refine sm_iconst F dX11_lots_92 kc_i_0 ?_
  obtain ⟨h93, hf⟩ := ck_some hf
  refine sm_iald F 1 0 rfl rfl h93 dX11_lots_93 ?_
  refine sm_icmp_ge (tgt := 128) F dX11_lots_94 (by decide) (fun c94 => ?_) (fun c94 => ?_)
  · replace hf := if_t c94 hf
    refine sm_iinc F [(0, .ref (a 0)), (1, .int x1), (3, .int x3), (4, .int x4), (5, .int x5), (6, .int (x6 + 1)), (7, .int x7)] 5 [1, 2, 3, 4, 5, 0, 6] dX11_lots_128 rfl kc_i_1 (by decide) rfl ?_
    refine sm_goto (tgt := 72) F dX11_lots_131 (by decide) ?_
    refine sm_sub (lv' := [(0, .ref (a 0)), (1, .int x1), (3, .int x3), (4, .int x4), (5, .int x5), (6, .int (x6 + 1))]) [0, 1, 2, 3, 4, 5] rfl ?_
    exact hk72 u x4 x5 (x6 + 1) hf
  · replace hf := if_f c94 hf
    refine sm_iload F dX11_lots_97 5 rfl ?_
    refine sm_iload F dX11_lots_99 6 rfl ?_
    refine sm_icmp_eq (tgt := 122) F dX11_lots_101 (by decide) (fun c101 => ?_) (fun c101 => ?_)
    · replace hf := if_t c101 hf
      refine sm_iinc F [(0, .ref (a 0)), (1, .int x1), (3, .int x3), (4, .int x4), (5, .int x5), (6, .int x6), (7, .int (x7 + 1))] 6 [1, 2, 3, 4, 5, 6, 0] dX11_lots_122 rfl kc_i_1 (by decide) rfl ?_
      refine sm_goto (tgt := 86) F dX11_lots_125 (by decide) ?_
      exact hk86 u x4 x5 x6 (x7 + 1) hf
    · replace hf := if_f c101 hf
      refine sm_aload_n F dX11_lots_104 rfl 0 rfl ?_
      refine sm_get (v := .ref (a 2)) F inX11 0 rfl rfl 1 (by decide) qw5_16 rfl rfl dX11_lots_105 ?_
      refine sm_iload F dX11_lots_108 5 rfl ?_
      refine sm_iload F dX11_lots_110 6 rfl ?_
      obtain ⟨z112, hz112, hf⟩ := bd_some hf
      refine sm_callS (rest := [.ref (a 2)]) F (ct_X11_by l D (tyL cI cZ cO) hz112) (cut_D_none cI cZ cO a u) rfl rfl rfl qw5_103 qw5_104 qw1_12 qw5_105 hsX11_by ⟨Nat.le_of_ble_eq_true rfl, Nat.le_of_ble_eq_true rfl⟩ ⟨Nat.zero_le _, Nat.zero_le _⟩ rfl (Nat.le_of_ble_eq_true rfl) E0_b (fun _ _ _ _ _ _ => trivial) rfl dX11_lots_112 [.int z112, .ref (a 2)] rfl ?_
      refine sm_aload_n F dX11_lots_115 rfl 0 rfl ?_
      refine sm_bipush F dX11_lots_116 kc_b_100 ?_
      obtain ⟨z118, hz118, hf⟩ := bd_some hf
      refine sm_callV (rest := [.int z112, .ref (a 2)]) F (ct_X11_drawn l D cI cZ cO a hz118) (cut_D_id cI cZ cO a u z118.2) rfl rfl rfl qw6_112 qw6_114 qw0_48 qw1_12 qw6_115 hvX11_drawn ⟨Nat.le_of_ble_eq_true rfl, Nat.le_of_ble_eq_true rfl⟩ ⟨Nat.zero_le _, Nat.zero_le _⟩ 0 11 rfl rfl rfl rfl (Nat.le_of_ble_eq_true rfl) E0_b (fun _ _ _ _ _ _ => trivial) rfl dX11_lots_118 [.int z118.1, .int z112, .ref (a 2)] rfl ?_
      obtain ⟨h121, hf⟩ := ck_some hf
      refine sm_iast F 2 0 rfl rfl h121 (wD cI cZ cO a (sD_m z118.2 (upd (gD_m z118.2) (Int32.toNatClampNeg z112) z118.1))) rfl dX11_lots_121 ?_
      refine sm_iinc F [(0, .ref (a 0)), (1, .int x1), (3, .int x3), (4, .int x4), (5, .int x5), (6, .int x6), (7, .int (x7 + 1))] 6 [1, 2, 3, 4, 5, 6, 0] dX11_lots_122 rfl kc_i_1 (by decide) rfl ?_
      refine sm_goto (tgt := 86) F dX11_lots_125 (by decide) ?_
      exact hk86 (sD_m z118.2 (upd (gD_m z118.2) (Int32.toNatClampNeg z112) z118.1)) x4 x5 x6 (x7 + 1) hf
set_option maxRecDepth 100000 in
set_option maxHeartbeats 4000000 in
theorem s_X11_lots_86 {p : Program} {l : Launch} {e : Env} {s : State} {m : MethodId} {args : Array Value} {below : List Frame} {meth : Method} {c : Code} {A : Nat → Prop} {D : va_G} {cI cZ cO : ClassId} {a : Nat → Nat} {r : Int32} {o : DS} (F : smF p s m args meth c cX11_lots 8 (some .int) RX11 D (tyL cI cZ cO) A) (x1 : Int32) (x3 : Int32) (k52 : DS → Int32 → Int32 → Option (Int32 × (DS))) (hk52 : ∀ (u' : DS) (x4' : Int32) (x5' : Int32), k52 u' x4' x5' = some (r, o) → Sm p l e rmX11_lots s m args below meth c D A 8 0 0 (smQ below args s D A (some (.int r)) (wD cI cZ cO a o)) 52 [(0, .ref (a 0)), (1, .int x1), (3, .int x3), (4, .int x4'), (5, .int x5')] [] (wD cI cZ cO a u')) (k72 : DS → Int32 → Int32 → Int32 → Option (Int32 × (DS))) (hk72 : ∀ (u' : DS) (x4' : Int32) (x5' : Int32) (x6' : Int32), k72 u' x4' x5' x6' = some (r, o) → Sm p l e rmX11_lots s m args below meth c D A 8 0 0 (smQ below args s D A (some (.int r)) (wD cI cZ cO a o)) 72 [(0, .ref (a 0)), (1, .int x1), (3, .int x3), (4, .int x4'), (5, .int x5'), (6, .int x6')] [] (wD cI cZ cO a u')) (n : Nat) (u : DS) (x4 : Int32) (x5 : Int32) (x6 : Int32) (x7 : Int32) (hf : f_X11_lots_86 x1 x3 k52 k72 n u x4 x5 x6 x7 = some (r, o)) : Sm p l e rmX11_lots s m args below meth c D A 8 0 0 (smQ below args s D A (some (.int r)) (wD cI cZ cO a o)) 86 [(0, .ref (a 0)), (1, .int x1), (3, .int x3), (4, .int x4), (5, .int x5), (6, .int x6), (7, .int x7)] [] (wD cI cZ cO a u) :=
  lq5_ind (P := fun (u : DS) (x4 : Int32) (x5 : Int32) (x6 : Int32) (x7 : Int32) => Sm p l e rmX11_lots s m args below meth c D A 8 0 0 (smQ below args s D A (some (.int r)) (wD cI cZ cO a o)) 86 [(0, .ref (a 0)), (1, .int x1), (3, .int x3), (4, .int x4), (5, .int x5), (6, .int x6), (7, .int x7)] [] (wD cI cZ cO a u)) (fun k86 hk86 u x4 x5 x6 x7 h9 => s_X11_lots_86_b F x1 x3 k52 hk52 k72 hk72 k86 hk86 u x4 x5 x6 x7 h9) n u x4 x5 x6 x7 hf
set_option maxRecDepth 100000 in
set_option maxHeartbeats 4000000 in
theorem s_X11_lots_72_b {p : Program} {l : Launch} {e : Env} {s : State} {m : MethodId} {args : Array Value} {below : List Frame} {meth : Method} {c : Code} {A : Nat → Prop} {D : va_G} {cI cZ cO : ClassId} {a : Nat → Nat} {r : Int32} {o : DS} (F : smF p s m args meth c cX11_lots 8 (some .int) RX11 D (tyL cI cZ cO) A) (x1 : Int32) (x3 : Int32) (k52 : DS → Int32 → Int32 → Option (Int32 × (DS))) (hk52 : ∀ (u' : DS) (x4' : Int32) (x5' : Int32), k52 u' x4' x5' = some (r, o) → Sm p l e rmX11_lots s m args below meth c D A 8 0 0 (smQ below args s D A (some (.int r)) (wD cI cZ cO a o)) 52 [(0, .ref (a 0)), (1, .int x1), (3, .int x3), (4, .int x4'), (5, .int x5')] [] (wD cI cZ cO a u')) (k72 : DS → Int32 → Int32 → Int32 → Option (Int32 × (DS))) (hk72 : ∀ (u' : DS) (x4' : Int32) (x5' : Int32) (x6' : Int32), k72 u' x4' x5' x6' = some (r, o) → Sm p l e rmX11_lots s m args below meth c D A 8 0 0 (smQ below args s D A (some (.int r)) (wD cI cZ cO a o)) 72 [(0, .ref (a 0)), (1, .int x1), (3, .int x3), (4, .int x4'), (5, .int x5'), (6, .int x6')] [] (wD cI cZ cO a u')) (u : DS) (x4 : Int32) (x5 : Int32) (x6 : Int32) (hf : b_X11_lots_72 x1 x3 k52 k72 u x4 x5 x6 = some (r, o)) : Sm p l e rmX11_lots s m args below meth c D A 8 0 0 (smQ below args s D A (some (.int r)) (wD cI cZ cO a o)) 72 [(0, .ref (a 0)), (1, .int x1), (3, .int x3), (4, .int x4), (5, .int x5), (6, .int x6)] [] (wD cI cZ cO a u) := by
  unfold b_X11_lots_72 at hf
  refine sm_iload F dX11_lots_72 5 rfl ?_
  refine sm_aload_n F dX11_lots_74 rfl 0 rfl ?_
  refine sm_get (v := .ref (a 1)) F inX11 0 rfl rfl 0 (by decide) qw5_15 rfl rfl dX11_lots_75 ?_
  refine sm_iconst F dX11_lots_78 kc_i_0 ?_
  obtain ⟨h79, hf⟩ := ck_some hf
  refine sm_iald F 1 0 rfl rfl h79 dX11_lots_79 ?_
  refine sm_icmp_ge (tgt := 134) F dX11_lots_80 (by decide) (fun c80 => ?_) (fun c80 => ?_)
  · replace hf := if_t c80 hf
    refine sm_aload_n F dX11_lots_134 rfl 0 rfl ?_
    refine sm_get (v := .ref (a 2)) F inX11 0 rfl rfl 1 (by decide) qw5_16 rfl rfl dX11_lots_135 ?_
    refine sm_bipush F dX11_lots_138 kc_b_20 ?_
    obtain ⟨z140, hz140, hf⟩ := bd_some hf
    refine sm_callS (rest := []) F (ct_X11_weeksOn l D cI cZ cO (fun i => a (pm_D_i2 i)) hz140) (cut_D_i2 cI cZ cO a u z140) rfl rfl rfl qw5_126 qw5_127 qw1_12 qw5_128 hsX11_weeksOn ⟨Nat.le_of_ble_eq_true rfl, Nat.le_of_ble_eq_true rfl⟩ ⟨Nat.zero_le _, Nat.zero_le _⟩ rfl (Nat.le_of_ble_eq_true rfl) E0_b (fun _ _ _ _ _ _ => trivial) rfl dX11_lots_140 [] rfl ?_
    refine sm_iload F dX11_lots_143 3 rfl ?_
    refine sm_iload_n F dX11_lots_145 rfl 2 rfl ?_
    refine sm_if_ne (tgt := 162) F dX11_lots_146 (by decide) (fun c146 => ?_) (fun c146 => ?_)
    · replace hf := if_f c146 hf
      refine sm_aload_n F dX11_lots_162 rfl 0 rfl ?_
      refine sm_get (v := .ref (a 2)) F inX11 0 rfl rfl 1 (by decide) qw5_16 rfl rfl dX11_lots_163 ?_
      obtain ⟨z166, hz166, hf⟩ := bd_some hf
      refine sm_callS (rest := [.int x4]) F (ct_X11_knownAll l D cI cZ cO (fun i => a (pm_D_i2 i)) hz166) (cut_D_i2_ro cI cZ cO a (sD_m u z140)) rfl rfl rfl qw6_89 qw6_90 qw1_12 qw6_91 hsX11_knownAll ⟨Nat.le_of_ble_eq_true rfl, Nat.le_of_ble_eq_true rfl⟩ ⟨Nat.zero_le _, Nat.zero_le _⟩ rfl (Nat.le_of_ble_eq_true rfl) E0_b (fun _ _ _ _ _ _ => trivial) rfl dX11_lots_166 [.int z166, .int x4] rfl ?_
      refine sm_iadd F dX11_lots_169 ?_
      refine sm_istore F [(0, .ref (a 0)), (1, .int x1), (3, .int x3), (4, .int (x4 + z166)), (5, .int x5)] [1, 2, 3, 0, 4] dX11_lots_170 (by decide) rfl ?_
      refine sm_iinc F [(0, .ref (a 0)), (1, .int x1), (3, .int x3), (4, .int (x4 + z166)), (5, .int (x5 + 1))] 4 [1, 2, 3, 4, 0] dX11_lots_172 rfl kc_i_1 (by decide) rfl ?_
      refine sm_goto (tgt := 52) F dX11_lots_175 (by decide) ?_
      exact hk52 (sD_m u z140) (x4 + z166) (x5 + 1) hf
    · replace hf := if_t c146 hf
      refine sm_aload_n F dX11_lots_149 rfl 0 rfl ?_
      refine sm_get (v := .ref (a 2)) F inX11 0 rfl rfl 1 (by decide) qw5_16 rfl rfl dX11_lots_150 ?_
      obtain ⟨z153, hz153, hf⟩ := bd_some hf
      refine sm_callS (rest := [.int x4]) F (ct_X11_hereIn l D cI cZ cO (fun i => a (pm_D_i2 i)) hz153) (cut_D_i2_ro cI cZ cO a (sD_m u z140)) rfl rfl rfl qw5_174 qw5_175 qw1_12 qw5_176 hsX11_hereIn ⟨Nat.le_of_ble_eq_true rfl, Nat.le_of_ble_eq_true rfl⟩ ⟨Nat.zero_le _, Nat.zero_le _⟩ rfl (Nat.le_of_ble_eq_true rfl) E0_b (fun _ _ _ _ _ _ => trivial) rfl dX11_lots_153 [.int z153, .int x4] rfl ?_
      obtain ⟨z156, hz156, hf⟩ := bd_some hf
      refine sm_callS (rest := [.int x4]) F (ct_X11_bits l D (tyL cI cZ cO) hz156) (cut_D_none cI cZ cO a (sD_m u z140)) rfl rfl rfl qw5_177 qw5_178 qw1_12 qw5_179 hsX11_bits ⟨Nat.le_of_ble_eq_true rfl, Nat.le_of_ble_eq_true rfl⟩ ⟨Nat.zero_le _, Nat.zero_le _⟩ rfl (Nat.le_of_ble_eq_true rfl) E0_b (fun _ _ _ _ _ _ => trivial) rfl dX11_lots_156 [.int z156, .int x4] rfl ?_
      refine sm_goto (tgt := 169) F dX11_lots_159 (by decide) ?_
      refine sm_iadd F dX11_lots_169 ?_
      refine sm_istore F [(0, .ref (a 0)), (1, .int x1), (3, .int x3), (4, .int (x4 + z156)), (5, .int x5)] [1, 2, 3, 0, 4] dX11_lots_170 (by decide) rfl ?_
      refine sm_iinc F [(0, .ref (a 0)), (1, .int x1), (3, .int x3), (4, .int (x4 + z156)), (5, .int (x5 + 1))] 4 [1, 2, 3, 4, 0] dX11_lots_172 rfl kc_i_1 (by decide) rfl ?_
      refine sm_goto (tgt := 52) F dX11_lots_175 (by decide) ?_
      exact hk52 (sD_m u z140) (x4 + z156) (x5 + 1) hf
  · replace hf := if_f c80 hf
    refine sm_iconst F dX11_lots_83 kc_i_0 ?_
    refine sm_istore F [(0, .ref (a 0)), (1, .int x1), (3, .int x3), (4, .int x4), (5, .int x5), (6, .int x6), (7, .int (0 : Int32))] [1, 2, 3, 4, 5, 6, 0] dX11_lots_84 (by decide) rfl ?_
    exact s_X11_lots_86 F x1 x3 k52 hk52 k72 hk72 smN u x4 x5 x6 (0 : Int32) hf
set_option maxRecDepth 100000 in
set_option maxHeartbeats 4000000 in
theorem s_X11_lots_72 {p : Program} {l : Launch} {e : Env} {s : State} {m : MethodId} {args : Array Value} {below : List Frame} {meth : Method} {c : Code} {A : Nat → Prop} {D : va_G} {cI cZ cO : ClassId} {a : Nat → Nat} {r : Int32} {o : DS} (F : smF p s m args meth c cX11_lots 8 (some .int) RX11 D (tyL cI cZ cO) A) (x1 : Int32) (x3 : Int32) (k52 : DS → Int32 → Int32 → Option (Int32 × (DS))) (hk52 : ∀ (u' : DS) (x4' : Int32) (x5' : Int32), k52 u' x4' x5' = some (r, o) → Sm p l e rmX11_lots s m args below meth c D A 8 0 0 (smQ below args s D A (some (.int r)) (wD cI cZ cO a o)) 52 [(0, .ref (a 0)), (1, .int x1), (3, .int x3), (4, .int x4'), (5, .int x5')] [] (wD cI cZ cO a u')) (n : Nat) (u : DS) (x4 : Int32) (x5 : Int32) (x6 : Int32) (hf : f_X11_lots_72 x1 x3 k52 n u x4 x5 x6 = some (r, o)) : Sm p l e rmX11_lots s m args below meth c D A 8 0 0 (smQ below args s D A (some (.int r)) (wD cI cZ cO a o)) 72 [(0, .ref (a 0)), (1, .int x1), (3, .int x3), (4, .int x4), (5, .int x5), (6, .int x6)] [] (wD cI cZ cO a u) :=
  lq4_ind (P := fun (u : DS) (x4 : Int32) (x5 : Int32) (x6 : Int32) => Sm p l e rmX11_lots s m args below meth c D A 8 0 0 (smQ below args s D A (some (.int r)) (wD cI cZ cO a o)) 72 [(0, .ref (a 0)), (1, .int x1), (3, .int x3), (4, .int x4), (5, .int x5), (6, .int x6)] [] (wD cI cZ cO a u)) (fun k72 hk72 u x4 x5 x6 h9 => s_X11_lots_72_b F x1 x3 k52 hk52 k72 hk72 u x4 x5 x6 h9) n u x4 x5 x6 hf
set_option maxRecDepth 100000 in
set_option maxHeartbeats 4000000 in
theorem s_X11_lots_52_b {p : Program} {l : Launch} {e : Env} {s : State} {m : MethodId} {args : Array Value} {below : List Frame} {meth : Method} {c : Code} {A : Nat → Prop} {D : va_G} {cI cZ cO : ClassId} {a : Nat → Nat} {r : Int32} {o : DS} (F : smF p s m args meth c cX11_lots 8 (some .int) RX11 D (tyL cI cZ cO) A) (x1 : Int32) (x3 : Int32) (k52 : DS → Int32 → Int32 → Option (Int32 × (DS))) (hk52 : ∀ (u' : DS) (x4' : Int32) (x5' : Int32), k52 u' x4' x5' = some (r, o) → Sm p l e rmX11_lots s m args below meth c D A 8 0 0 (smQ below args s D A (some (.int r)) (wD cI cZ cO a o)) 52 [(0, .ref (a 0)), (1, .int x1), (3, .int x3), (4, .int x4'), (5, .int x5')] [] (wD cI cZ cO a u')) (u : DS) (x4 : Int32) (x5 : Int32) (hf : b_X11_lots_52 x1 x3  k52 u x4 x5 = some (r, o)) : Sm p l e rmX11_lots s m args below meth c D A 8 0 0 (smQ below args s D A (some (.int r)) (wD cI cZ cO a o)) 52 [(0, .ref (a 0)), (1, .int x1), (3, .int x3), (4, .int x4), (5, .int x5)] [] (wD cI cZ cO a u) := by
  unfold b_X11_lots_52 at hf
  refine sm_iload F dX11_lots_52 4 rfl ?_
  refine sm_iload_n F dX11_lots_54 rfl 1 rfl ?_
  refine sm_icmp_ge (tgt := 178) F dX11_lots_55 (by decide) (fun c55 => ?_) (fun c55 => ?_)
  · replace hf := if_t c55 hf
    refine sm_iload F dX11_lots_178 3 rfl ?_
    exact sm_iret F dX11_lots_180 (Prod.mk.inj (Option.some.inj hf)).1 (congrArg (fun z => (wD cI cZ cO a z)) (Prod.mk.inj (Option.some.inj hf)).2)
  · replace hf := if_f c55 hf
    refine sm_aload_n F dX11_lots_58 rfl 0 rfl ?_
    refine sm_get (v := .ref (a 1)) F inX11 0 rfl rfl 0 (by decide) qw5_15 rfl rfl dX11_lots_59 ?_
    refine sm_aload_n F dX11_lots_62 rfl 0 rfl ?_
    refine sm_get (v := .ref (a 2)) F inX11 0 rfl rfl 1 (by decide) qw5_16 rfl rfl dX11_lots_63 ?_
    obtain ⟨z66, hz66, hf⟩ := bd_some hf
    refine sm_callS (rest := []) F (ct_X11_copies l D cI cZ cO (fun i => a (pm_D_ii1_2 i)) hz66) (cut_D_ii1_2 cI cZ cO a u z66) rfl rfl rfl qw5_89 qw5_90 qw1_12 qw5_91 hsX11_copies ⟨Nat.le_of_ble_eq_true rfl, Nat.le_of_ble_eq_true rfl⟩ ⟨Nat.zero_le _, Nat.zero_le _⟩ rfl (Nat.le_of_ble_eq_true rfl) E0_b (fun _ _ _ _ _ _ => trivial) rfl dX11_lots_66 [] rfl ?_
    refine sm_iconst F dX11_lots_69 kc_i_0 ?_
    refine sm_istore F [(0, .ref (a 0)), (1, .int x1), (3, .int x3), (4, .int x4), (5, .int x5), (6, .int (0 : Int32))] [1, 2, 3, 4, 5, 0] dX11_lots_70 (by decide) rfl ?_
    exact s_X11_lots_72 F x1 x3 k52 hk52 smN (sD_m (sD_s u z66.1) z66.2) x4 x5 (0 : Int32) hf
set_option maxRecDepth 100000 in
set_option maxHeartbeats 4000000 in
theorem s_X11_lots_52 {p : Program} {l : Launch} {e : Env} {s : State} {m : MethodId} {args : Array Value} {below : List Frame} {meth : Method} {c : Code} {A : Nat → Prop} {D : va_G} {cI cZ cO : ClassId} {a : Nat → Nat} {r : Int32} {o : DS} (F : smF p s m args meth c cX11_lots 8 (some .int) RX11 D (tyL cI cZ cO) A) (x1 : Int32) (x3 : Int32)  (n : Nat) (u : DS) (x4 : Int32) (x5 : Int32) (hf : f_X11_lots_52 x1 x3  n u x4 x5 = some (r, o)) : Sm p l e rmX11_lots s m args below meth c D A 8 0 0 (smQ below args s D A (some (.int r)) (wD cI cZ cO a o)) 52 [(0, .ref (a 0)), (1, .int x1), (3, .int x3), (4, .int x4), (5, .int x5)] [] (wD cI cZ cO a u) :=
  lq3_ind (P := fun (u : DS) (x4 : Int32) (x5 : Int32) => Sm p l e rmX11_lots s m args below meth c D A 8 0 0 (smQ below args s D A (some (.int r)) (wD cI cZ cO a o)) 52 [(0, .ref (a 0)), (1, .int x1), (3, .int x3), (4, .int x4), (5, .int x5)] [] (wD cI cZ cO a u)) (fun k52 hk52 u x4 x5 h9 => s_X11_lots_52_b F x1 x3  k52 hk52 u x4 x5 h9) n u x4 x5 hf
set_option maxRecDepth 100000 in
set_option maxHeartbeats 4000000 in
theorem ct_X11_lots (l : Launch) (D : va_G) (cI cZ cO : ClassId) (a : Nat → Nat) {u : DS} {x1 : Int32} {x2 : Int32} {x3 : Int32} {r : Int32} {o : DS} (hf : f_X11_lots u x1 x2 x3 = some (r, o)) : Ct l yX11_lots (uw (Cond.code yX11_lots cX11_lots 8 (some .int))) rmX11_lots D (tyL cI cZ cO) E0 [.ref (a 0), .int x1, .int x2, .int x3] (wD cI cZ cO a u) (some (.int r)) (wD cI cZ cO a o) := by
  refine sm_start (cc := cX11_lots) (maxL := 8) (ret := (some .int)) (own := RX11) (by decide) rfl rfl (Nat.le_of_ble_eq_true rfl) (lv := [(0, .ref (a 0)), (1, .int x1), (2, .int x2), (3, .int x3)]) rfl ?_
  intro p e s m below meth c A F hE hA
  unfold f_X11_lots at hf
  refine sm_iload_n F dX11_lots_0 rfl 1 rfl ?_
  refine sm_iconst F dX11_lots_1 kc_i_1 ?_
  refine sm_icmp_ge (tgt := 12) F dX11_lots_2 (by decide) (fun c2 => ?_) (fun c2 => ?_)
  · replace hf := if_t c2 hf
    refine sm_iload_n F dX11_lots_12 rfl 1 rfl ?_
    refine sm_bipush F dX11_lots_13 kc_b_20 ?_
    refine sm_icmp_le (tgt := 25) F dX11_lots_15 (by decide) (fun c15 => ?_) (fun c15 => ?_)
    · replace hf := if_t c15 hf
      refine sm_iload_n F dX11_lots_25 rfl 3 rfl ?_
      refine sm_iconst F dX11_lots_26 kc_i_0 ?_
      refine sm_iconst F dX11_lots_27 kc_i_1 ?_
      obtain ⟨z28, hz28, hf⟩ := bd_some hf
      refine sm_callS (rest := []) F (ct_X11_isIn l D (tyL cI cZ cO) hz28) (cut_D_none cI cZ cO a u) rfl rfl rfl qw5_86 qw5_87 qw1_12 qw5_88 hsX11_isIn ⟨Nat.le_of_ble_eq_true rfl, Nat.le_of_ble_eq_true rfl⟩ ⟨Nat.zero_le _, Nat.zero_le _⟩ rfl (Nat.le_of_ble_eq_true rfl) E0_b (fun _ _ _ _ _ _ => trivial) rfl dX11_lots_28 [.int z28] rfl ?_
      refine sm_if_ne (tgt := 41) F dX11_lots_31 (by decide) (fun c31 => ?_) (fun c31 => ?_)
      · replace hf := if_f c31 hf
        refine sm_aload_n F dX11_lots_41 rfl 0 rfl ?_
        refine sm_iload_n F dX11_lots_42 rfl 2 rfl ?_
        refine sm_put F inX11 tyX11 tyX11_ok nmX11 0 rfl rfl 12 (by decide) qw5_27 rfl rfl rfl rfl (Nat.le_of_ble_eq_true rfl) (wD cI cZ cO a (sD_seed u x2)) rfl dX11_lots_43 ?_
        refine sm_iconst F dX11_lots_46 kc_i_0 ?_
        refine sm_istore F [(0, .ref (a 0)), (1, .int x1), (3, .int x3), (4, .int (0 : Int32))] [1, 2, 4, 0] dX11_lots_47 (by decide) rfl ?_
        refine sm_iconst F dX11_lots_49 kc_i_0 ?_
        refine sm_istore F [(0, .ref (a 0)), (1, .int x1), (3, .int x3), (4, .int (0 : Int32)), (5, .int (0 : Int32))] [1, 2, 3, 4, 0] dX11_lots_50 (by decide) rfl ?_
        exact s_X11_lots_52 F x1 x3 smN (sD_seed u x2) (0 : Int32) (0 : Int32) hf
      · replace hf := if_t c31 hf
        refine sm_aload_n F dX11_lots_34 rfl 0 rfl ?_
        refine sm_bipush F dX11_lots_35 kc_b_m2 ?_
        obtain ⟨z37, hz37, hf⟩ := bd_some hf
        refine sm_callV (rest := []) F (ct_X11_no l D cI cZ cO a hz37) (cut_D_id cI cZ cO a u z37.2) rfl rfl rfl qw5_59 qw5_61 qw0_29 qw1_12 qw5_62 hvX11_no ⟨Nat.le_of_ble_eq_true rfl, Nat.le_of_ble_eq_true rfl⟩ ⟨Nat.zero_le _, Nat.zero_le _⟩ 0 11 rfl rfl rfl rfl (Nat.le_of_ble_eq_true rfl) E0_b (fun _ _ _ _ _ _ => trivial) rfl dX11_lots_37 [.int z37.1] rfl ?_
        exact sm_iret F dX11_lots_40 (Prod.mk.inj (Option.some.inj hf)).1 (congrArg (fun z => (wD cI cZ cO a z)) (Prod.mk.inj (Option.some.inj hf)).2)
    · replace hf := if_f c15 hf
      refine sm_aload_n F dX11_lots_18 rfl 0 rfl ?_
      refine sm_bipush F dX11_lots_19 kc_b_m6 ?_
      obtain ⟨z21, hz21, hf⟩ := bd_some hf
      refine sm_callV (rest := []) F (ct_X11_no l D cI cZ cO a hz21) (cut_D_id cI cZ cO a u z21.2) rfl rfl rfl qw5_59 qw5_61 qw0_29 qw1_12 qw5_62 hvX11_no ⟨Nat.le_of_ble_eq_true rfl, Nat.le_of_ble_eq_true rfl⟩ ⟨Nat.zero_le _, Nat.zero_le _⟩ 0 11 rfl rfl rfl rfl (Nat.le_of_ble_eq_true rfl) E0_b (fun _ _ _ _ _ _ => trivial) rfl dX11_lots_21 [.int z21.1] rfl ?_
      exact sm_iret F dX11_lots_24 (Prod.mk.inj (Option.some.inj hf)).1 (congrArg (fun z => (wD cI cZ cO a z)) (Prod.mk.inj (Option.some.inj hf)).2)
  · replace hf := if_f c2 hf
    refine sm_aload_n F dX11_lots_5 rfl 0 rfl ?_
    refine sm_bipush F dX11_lots_6 kc_b_m4 ?_
    obtain ⟨z8, hz8, hf⟩ := bd_some hf
    refine sm_callV (rest := []) F (ct_X11_no l D cI cZ cO a hz8) (cut_D_id cI cZ cO a u z8.2) rfl rfl rfl qw5_59 qw5_61 qw0_29 qw1_12 qw5_62 hvX11_no ⟨Nat.le_of_ble_eq_true rfl, Nat.le_of_ble_eq_true rfl⟩ ⟨Nat.zero_le _, Nat.zero_le _⟩ 0 11 rfl rfl rfl rfl (Nat.le_of_ble_eq_true rfl) E0_b (fun _ _ _ _ _ _ => trivial) rfl dX11_lots_8 [.int z8.1] rfl ?_
    exact sm_iret F dX11_lots_11 (Prod.mk.inj (Option.some.inj hf)).1 (congrArg (fun z => (wD cI cZ cO a z)) (Prod.mk.inj (Option.some.inj hf)).2)
/-! SoManyForgottenModel.image()I -/
abbrev rmX11_image : Room := { frames := 1, cells := 0, slots := 0, locals := 22 }
set_option maxRecDepth 100000 in
theorem hvX11_image : yX11_image.cls = RX11 ∧ yX11_image.cls ≠ "java/lang/invoke/MethodHandle" ∧ yX11_image.cls ≠ "java/lang/invoke/VarHandle" ∧ (parseMethodDescriptor yX11_image.desc).map (fun d => d.parameters.length) = some 0 := by decide +kernel
set_option maxRecDepth 100000 in
set_option maxHeartbeats 4000000 in
theorem ct_X11_image (l : Launch) (D : va_G) (cI cZ cO : ClassId) (a : Nat → Nat) {u : DS} {r : Int32} {o : DS} (hf : f_X11_image u = some (r, o)) : Ct l yX11_image (uw (Cond.code yX11_image cX11_image 1 (some .int))) rmX11_image D (tyL cI cZ cO) E0 [.ref (a 0)] (wD cI cZ cO a u) (some (.int r)) (wD cI cZ cO a o) := by
  refine sm_start (cc := cX11_image) (maxL := 1) (ret := (some .int)) (own := RX11) (by decide) rfl rfl (Nat.le_of_ble_eq_true rfl) (lv := [(0, .ref (a 0))]) rfl ?_
  intro p e s m below meth c A F hE hA
  unfold f_X11_image at hf
  refine sm_aload_n F dX11_image_0 rfl 0 rfl ?_
  refine sm_get (v := .ref (a 1)) F inX11 0 rfl rfl 0 (by decide) qw5_15 rfl rfl dX11_image_1 ?_
  refine sm_aload_n F dX11_image_4 rfl 0 rfl ?_
  refine sm_get (v := .ref (a 3)) F inX11 0 rfl rfl 2 (by decide) qw5_17 rfl rfl dX11_image_5 ?_
  obtain ⟨z8, hz8, hf⟩ := bd_some hf
  refine sm_callS (rest := []) F (ct_X11_copies l D cI cZ cO (fun i => a (pm_D_ii1_3 i)) hz8) (cut_D_ii1_3 cI cZ cO a u z8) rfl rfl rfl qw5_89 qw5_90 qw1_12 qw5_91 hsX11_copies ⟨Nat.le_of_ble_eq_true rfl, Nat.le_of_ble_eq_true rfl⟩ ⟨Nat.zero_le _, Nat.zero_le _⟩ rfl (Nat.le_of_ble_eq_true rfl) E0_b (fun _ _ _ _ _ _ => trivial) rfl dX11_image_8 [] rfl ?_
  refine sm_aload_n F dX11_image_11 rfl 0 rfl ?_
  refine sm_iconst F dX11_image_12 kc_i_1 ?_
  refine sm_put F inX11 tyX11 tyX11_ok nmX11 0 rfl rfl 4 (by decide) qw5_19 rfl rfl rfl rfl (Nat.le_of_ble_eq_true rfl) (wD cI cZ cO a (sD_has (sD_image (sD_s u z8.1) z8.2) (1 : Int32))) rfl dX11_image_13 ?_
  refine sm_aload_n F dX11_image_16 rfl 0 rfl ?_
  refine sm_get (v := .ref (a 1)) F inX11 0 rfl rfl 0 (by decide) qw5_15 rfl rfl dX11_image_17 ?_
  refine sm_iconst F dX11_image_20 kc_i_1 ?_
  obtain ⟨h21, hf⟩ := ck_some hf
  refine sm_iald F 1 0 rfl rfl h21 dX11_image_21 ?_
  exact sm_iret F dX11_image_22 (Prod.mk.inj (Option.some.inj hf)).1 (congrArg (fun z => (wD cI cZ cO a z)) (Prod.mk.inj (Option.some.inj hf)).2)
/-! SoManyForgottenModel.on()I -/
abbrev rmX11_on : Room := { frames := 1, cells := 0, slots := 0, locals := 22 }
set_option maxRecDepth 100000 in
theorem hvX11_on : yX11_on.cls = RX11 ∧ yX11_on.cls ≠ "java/lang/invoke/MethodHandle" ∧ yX11_on.cls ≠ "java/lang/invoke/VarHandle" ∧ (parseMethodDescriptor yX11_on.desc).map (fun d => d.parameters.length) = some 0 := by decide +kernel
set_option maxRecDepth 100000 in
set_option maxHeartbeats 4000000 in
theorem ct_X11_on (l : Launch) (D : va_G) (cI cZ cO : ClassId) (a : Nat → Nat) {u : DS} {r : Int32} {o : DS} (hf : f_X11_on u = some (r, o)) : Ct l yX11_on (uw (Cond.code yX11_on cX11_on 1 (some .int))) rmX11_on D (tyL cI cZ cO) E0 [.ref (a 0)] (wD cI cZ cO a u) (some (.int r)) (wD cI cZ cO a o) := by
  refine sm_start (cc := cX11_on) (maxL := 1) (ret := (some .int)) (own := RX11) (by decide) rfl rfl (Nat.le_of_ble_eq_true rfl) (lv := [(0, .ref (a 0))]) rfl ?_
  intro p e s m below meth c A F hE hA
  unfold f_X11_on at hf
  refine sm_aload_n F dX11_on_0 rfl 0 rfl ?_
  refine sm_get (v := .int (gD_has u)) F inX11 0 rfl rfl 4 (by decide) qw5_19 rfl rfl dX11_on_1 ?_
  refine sm_if_ne (tgt := 14) F dX11_on_4 (by decide) (fun c4 => ?_) (fun c4 => ?_)
  · replace hf := if_f c4 hf
    refine sm_aload_n F dX11_on_14 rfl 0 rfl ?_
    refine sm_get (v := .ref (a 3)) F inX11 0 rfl rfl 2 (by decide) qw5_17 rfl rfl dX11_on_15 ?_
    refine sm_aload_n F dX11_on_18 rfl 0 rfl ?_
    refine sm_get (v := .ref (a 1)) F inX11 0 rfl rfl 0 (by decide) qw5_15 rfl rfl dX11_on_19 ?_
    obtain ⟨z22, hz22, hf⟩ := bd_some hf
    refine sm_callS (rest := []) F (ct_X11_copies l D cI cZ cO (fun i => a (pm_D_ii3_1 i)) hz22) (cut_D_ii3_1 cI cZ cO a u z22) rfl rfl rfl qw5_89 qw5_90 qw1_12 qw5_91 hsX11_copies ⟨Nat.le_of_ble_eq_true rfl, Nat.le_of_ble_eq_true rfl⟩ ⟨Nat.zero_le _, Nat.zero_le _⟩ rfl (Nat.le_of_ble_eq_true rfl) E0_b (fun _ _ _ _ _ _ => trivial) rfl dX11_on_22 [] rfl ?_
    refine sm_aload_n F dX11_on_25 rfl 0 rfl ?_
    refine sm_get (v := .ref (a 1)) F inX11 0 rfl rfl 0 (by decide) qw5_15 rfl rfl dX11_on_26 ?_
    refine sm_iconst F dX11_on_29 kc_i_1 ?_
    obtain ⟨h30, hf⟩ := ck_some hf
    refine sm_iald F 1 0 rfl rfl h30 dX11_on_30 ?_
    exact sm_iret F dX11_on_31 (Prod.mk.inj (Option.some.inj hf)).1 (congrArg (fun z => (wD cI cZ cO a z)) (Prod.mk.inj (Option.some.inj hf)).2)
  · replace hf := if_t c4 hf
    refine sm_aload_n F dX11_on_7 rfl 0 rfl ?_
    refine sm_bipush F dX11_on_8 kc_b_m3 ?_
    obtain ⟨z10, hz10, hf⟩ := bd_some hf
    refine sm_callV (rest := []) F (ct_X11_no l D cI cZ cO a hz10) (cut_D_id cI cZ cO a u z10.2) rfl rfl rfl qw5_59 qw5_61 qw0_29 qw1_12 qw5_62 hvX11_no ⟨Nat.le_of_ble_eq_true rfl, Nat.le_of_ble_eq_true rfl⟩ ⟨Nat.zero_le _, Nat.zero_le _⟩ 0 11 rfl rfl rfl rfl (Nat.le_of_ble_eq_true rfl) E0_b (fun _ _ _ _ _ _ => trivial) rfl dX11_on_10 [.int z10.1] rfl ?_
    exact sm_iret F dX11_on_13 (Prod.mk.inj (Option.some.inj hf)).1 (congrArg (fun z => (wD cI cZ cO a z)) (Prod.mk.inj (Option.some.inj hf)).2)
/-! SoManyForgottenModel.count(I)I -/
abbrev rmX11_count : Room := { frames := 4, cells := 0, slots := 0, locals := 87 }
set_option maxRecDepth 100000 in
theorem hvX11_count : yX11_count.cls = RX11 ∧ yX11_count.cls ≠ "java/lang/invoke/MethodHandle" ∧ yX11_count.cls ≠ "java/lang/invoke/VarHandle" ∧ (parseMethodDescriptor yX11_count.desc).map (fun d => d.parameters.length) = some 1 := by decide +kernel
set_option maxRecDepth 100000 in
set_option maxHeartbeats 4000000 in
theorem s_X11_count_104_b {p : Program} {l : Launch} {e : Env} {s : State} {m : MethodId} {args : Array Value} {below : List Frame} {meth : Method} {c : Code} {A : Nat → Prop} {D : va_G} {cI cZ cO : ClassId} {a : Nat → Nat} {r : Int32} (F : smF p s m args meth c cX11_count 4 (some .int) RX11 D (tyL cI cZ cO) A) (u : DS) (k104 : Int32 → Int32 → Option Int32) (hk104 : ∀ (x2' : Int32) (x3' : Int32), k104 x2' x3' = some r → Sm p l e rmX11_count s m args below meth c D A 4 0 0 (smQ below args s D A (some (.int r)) (wD cI cZ cO a u)) 104 [(0, .ref (a 0)), (2, .int x2'), (3, .int x3')] [] (wD cI cZ cO a u)) (x2 : Int32) (x3 : Int32) (hf : b_X11_count_104 u  k104 x2 x3 = some r) : Sm p l e rmX11_count s m args below meth c D A 4 0 0 (smQ below args s D A (some (.int r)) (wD cI cZ cO a u)) 104 [(0, .ref (a 0)), (2, .int x2), (3, .int x3)] [] (wD cI cZ cO a u) := by
  unfold b_X11_count_104 at hf
  refine sm_iload_n F dX11_count_104 rfl 2 rfl ?_
  refine sm_aload_n F dX11_count_105 rfl 0 rfl ?_
  refine sm_get (v := .ref (a 1)) F inX11 0 rfl rfl 0 (by decide) qw5_15 rfl rfl dX11_count_106 ?_
  refine sm_iconst F dX11_count_109 kc_i_0 ?_
  obtain ⟨h110, hf⟩ := ck_some hf
  refine sm_iald F 1 0 rfl rfl h110 dX11_count_110 ?_
  refine sm_icmp_ge (tgt := 133) F dX11_count_111 (by decide) (fun c111 => ?_) (fun c111 => ?_)
  · replace hf := if_t c111 hf
    refine sm_iload_n F dX11_count_133 rfl 1 rfl ?_
    exact sm_iret F dX11_count_134 (Option.some.inj hf) rfl
  · replace hf := if_f c111 hf
    refine sm_iload_n F dX11_count_114 rfl 1 rfl ?_
    refine sm_aload_n F dX11_count_115 rfl 0 rfl ?_
    refine sm_get (v := .ref (a 1)) F inX11 0 rfl rfl 0 (by decide) qw5_15 rfl rfl dX11_count_116 ?_
    refine sm_iload_n F dX11_count_119 rfl 2 rfl ?_
    refine sm_iconst F dX11_count_120 kc_i_3 ?_
    obtain ⟨z121, hz121, hf⟩ := bd_some hf
    refine sm_callS (rest := [.ref (a 1), .int x2]) F (ct_X11_of l D (tyL cI cZ cO) hz121) (cut_D_none cI cZ cO a u) rfl rfl rfl qw5_100 qw5_101 qw1_12 qw5_102 hsX11_of ⟨Nat.le_of_ble_eq_true rfl, Nat.le_of_ble_eq_true rfl⟩ ⟨Nat.zero_le _, Nat.zero_le _⟩ rfl (Nat.le_of_ble_eq_true rfl) E0_b (fun _ _ _ _ _ _ => trivial) rfl dX11_count_121 [.int z121, .ref (a 1), .int x2] rfl ?_
    obtain ⟨h124, hf⟩ := ck_some hf
    refine sm_iald F 1 0 rfl rfl h124 dX11_count_124 ?_
    refine sm_iadd F dX11_count_125 ?_
    refine sm_istore_n F [(0, .ref (a 0)), (2, .int (x2 + ((gD_s u) (Int32.toNatClampNeg z121)))), (3, .int x3)] [1, 0, 2] dX11_count_126 rfl (by decide) rfl ?_
    refine sm_iinc F [(0, .ref (a 0)), (2, .int (x2 + ((gD_s u) (Int32.toNatClampNeg z121)))), (3, .int (x3 + 1))] 2 [1, 2, 0] dX11_count_127 rfl kc_i_1 (by decide) rfl ?_
    refine sm_goto (tgt := 104) F dX11_count_130 (by decide) ?_
    exact hk104 (x2 + ((gD_s u) (Int32.toNatClampNeg z121))) (x3 + 1) hf
set_option maxRecDepth 100000 in
set_option maxHeartbeats 4000000 in
theorem s_X11_count_104 {p : Program} {l : Launch} {e : Env} {s : State} {m : MethodId} {args : Array Value} {below : List Frame} {meth : Method} {c : Code} {A : Nat → Prop} {D : va_G} {cI cZ cO : ClassId} {a : Nat → Nat} {r : Int32} (F : smF p s m args meth c cX11_count 4 (some .int) RX11 D (tyL cI cZ cO) A) (u : DS)  (n : Nat) (x2 : Int32) (x3 : Int32) (hf : f_X11_count_104 u  n x2 x3 = some r) : Sm p l e rmX11_count s m args below meth c D A 4 0 0 (smQ below args s D A (some (.int r)) (wD cI cZ cO a u)) 104 [(0, .ref (a 0)), (2, .int x2), (3, .int x3)] [] (wD cI cZ cO a u) :=
  lq2_ind (P := fun (x2 : Int32) (x3 : Int32) => Sm p l e rmX11_count s m args below meth c D A 4 0 0 (smQ below args s D A (some (.int r)) (wD cI cZ cO a u)) 104 [(0, .ref (a 0)), (2, .int x2), (3, .int x3)] [] (wD cI cZ cO a u)) (fun k104 hk104 x2 x3 h9 => s_X11_count_104_b F u  k104 hk104 x2 x3 h9) n x2 x3 hf
set_option maxRecDepth 100000 in
set_option maxHeartbeats 4000000 in
theorem ct_X11_count (l : Launch) (D : va_G) (cI cZ cO : ClassId) (a : Nat → Nat) {u : DS} {x1 : Int32} {r : Int32} (hf : f_X11_count u x1 = some r) : Ct l yX11_count (uw (Cond.code yX11_count cX11_count 4 (some .int))) rmX11_count D (tyL cI cZ cO) E0 [.ref (a 0), .int x1] (wD cI cZ cO a u) (some (.int r)) (wD cI cZ cO a u) := by
  refine sm_start (cc := cX11_count) (maxL := 4) (ret := (some .int)) (own := RX11) (by decide) rfl rfl (Nat.le_of_ble_eq_true rfl) (lv := [(0, .ref (a 0)), (1, .int x1)]) rfl ?_
  intro p e s m below meth c A F hE hA
  unfold f_X11_count at hf
  refine sm_iload_n F dX11_count_0 rfl 1 rfl ?_
  refine sm_bipush F dX11_count_1 kc_b_11 ?_
  refine sm_bipush F dX11_count_3 kc_b_16 ?_
  obtain ⟨z5, hz5, hf⟩ := bd_some hf
  refine sm_callS (rest := []) F (ct_X11_isIn l D (tyL cI cZ cO) hz5) (cut_D_none cI cZ cO a u) rfl rfl rfl qw5_86 qw5_87 qw1_12 qw5_88 hsX11_isIn ⟨Nat.le_of_ble_eq_true rfl, Nat.le_of_ble_eq_true rfl⟩ ⟨Nat.zero_le _, Nat.zero_le _⟩ rfl (Nat.le_of_ble_eq_true rfl) E0_b (fun _ _ _ _ _ _ => trivial) rfl dX11_count_5 [.int z5] rfl ?_
  refine sm_if_eq (tgt := 21) F dX11_count_8 (by decide) (fun c8 => ?_) (fun c8 => ?_)
  · replace hf := if_t c8 hf
    refine sm_iconst F dX11_count_21 kc_i_0 ?_
    refine sm_istore_n F [(0, .ref (a 0)), (1, .int x1), (2, .int (0 : Int32))] [1, 2, 0] dX11_count_22 rfl (by decide) rfl ?_
    refine sm_iload_n F dX11_count_23 rfl 1 rfl ?_
    by_cases w24_0 : x1 = 0
    · replace hf := if_t w24_0 hf
      refine sm_tableIn (off := 48) (tgt := 72) F dX11_count_24 (by rw [w24_0]; decide) (by rw [w24_0]; decide) (by rw [w24_0]; rfl) (by decide) ?_
      refine sm_aload_n F dX11_count_72 rfl 0 rfl ?_
      refine sm_get (v := .ref (a 1)) F inX11 0 rfl rfl 0 (by decide) qw5_15 rfl rfl dX11_count_73 ?_
      refine sm_iload_n F dX11_count_76 rfl 1 rfl ?_
      obtain ⟨h77, hf⟩ := ck_some hf
      refine sm_iald F 1 0 rfl rfl h77 dX11_count_77 ?_
      exact sm_iret F dX11_count_78 (Option.some.inj hf) rfl
    replace hf := if_f w24_0 hf
    by_cases w24_1 : x1 = 1
    · replace hf := if_t w24_1 hf
      refine sm_tableIn (off := 48) (tgt := 72) F dX11_count_24 (by rw [w24_1]; decide) (by rw [w24_1]; decide) (by rw [w24_1]; rfl) (by decide) ?_
      refine sm_aload_n F dX11_count_72 rfl 0 rfl ?_
      refine sm_get (v := .ref (a 1)) F inX11 0 rfl rfl 0 (by decide) qw5_15 rfl rfl dX11_count_73 ?_
      refine sm_iload_n F dX11_count_76 rfl 1 rfl ?_
      obtain ⟨h77, hf⟩ := ck_some hf
      refine sm_iald F 1 0 rfl rfl h77 dX11_count_77 ?_
      exact sm_iret F dX11_count_78 (Option.some.inj hf) rfl
    replace hf := if_f w24_1 hf
    by_cases w24_2 : x1 = 2
    · replace hf := if_t w24_2 hf
      refine sm_tableIn (off := 55) (tgt := 79) F dX11_count_24 (by rw [w24_2]; decide) (by rw [w24_2]; decide) (by rw [w24_2]; rfl) (by decide) ?_
      refine sm_aload_n F dX11_count_79 rfl 0 rfl ?_
      refine sm_get (v := .ref (a 1)) F inX11 0 rfl rfl 0 (by decide) qw5_15 rfl rfl dX11_count_80 ?_
      obtain ⟨z83, hz83, hf⟩ := bd_some hf
      refine sm_callS (rest := []) F (ct_X11_hereIn l D cI cZ cO (fun i => a (pm_D_i1 i)) hz83) (cut_D_i1_ro cI cZ cO a u) rfl rfl rfl qw5_174 qw5_175 qw1_12 qw5_176 hsX11_hereIn ⟨Nat.le_of_ble_eq_true rfl, Nat.le_of_ble_eq_true rfl⟩ ⟨Nat.zero_le _, Nat.zero_le _⟩ rfl (Nat.le_of_ble_eq_true rfl) E0_b (fun _ _ _ _ _ _ => trivial) rfl dX11_count_83 [.int z83] rfl ?_
      exact sm_iret F dX11_count_86 (Option.some.inj hf) rfl
    replace hf := if_f w24_2 hf
    by_cases w24_3 : x1 = 3
    · replace hf := if_t w24_3 hf
      refine sm_tableIn (off := 63) (tgt := 87) F dX11_count_24 (by rw [w24_3]; decide) (by rw [w24_3]; decide) (by rw [w24_3]; rfl) (by decide) ?_
      refine sm_aload_n F dX11_count_87 rfl 0 rfl ?_
      refine sm_get (v := .ref (a 1)) F inX11 0 rfl rfl 0 (by decide) qw5_15 rfl rfl dX11_count_88 ?_
      refine sm_iconst F dX11_count_91 kc_i_2 ?_
      obtain ⟨h92, hf⟩ := ck_some hf
      refine sm_iald F 1 0 rfl rfl h92 dX11_count_92 ?_
      exact sm_iret F dX11_count_93 (Option.some.inj hf) rfl
    replace hf := if_f w24_3 hf
    by_cases w24_4 : x1 = 4
    · replace hf := if_t w24_4 hf
      refine sm_tableIn (off := 70) (tgt := 94) F dX11_count_24 (by rw [w24_4]; decide) (by rw [w24_4]; decide) (by rw [w24_4]; rfl) (by decide) ?_
      refine sm_aload_n F dX11_count_94 rfl 0 rfl ?_
      refine sm_get (v := .ref (a 1)) F inX11 0 rfl rfl 0 (by decide) qw5_15 rfl rfl dX11_count_95 ?_
      obtain ⟨z98, hz98, hf⟩ := bd_some hf
      refine sm_callS (rest := []) F (ct_X11_knownAll l D cI cZ cO (fun i => a (pm_D_i1 i)) hz98) (cut_D_i1_ro cI cZ cO a u) rfl rfl rfl qw6_89 qw6_90 qw1_12 qw6_91 hsX11_knownAll ⟨Nat.le_of_ble_eq_true rfl, Nat.le_of_ble_eq_true rfl⟩ ⟨Nat.zero_le _, Nat.zero_le _⟩ rfl (Nat.le_of_ble_eq_true rfl) E0_b (fun _ _ _ _ _ _ => trivial) rfl dX11_count_98 [.int z98] rfl ?_
      exact sm_iret F dX11_count_101 (Option.some.inj hf) rfl
    replace hf := if_f w24_4 hf
    by_cases w24_5 : x1 = 5
    · replace hf := if_t w24_5 hf
      refine sm_tableIn (off := 78) (tgt := 102) F dX11_count_24 (by rw [w24_5]; decide) (by rw [w24_5]; decide) (by rw [w24_5]; rfl) (by decide) ?_
      refine sm_iconst F dX11_count_102 kc_i_0 ?_
      refine sm_istore_n F [(0, .ref (a 0)), (2, .int (0 : Int32)), (3, .int (0 : Int32))] [1, 3, 0] dX11_count_103 rfl (by decide) rfl ?_
      exact s_X11_count_104 F u smN (0 : Int32) (0 : Int32) hf
    replace hf := if_f w24_5 hf
    by_cases w24_6 : x1 = 6
    · replace hf := if_t w24_6 hf
      refine sm_tableIn (off := 111) (tgt := 135) F dX11_count_24 (by rw [w24_6]; decide) (by rw [w24_6]; decide) (by rw [w24_6]; rfl) (by decide) ?_
      refine sm_aload_n F dX11_count_135 rfl 0 rfl ?_
      refine sm_get (v := .int (gD_rowN u)) F inX11 0 rfl rfl 9 (by decide) qw5_24 rfl rfl dX11_count_136 ?_
      exact sm_iret F dX11_count_139 (Option.some.inj hf) rfl
    replace hf := if_f w24_6 hf
    by_cases w24_7 : x1 = 7
    · replace hf := if_t w24_7 hf
      refine sm_tableIn (off := 116) (tgt := 140) F dX11_count_24 (by rw [w24_7]; decide) (by rw [w24_7]; decide) (by rw [w24_7]; rfl) (by decide) ?_
      refine sm_aload_n F dX11_count_140 rfl 0 rfl ?_
      refine sm_get (v := .int (gD_letN u)) F inX11 0 rfl rfl 8 (by decide) qw5_23 rfl rfl dX11_count_141 ?_
      exact sm_iret F dX11_count_144 (Option.some.inj hf) rfl
    replace hf := if_f w24_7 hf
    have e24_0 := lv_neT w24_0 (a := 0) rfl
    have e24_1 := lv_neT w24_1 (a := 1) rfl
    have e24_2 := lv_neT w24_2 (a := 2) rfl
    have e24_3 := lv_neT w24_3 (a := 3) rfl
    have e24_4 := lv_neT w24_4 (a := 4) rfl
    have e24_5 := lv_neT w24_5 (a := 5) rfl
    have e24_6 := lv_neT w24_6 (a := 6) rfl
    have e24_7 := lv_neT w24_7 (a := 7) rfl
    have T24 : ∀ i : Nat, i < 8 → (#[48, 48, 55, 63, 70, 78, 111, 116] : Array Int)[i]? = some 121 ∨ i ∈ ([0, 1, 2, 3, 4, 5, 6, 7] : List Nat) := by decide
    refine sm_tableX (tgt := 145) F dX11_count_24 (by decide) (fun i hi hx => (T24 i hi).elim id (fun q => by simp only [List.mem_cons, List.not_mem_nil, or_false] at q; exfalso; omega)) (by decide) ?_
    refine sm_bipush F dX11_count_145 kc_b_m9 ?_
    exact sm_iret F dX11_count_147 (Option.some.inj hf) rfl
  · replace hf := if_f c8 hf
    refine sm_aload_n F dX11_count_11 rfl 0 rfl ?_
    refine sm_get (v := .ref (a 7)) F inX11 0 rfl rfl 7 (by decide) qw5_22 rfl rfl dX11_count_12 ?_
    refine sm_iload_n F dX11_count_15 rfl 1 rfl ?_
    refine sm_bipush F dX11_count_16 kc_b_10 ?_
    refine sm_isub F dX11_count_18 ?_
    obtain ⟨h19, hf⟩ := ck_some hf
    refine sm_iald F 7 0 rfl rfl h19 dX11_count_19 ?_
    exact sm_iret F dX11_count_20 (Option.some.inj hf) rfl
