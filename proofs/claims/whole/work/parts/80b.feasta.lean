set_option maxRecDepth 100000 in
theorem qw0_25 : Cond.selects RX3 yX3_isHereBehind yX3_isHereBehind ∈ LW := lwm (tb0 (List.mem_of_getElem? (i := 25) (by decide +kernel))) rfl
set_option maxRecDepth 100000 in
theorem qw4_135 : Cond.methodLink RX10 253 yX3_waysHere ∈ LW := lwm (tb4 (List.mem_of_getElem? (i := 135) (by decide +kernel))) rfl
set_option maxRecDepth 100000 in
theorem qw4_136 : Cond.instanceMethod yX3_waysHere ∈ LW := lwm (tb4 (List.mem_of_getElem? (i := 136) (by decide +kernel))) rfl
set_option maxRecDepth 100000 in
theorem qw4_137 : Cond.selects RX3 yX3_waysHere yX3_waysHere ∈ LW := lwm (tb4 (List.mem_of_getElem? (i := 137) (by decide +kernel))) rfl
set_option maxRecDepth 100000 in
theorem qw4_138 : Cond.code yX3_waysHere cX3_waysHere 7 (some .long) ∈ LW := lwm (tb4 (List.mem_of_getElem? (i := 138) (by decide +kernel))) rfl
set_option maxRecDepth 100000 in
theorem qw4_139 : Cond.methodLink RX3 150 yX3_isHereBehind ∈ LW := lwm (tb4 (List.mem_of_getElem? (i := 139) (by decide +kernel))) rfl
set_option maxRecDepth 100000 in
theorem qw4_141 : Cond.instanceMethod yX3_isHereBehind ∈ LW := lwm (tb4 (List.mem_of_getElem? (i := 141) (by decide +kernel))) rfl
set_option maxRecDepth 100000 in
theorem qw4_142 : Cond.code yX3_isHereBehind cX3_isHereBehind 5 (some .boolean) ∈ LW := lwm (tb4 (List.mem_of_getElem? (i := 142) (by decide +kernel))) rfl
set_option maxRecDepth 100000 in
theorem qw4_148 : Cond.static yX10_raised ∈ LW := lwm (tb4 (List.mem_of_getElem? (i := 148) (by decide +kernel))) rfl
set_option maxRecDepth 100000 in
theorem qw4_149 : Cond.code yX10_raised cX10_raised 5 (some .long) ∈ LW := lwm (tb4 (List.mem_of_getElem? (i := 149) (by decide +kernel))) rfl
set_option maxRecDepth 100000 in
theorem qw4_150 : Cond.methodLink RX10 257 yX10_raised ∈ LW := lwm (tb4 (List.mem_of_getElem? (i := 150) (by decide +kernel))) rfl
/-! SoManyForgotten$Mind.waysHere(III)J -/
abbrev rmX3_waysHere : Room := { frames := 5, cells := 0, slots := 0, locals := 118 }
set_option maxRecDepth 100000 in
theorem hvX3_waysHere : yX3_waysHere.cls = RX3 ∧ yX3_waysHere.cls ≠ "java/lang/invoke/MethodHandle" ∧ yX3_waysHere.cls ≠ "java/lang/invoke/VarHandle" ∧ (parseMethodDescriptor yX3_waysHere.desc).map (fun d => d.parameters.length) = some 3 := by decide +kernel
set_option maxRecDepth 100000 in
set_option maxHeartbeats 4000000 in
theorem s_X3_waysHere_6_b {p : Program} {l : Launch} {e : Env} {s : State} {m : MethodId} {args : Array Value} {below : List Frame} {meth : Method} {c : Code} {A : Nat → Prop} {D : va_G} {cI cZ cO : ClassId} {a : Nat → Nat} {r : Int64} {o : MS} (F : smF p s m args meth c cX3_waysHere 7 (some .long) RX3 D (tyL cI cZ cO) A) (hE : EN s) (x1 : Int32) (x2 : Int32) (x3 : Int32) (k6 : MS → Int64 → Int32 → Option (Int64 × (MS))) (hk6 : ∀ (u' : MS) (x4' : Int64) (x6' : Int32), k6 u' x4' x6' = some (r, o) → Sm p l e rmX3_waysHere s m args below meth c D A 7 0 0 (smQ below args s D A (some (.long r)) (wM cI cZ cO a o)) 6 [(0, .ref (a 0)), (1, .int x1), (2, .int x2), (3, .int x3), (4, .long x4'), (6, .int x6')] [] (wM cI cZ cO a u')) (u : MS) (x4 : Int64) (x6 : Int32) (hf : b_X3_waysHere_6 x1 x2 x3  k6 u x4 x6 = some (r, o)) : Sm p l e rmX3_waysHere s m args below meth c D A 7 0 0 (smQ below args s D A (some (.long r)) (wM cI cZ cO a o)) 6 [(0, .ref (a 0)), (1, .int x1), (2, .int x2), (3, .int x3), (4, .long x4), (6, .int x6)] [] (wM cI cZ cO a u) := by
  unfold b_X3_waysHere_6 at hf
  refine sm_iload F dX3_waysHere_6 5 rfl ?_
  refine sm_iconst F dX3_waysHere_8 kc_i_1 ?_
  refine sm_iload_n F dX3_waysHere_9 rfl 2 rfl ?_
  refine sm_ishl F dX3_waysHere_10 ?_
  refine sm_icmp_ge (tgt := 49) F dX3_waysHere_11 (by decide) (fun c11 => ?_) (fun c11 => ?_)
  · replace hf := if_t c11 hf
    refine sm_lload F dX3_waysHere_49 4 rfl ?_
    exact sm_lret F dX3_waysHere_51 (Prod.mk.inj (Option.some.inj hf)).1 (congrArg (fun z => (wM cI cZ cO a z)) (Prod.mk.inj (Option.some.inj hf)).2)
  · replace hf := if_f c11 hf
    refine sm_aload_n F dX3_waysHere_14 rfl 0 rfl ?_
    refine sm_iload_n F dX3_waysHere_15 rfl 1 rfl ?_
    refine sm_iload_n F dX3_waysHere_16 rfl 2 rfl ?_
    refine sm_iload F dX3_waysHere_17 5 rfl ?_
    obtain ⟨z19, hz19, hf⟩ := bd_some hf
    refine sm_callV (rest := []) F (ct_X3_isHereBehind l D cI cZ cO a hz19) (cut_M_id cI cZ cO a u z19.2) rfl rfl rfl qw4_139 qw4_141 qw0_25 qw1_9 qw4_142 hvX3_isHereBehind ⟨Nat.le_of_ble_eq_true rfl, Nat.le_of_ble_eq_true rfl⟩ ⟨Nat.zero_le _, Nat.zero_le _⟩ 0 3 rfl rfl rfl rfl (Nat.le_of_ble_eq_true rfl) E0_b (fun _ _ _ _ _ _ => trivial) rfl dX3_waysHere_19 [.int z19.1] rfl ?_
    refine sm_if_eq (tgt := 43) F dX3_waysHere_22 (by decide) (fun c22 => ?_) (fun c22 => ?_)
    · replace hf := if_t c22 hf
      refine sm_iinc F [(0, .ref (a 0)), (1, .int x1), (2, .int x2), (3, .int x3), (4, .long x4), (6, .int (x6 + 1))] 5 [1, 2, 3, 4, 5, 0] dX3_waysHere_43 rfl kc_i_1 (by decide) rfl ?_
      refine sm_goto (tgt := 6) F dX3_waysHere_46 (by decide) ?_
      exact hk6 z19.2 x4 (x6 + 1) hf
    · replace hf := if_f c22 hf
      refine sm_lload F dX3_waysHere_25 4 rfl ?_
      refine sm_iload_n F dX3_waysHere_27 rfl 3 rfl ?_
      refine sm_iconst F dX3_waysHere_28 kc_i_1 ?_
      refine sm_isub F dX3_waysHere_29 ?_
      refine sm_iload_n F dX3_waysHere_30 rfl 2 rfl ?_
      refine sm_iload F dX3_waysHere_31 5 rfl ?_
      obtain ⟨z33, hz33, hf⟩ := bd_some hf
      refine sm_callS (rest := [.int x2, .int (x3 - (1 : Int32)), .long x4]) F (ct_J6_bitCount_0f7a4 l D (tyL cI cZ cO) hz33) (cut_M_none cI cZ cO a z19.2) rfl rfl rfl qw4_49 qw3_119 qw1_20 qw3_120 hsJ6_bitCount_0f7a4 ⟨Nat.le_of_ble_eq_true rfl, Nat.le_of_ble_eq_true rfl⟩ ⟨Nat.zero_le _, Nat.zero_le _⟩ rfl (Nat.le_of_ble_eq_true rfl) E0_b (fun _ _ _ _ _ _ => trivial) rfl dX3_waysHere_33 [.int z33, .int x2, .int (x3 - (1 : Int32)), .long x4] rfl ?_
      refine sm_isub F dX3_waysHere_36 ?_
      obtain ⟨z37, hz37, hf⟩ := bd_some hf
      refine sm_callSN (rest := [.long x4]) F (ct_X10_raised l D (tyL cI cZ cO) hz37) (cut_M_none cI cZ cO a z19.2) rfl rfl rfl hE qw4_148 qw1_1 qw4_149 hsX10_raised ⟨Nat.le_of_ble_eq_true rfl, Nat.le_of_ble_eq_true rfl⟩ ⟨Nat.zero_le _, Nat.zero_le _⟩ rfl (Nat.le_of_ble_eq_true rfl) E0_b (fun _ _ _ _ _ _ => trivial) rfl dX3_waysHere_37 [.long z37, .long x4] rfl ?_
      refine sm_ladd F dX3_waysHere_40 ?_
      refine sm_lstore F [(0, .ref (a 0)), (1, .int x1), (2, .int x2), (3, .int x3), (4, .long (x4 + z37)), (6, .int x6)] [1, 2, 3, 4, 0, 5] dX3_waysHere_41 (by decide) rfl ?_
      refine sm_iinc F [(0, .ref (a 0)), (1, .int x1), (2, .int x2), (3, .int x3), (4, .long (x4 + z37)), (6, .int (x6 + 1))] 5 [1, 2, 3, 4, 5, 0] dX3_waysHere_43 rfl kc_i_1 (by decide) rfl ?_
      refine sm_goto (tgt := 6) F dX3_waysHere_46 (by decide) ?_
      exact hk6 z19.2 (x4 + z37) (x6 + 1) hf
set_option maxRecDepth 100000 in
set_option maxHeartbeats 4000000 in
theorem s_X3_waysHere_6 {p : Program} {l : Launch} {e : Env} {s : State} {m : MethodId} {args : Array Value} {below : List Frame} {meth : Method} {c : Code} {A : Nat → Prop} {D : va_G} {cI cZ cO : ClassId} {a : Nat → Nat} {r : Int64} {o : MS} (F : smF p s m args meth c cX3_waysHere 7 (some .long) RX3 D (tyL cI cZ cO) A) (hE : EN s) (x1 : Int32) (x2 : Int32) (x3 : Int32)  (n : Nat) (u : MS) (x4 : Int64) (x6 : Int32) (hf : f_X3_waysHere_6 x1 x2 x3  n u x4 x6 = some (r, o)) : Sm p l e rmX3_waysHere s m args below meth c D A 7 0 0 (smQ below args s D A (some (.long r)) (wM cI cZ cO a o)) 6 [(0, .ref (a 0)), (1, .int x1), (2, .int x2), (3, .int x3), (4, .long x4), (6, .int x6)] [] (wM cI cZ cO a u) :=
  lq3_ind (P := fun (u : MS) (x4 : Int64) (x6 : Int32) => Sm p l e rmX3_waysHere s m args below meth c D A 7 0 0 (smQ below args s D A (some (.long r)) (wM cI cZ cO a o)) 6 [(0, .ref (a 0)), (1, .int x1), (2, .int x2), (3, .int x3), (4, .long x4), (6, .int x6)] [] (wM cI cZ cO a u)) (fun k6 hk6 u x4 x6 h9 => s_X3_waysHere_6_b F hE x1 x2 x3  k6 hk6 u x4 x6 h9) n u x4 x6 hf
set_option maxRecDepth 100000 in
set_option maxHeartbeats 4000000 in
theorem ct_X3_waysHere (l : Launch) (D : va_G) (cI cZ cO : ClassId) (a : Nat → Nat) {u : MS} {x1 : Int32} {x2 : Int32} {x3 : Int32} {r : Int64} {o : MS} (hf : f_X3_waysHere u x1 x2 x3 = some (r, o)) : Ct l yX3_waysHere (uw (Cond.code yX3_waysHere cX3_waysHere 7 (some .long))) rmX3_waysHere D (tyL cI cZ cO) EN [.ref (a 0), .int x1, .int x2, .int x3] (wM cI cZ cO a u) (some (.long r)) (wM cI cZ cO a o) := by
  refine sm_start (cc := cX3_waysHere) (maxL := 7) (ret := (some .long)) (own := RX3) (by decide) rfl rfl (Nat.le_of_ble_eq_true rfl) (lv := [(0, .ref (a 0)), (1, .int x1), (2, .int x2), (3, .int x3)]) rfl ?_
  intro p e s m below meth c A F hE hA
  unfold f_X3_waysHere at hf
  refine sm_lconst F dX3_waysHere_0 kc_l_0 ?_
  refine sm_lstore F [(0, .ref (a 0)), (1, .int x1), (2, .int x2), (3, .int x3), (4, .long (0 : Int64))] [1, 2, 3, 4, 0] dX3_waysHere_1 (by decide) rfl ?_
  refine sm_iconst F dX3_waysHere_3 kc_i_0 ?_
  refine sm_istore F [(0, .ref (a 0)), (1, .int x1), (2, .int x2), (3, .int x3), (4, .long (0 : Int64)), (6, .int (0 : Int32))] [1, 2, 3, 4, 5, 0] dX3_waysHere_4 (by decide) rfl ?_
  exact s_X3_waysHere_6 F hE x1 x2 x3 smN u (0 : Int64) (0 : Int32) hf
/-! SoManyForgotten.feast(IIII)J -/
abbrev rmX10_feast : Room := { frames := 6, cells := 0, slots := 0, locals := 144 }
set_option maxRecDepth 100000 in
theorem hvX10_feast : yX10_feast.cls = RX10 ∧ yX10_feast.cls ≠ "java/lang/invoke/MethodHandle" ∧ yX10_feast.cls ≠ "java/lang/invoke/VarHandle" ∧ (parseMethodDescriptor yX10_feast.desc).map (fun d => d.parameters.length) = some 4 := by decide +kernel
set_option maxRecDepth 100000 in
set_option maxHeartbeats 4000000 in
theorem s_X10_feast_35 {p : Program} {l : Launch} {e : Env} {s : State} {m : MethodId} {args : Array Value} {below : List Frame} {meth : Method} {c : Code} {A : Nat → Prop} {D : va_G} {cI cZ cO : ClassId} {a : Nat → Nat} {r : Int64} {o : XS} (F : smF p s m args meth c cX10_feast 8 (some .long) RX10 D (tyL cI cZ cO) A) (hE : EN s) (x1 : Int32) (x2 : Int32) (x3 : Int32) (x4 : Int32)  (u : XS) (x5 : Int32) (y0 : Int32) (hf : f_X10_feast_35 x1 x2 x3 x4   u x5 y0 = some (r, o)) : Sm p l e rmX10_feast s m args below meth c D A 8 0 0 (smQ below args s D A (some (.long r)) (wX cI cZ cO a o)) 35 [(0, .ref (a 0)), (1, .int x1), (2, .int x2), (3, .int x3), (4, .int x4), (5, .int x5)] [.int y0] (wX cI cZ cO a u) := by
  unfold f_X10_feast_35 at hf
  refine sm_istore F [(0, .ref (a 0)), (1, .int x1), (2, .int x2), (3, .int x3), (4, .int x4), (5, .int x5), (6, .int y0)] [1, 2, 3, 4, 5, 6, 0] dX10_feast_35 (by decide) rfl ?_
  refine sm_aload_n F dX10_feast_37 rfl 0 rfl ?_
  refine sm_aload_n F dX10_feast_38 rfl 0 rfl ?_
  refine sm_iload_n F dX10_feast_39 rfl 1 rfl ?_
  obtain ⟨z40, hz40, hf⟩ := bd_some hf
  refine sm_callV (rest := [.ref (a 0)]) F (ct_X10_nobody l D cI cZ cO a hz40) (cut_X_id cI cZ cO a u u) rfl rfl rfl qw3_52 qw3_54 qw0_13 qw1_1 qw3_55 hvX10_nobody ⟨Nat.le_of_ble_eq_true rfl, Nat.le_of_ble_eq_true rfl⟩ ⟨Nat.zero_le _, Nat.zero_le _⟩ 0 10 rfl rfl rfl rfl (Nat.le_of_ble_eq_true rfl) E0_b (fun _ _ _ _ _ _ => trivial) rfl dX10_feast_40 [.int z40, .ref (a 0)] rfl ?_
  refine sm_iload F dX10_feast_43 5 rfl ?_
  refine sm_iload F dX10_feast_45 6 rfl ?_
  refine sm_iload F dX10_feast_47 4 rfl ?_
  refine sm_iconst F dX10_feast_49 kc_i_1 ?_
  obtain ⟨z50, hz50, hf⟩ := bd_some hf
  refine sm_callS (rest := [.int y0, .int x5, .int z40, .ref (a 0)]) F (ct_X10_wrongWhat l D (tyL cI cZ cO) hz50) (cut_X_none cI cZ cO a u) rfl rfl rfl qw3_57 qw3_58 qw1_1 qw3_59 hsX10_wrongWhat ⟨Nat.le_of_ble_eq_true rfl, Nat.le_of_ble_eq_true rfl⟩ ⟨Nat.zero_le _, Nat.zero_le _⟩ rfl (Nat.le_of_ble_eq_true rfl) E0_b (fun _ _ _ _ _ _ => trivial) rfl dX10_feast_50 [.int z50, .int y0, .int x5, .int z40, .ref (a 0)] rfl ?_
  obtain ⟨z53, hz53, hf⟩ := bd_some hf
  refine sm_callV (rest := []) F (ct_X10_refused___ l D cI cZ cO a hz53) (cut_X_id cI cZ cO a u z53.2) rfl rfl rfl qw4_112 qw4_114 qw0_23 qw1_1 qw4_115 hvX10_refused___ ⟨Nat.le_of_ble_eq_true rfl, Nat.le_of_ble_eq_true rfl⟩ ⟨Nat.zero_le _, Nat.zero_le _⟩ 0 10 rfl rfl rfl rfl (Nat.le_of_ble_eq_true rfl) E0_b (fun _ _ _ _ _ _ => trivial) rfl dX10_feast_53 [.int z53.1] rfl ?_
  refine sm_istore F [(0, .ref (a 0)), (1, .int x1), (2, .int x2), (3, .int x3), (4, .int x4), (7, .int z53.1)] [1, 2, 3, 4, 5, 0] dX10_feast_56 (by decide) rfl ?_
  refine sm_iload F dX10_feast_58 5 rfl ?_
  refine sm_if_eq (tgt := 71) F dX10_feast_60 (by decide) (fun c60 => ?_) (fun c60 => ?_)
  · replace hf := if_t c60 hf
    refine sm_aload_n F dX10_feast_71 rfl 0 rfl ?_
    refine sm_get (v := .ref (a 16)) F inX10 0 rfl rfl 3 (by decide) qw1_188 rfl rfl dX10_feast_72 ?_
    refine sm_iload_n F dX10_feast_75 rfl 1 rfl ?_
    refine sm_iload_n F dX10_feast_76 rfl 2 rfl ?_
    refine sm_iload_n F dX10_feast_77 rfl 3 rfl ?_
    obtain ⟨z78, hz78, hf⟩ := bd_some hf
    refine sm_callV (rest := []) F (ct_X3_waysHere l D cI cZ cO (fun i => a (pm_X_m i)) hz78) (cut_X_m cI cZ cO a z53.2 z78.2) rfl rfl rfl qw4_135 qw4_136 qw4_137 qw1_9 qw4_138 hvX3_waysHere ⟨Nat.le_of_ble_eq_true rfl, Nat.le_of_ble_eq_true rfl⟩ ⟨Nat.zero_le _, Nat.zero_le _⟩ 0 3 rfl rfl rfl rfl (Nat.le_of_ble_eq_true rfl) EN_b (EN_w hE) rfl dX10_feast_78 [.long z78.1] rfl ?_
    refine sm_iload_n F dX10_feast_81 rfl 3 rfl ?_
    refine sm_iload_n F dX10_feast_82 rfl 2 rfl ?_
    obtain ⟨z83, hz83, hf⟩ := bd_some hf
    refine sm_callS (rest := [.long z78.1]) F (ct_X10_raised l D (tyL cI cZ cO) hz83) (cut_X_none cI cZ cO a (sX_mind z53.2 z78.2)) rfl rfl rfl qw4_150 qw4_148 qw1_1 qw4_149 hsX10_raised ⟨Nat.le_of_ble_eq_true rfl, Nat.le_of_ble_eq_true rfl⟩ ⟨Nat.zero_le _, Nat.zero_le _⟩ rfl (Nat.le_of_ble_eq_true rfl) E0_b (fun _ _ _ _ _ _ => trivial) rfl dX10_feast_83 [.long z83, .long z78.1] rfl ?_
    refine sm_iload F dX10_feast_86 4 rfl ?_
    obtain ⟨z88, hz88, hf⟩ := bd_some hf
    refine sm_callS (rest := []) F (ct_X10_partOf l D (tyL cI cZ cO) hz88) (cut_X_none cI cZ cO a (sX_mind z53.2 z78.2)) rfl rfl rfl qw4_151 qw4_152 qw1_1 qw4_153 hsX10_partOf ⟨Nat.le_of_ble_eq_true rfl, Nat.le_of_ble_eq_true rfl⟩ ⟨Nat.zero_le _, Nat.zero_le _⟩ rfl (Nat.le_of_ble_eq_true rfl) E0_b (fun _ _ _ _ _ _ => trivial) rfl dX10_feast_88 [.long z88] rfl ?_
    exact sm_lret F dX10_feast_91 (Prod.mk.inj (Option.some.inj hf)).1 (congrArg (fun z => (wX cI cZ cO a z)) (Prod.mk.inj (Option.some.inj hf)).2)
  · replace hf := if_f c60 hf
    refine sm_ldc2 (v := 4000000000000000000) F qw4_134 dX10_feast_63 ?_
    refine sm_iload F dX10_feast_66 5 rfl ?_
    refine sm_i2l F dX10_feast_68 ?_
    refine sm_lsub F dX10_feast_69 ?_
    exact sm_lret F dX10_feast_70 (Prod.mk.inj (Option.some.inj hf)).1 (congrArg (fun z => (wX cI cZ cO a z)) (Prod.mk.inj (Option.some.inj hf)).2)
set_option maxRecDepth 100000 in
set_option maxHeartbeats 4000000 in
theorem s_X10_feast_15 {p : Program} {l : Launch} {e : Env} {s : State} {m : MethodId} {args : Array Value} {below : List Frame} {meth : Method} {c : Code} {A : Nat → Prop} {D : va_G} {cI cZ cO : ClassId} {a : Nat → Nat} {r : Int64} {o : XS} (F : smF p s m args meth c cX10_feast 8 (some .long) RX10 D (tyL cI cZ cO) A) (hE : EN s) (x1 : Int32) (x2 : Int32) (x3 : Int32) (x4 : Int32)  (u : XS) (y0 : Int32) (hf : f_X10_feast_15 x1 x2 x3 x4   u y0 = some (r, o)) : Sm p l e rmX10_feast s m args below meth c D A 8 0 0 (smQ below args s D A (some (.long r)) (wX cI cZ cO a o)) 15 [(0, .ref (a 0)), (1, .int x1), (2, .int x2), (3, .int x3), (4, .int x4)] [.int y0] (wX cI cZ cO a u) := by
  unfold f_X10_feast_15 at hf
  refine sm_istore F [(0, .ref (a 0)), (1, .int x1), (2, .int x2), (3, .int x3), (4, .int x4), (5, .int y0)] [1, 2, 3, 4, 5, 0] dX10_feast_15 (by decide) rfl ?_
  refine sm_iload_n F dX10_feast_17 rfl 2 rfl ?_
  refine sm_bipush F dX10_feast_18 kc_b_7 ?_
  refine sm_icmp_gt (tgt := 29) F dX10_feast_20 (by decide) (fun c20 => ?_) (fun c20 => ?_)
  · replace hf := if_t c20 hf
    refine sm_bipush F dX10_feast_29 kc_b_m6 ?_
    refine sm_goto (tgt := 35) F dX10_feast_31 (by decide) ?_
    exact s_X10_feast_35 F hE x1 x2 x3 x4 u y0 ((-6) : Int32) hf
  · replace hf := if_f c20 hf
    refine sm_iload_n F dX10_feast_23 rfl 3 rfl ?_
    refine sm_bipush F dX10_feast_24 kc_b_20 ?_
    refine sm_icmp_le (tgt := 34) F dX10_feast_26 (by decide) (fun c26 => ?_) (fun c26 => ?_)
    · replace hf := if_t c26 hf
      refine sm_iconst F dX10_feast_34 kc_i_0 ?_
      exact s_X10_feast_35 F hE x1 x2 x3 x4 u y0 (0 : Int32) hf
    · replace hf := if_f c26 hf
      refine sm_bipush F dX10_feast_29 kc_b_m6 ?_
      refine sm_goto (tgt := 35) F dX10_feast_31 (by decide) ?_
      exact s_X10_feast_35 F hE x1 x2 x3 x4 u y0 ((-6) : Int32) hf
set_option maxRecDepth 100000 in
set_option maxHeartbeats 4000000 in
theorem ct_X10_feast (l : Launch) (D : va_G) (cI cZ cO : ClassId) (a : Nat → Nat) {u : XS} {x1 : Int32} {x2 : Int32} {x3 : Int32} {x4 : Int32} {r : Int64} {o : XS} (hf : f_X10_feast u x1 x2 x3 x4 = some (r, o)) : Ct l yX10_feast (uw (Cond.code yX10_feast cX10_feast 8 (some .long))) rmX10_feast D (tyL cI cZ cO) EN [.ref (a 0), .int x1, .int x2, .int x3, .int x4] (wX cI cZ cO a u) (some (.long r)) (wX cI cZ cO a o) := by
  refine sm_start (cc := cX10_feast) (maxL := 8) (ret := (some .long)) (own := RX10) (by decide) rfl rfl (Nat.le_of_ble_eq_true rfl) (lv := [(0, .ref (a 0)), (1, .int x1), (2, .int x2), (3, .int x3), (4, .int x4)]) rfl ?_
  intro p e s m below meth c A F hE hA
  unfold f_X10_feast at hf
  refine sm_iload_n F dX10_feast_0 rfl 2 rfl ?_
  refine sm_if_lt (tgt := 9) F dX10_feast_1 (by decide) (fun c1 => ?_) (fun c1 => ?_)
  · replace hf := if_t c1 hf
    refine sm_bipush F dX10_feast_9 kc_b_m4 ?_
    refine sm_goto (tgt := 15) F dX10_feast_11 (by decide) ?_
    exact s_X10_feast_15 F hE x1 x2 x3 x4 u ((-4) : Int32) hf
  · replace hf := if_f c1 hf
    refine sm_iload_n F dX10_feast_4 rfl 3 rfl ?_
    refine sm_iconst F dX10_feast_5 kc_i_2 ?_
    refine sm_icmp_ge (tgt := 14) F dX10_feast_6 (by decide) (fun c6 => ?_) (fun c6 => ?_)
    · replace hf := if_t c6 hf
      refine sm_iconst F dX10_feast_14 kc_i_0 ?_
      exact s_X10_feast_15 F hE x1 x2 x3 x4 u (0 : Int32) hf
    · replace hf := if_f c6 hf
      refine sm_bipush F dX10_feast_9 kc_b_m4 ?_
      refine sm_goto (tgt := 15) F dX10_feast_11 (by decide) ?_
      exact s_X10_feast_15 F hE x1 x2 x3 x4 u ((-4) : Int32) hf
