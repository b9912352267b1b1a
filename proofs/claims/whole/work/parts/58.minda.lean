/-! SoManyForgotten$Mind.startAgain()V -/
abbrev rmX3_startAgain : Room := { frames := 2, cells := 0, slots := 0, locals := 62 }
set_option maxRecDepth 100000 in
theorem hvX3_startAgain : yX3_startAgain.cls = RX3 ∧ yX3_startAgain.cls ≠ "java/lang/invoke/MethodHandle" ∧ yX3_startAgain.cls ≠ "java/lang/invoke/VarHandle" ∧ (parseMethodDescriptor yX3_startAgain.desc).map (fun d => d.parameters.length) = some 0 := by decide +kernel
set_option maxRecDepth 100000 in
set_option maxHeartbeats 4000000 in
theorem ct_X3_startAgain (l : Launch) (D : va_G) (cI cZ cO : ClassId) (a : Nat → Nat) {u : MS} {o : MS} (hf : f_X3_startAgain u = some o) : Ct l yX3_startAgain (uw (Cond.code yX3_startAgain cX3_startAgain 1 none)) rmX3_startAgain D (tyL cI cZ cO) E0 [.ref (a 0)] (wM cI cZ cO a u) none (wM cI cZ cO a o) := by
  refine sm_start (cc := cX3_startAgain) (maxL := 1) (ret := none) (own := RX3) (by decide) rfl rfl (Nat.le_of_ble_eq_true rfl) (lv := [(0, .ref (a 0))]) rfl ?_
  intro p e s m below meth c A F hE hA
  unfold f_X3_startAgain at hf
  refine sm_aload_n F dX3_startAgain_0 rfl 0 rfl ?_
  refine sm_get (v := .ref (a 12)) F inX3 0 rfl rfl 1 (by decide) qw1_134 rfl rfl dX3_startAgain_1 ?_
  refine sm_aload_n F dX3_startAgain_4 rfl 0 rfl ?_
  refine sm_get (v := .ref (a 6)) F inX3 0 rfl rfl 0 (by decide) qw1_133 rfl rfl dX3_startAgain_5 ?_
  obtain ⟨z8, hz8, hf⟩ := bd_some hf
  refine sm_callV (rest := []) F (ct_X8_copy l D cI cZ cO (fun i => a (pm_M_vv12_6 i)) hz8) (cut_M_vv12_6 cI cZ cO a u z8) rfl rfl rfl qw3_154 qw2_1 qw2_2 qw1_8 qw2_3 hvX8_copy ⟨Nat.le_of_ble_eq_true rfl, Nat.le_of_ble_eq_true rfl⟩ ⟨Nat.zero_le _, Nat.zero_le _⟩ 0 8 rfl rfl rfl rfl (Nat.le_of_ble_eq_true rfl) E0_b (fun _ _ _ _ _ _ => trivial) rfl dX3_startAgain_8 [] rfl ?_
  exact sm_vret F dX3_startAgain_11 (congrArg (fun z => (wM cI cZ cO a z)) (Option.some.inj hf))
/-! SoManyForgotten$Mind.after(I)LSoManyForgotten$Valley; -/
abbrev rmX3_after : Room := { frames := 5, cells := 0, slots := 0, locals := 116 }
set_option maxRecDepth 100000 in
theorem hvX3_after : yX3_after.cls = RX3 ∧ yX3_after.cls ≠ "java/lang/invoke/MethodHandle" ∧ yX3_after.cls ≠ "java/lang/invoke/VarHandle" ∧ (parseMethodDescriptor yX3_after.desc).map (fun d => d.parameters.length) = some 1 := by decide +kernel
set_option maxRecDepth 100000 in
set_option maxHeartbeats 4000000 in
theorem ct_X3_after (l : Launch) (D : va_G) (cI cZ cO : ClassId) (a : Nat → Nat) {u : MS} {x1 : Int32} {o : MS} (hf : f_X3_after u x1 = some o) : Ct l yX3_after (uw (Cond.code yX3_after cX3_after 2 (some (.object "SoManyForgotten$Valley")))) rmX3_after D (tyL cI cZ cO) E0 [.ref (a 0), .int x1] (wM cI cZ cO a u) (some (.ref (a 12))) (wM cI cZ cO a o) := by
  refine sm_start (cc := cX3_after) (maxL := 2) (ret := (some (.object "SoManyForgotten$Valley"))) (own := RX3) (by decide) rfl rfl (Nat.le_of_ble_eq_true rfl) (lv := [(0, .ref (a 0)), (1, .int x1)]) rfl ?_
  intro p e s m below meth c A F hE hA
  unfold f_X3_after at hf
  refine sm_aload_n F dX3_after_0 rfl 0 rfl ?_
  obtain ⟨z1, hz1, hf⟩ := bd_some hf
  refine sm_callV (rest := []) F (ct_X3_startAgain l D cI cZ cO a hz1) (cut_M_id cI cZ cO a u z1) rfl rfl rfl qw3_150 qw3_152 qw0_18 qw1_9 qw3_153 hvX3_startAgain ⟨Nat.le_of_ble_eq_true rfl, Nat.le_of_ble_eq_true rfl⟩ ⟨Nat.zero_le _, Nat.zero_le _⟩ 0 3 rfl rfl rfl rfl (Nat.le_of_ble_eq_true rfl) E0_b (fun _ _ _ _ _ _ => trivial) rfl dX3_after_1 [] rfl ?_
  refine sm_aload_n F dX3_after_4 rfl 0 rfl ?_
  refine sm_get (v := .ref (a 12)) F inX3 0 rfl rfl 1 (by decide) qw1_134 rfl rfl dX3_after_5 ?_
  refine sm_iload_n F dX3_after_8 rfl 1 rfl ?_
  obtain ⟨z9, hz9, hf⟩ := bd_some hf
  refine sm_callV (rest := []) F (ct_X8_passWeeks l D cI cZ cO (fun i => a (pm_M_v12 i)) hz9) (cut_M_v12 cI cZ cO a z1 z9) rfl rfl rfl qw3_155 qw3_138 qw3_139 qw1_8 qw3_140 hvX8_passWeeks ⟨Nat.le_of_ble_eq_true rfl, Nat.le_of_ble_eq_true rfl⟩ ⟨Nat.zero_le _, Nat.zero_le _⟩ 0 8 rfl rfl rfl rfl (Nat.le_of_ble_eq_true rfl) E0_b (fun _ _ _ _ _ _ => trivial) rfl dX3_after_9 [] rfl ?_
  refine sm_aload_n F dX3_after_12 rfl 0 rfl ?_
  refine sm_get (v := .ref (a 12)) F inX3 0 rfl rfl 1 (by decide) qw1_134 rfl rfl dX3_after_13 ?_
  exact sm_aret F dX3_after_16 rfl (congrArg (fun z => (wM cI cZ cO a z)) (Option.some.inj hf))
/-! SoManyForgotten$Mind.untilForgotten(I)I -/
abbrev rmX3_untilForgotten : Room := { frames := 5, cells := 0, slots := 0, locals := 116 }
set_option maxRecDepth 100000 in
theorem hvX3_untilForgotten : yX3_untilForgotten.cls = RX3 ∧ yX3_untilForgotten.cls ≠ "java/lang/invoke/MethodHandle" ∧ yX3_untilForgotten.cls ≠ "java/lang/invoke/VarHandle" ∧ (parseMethodDescriptor yX3_untilForgotten.desc).map (fun d => d.parameters.length) = some 1 := by decide +kernel
set_option maxRecDepth 100000 in
set_option maxHeartbeats 4000000 in
theorem ct_X3_untilForgotten (l : Launch) (D : va_G) (cI cZ cO : ClassId) (a : Nat → Nat) {u : MS} {x1 : Int32} {r : Int32} {o : MS} (hf : f_X3_untilForgotten u x1 = some (r, o)) : Ct l yX3_untilForgotten (uw (Cond.code yX3_untilForgotten cX3_untilForgotten 2 (some .int))) rmX3_untilForgotten D (tyL cI cZ cO) E0 [.ref (a 0), .int x1] (wM cI cZ cO a u) (some (.int r)) (wM cI cZ cO a o) := by
  refine sm_start (cc := cX3_untilForgotten) (maxL := 2) (ret := (some .int)) (own := RX3) (by decide) rfl rfl (Nat.le_of_ble_eq_true rfl) (lv := [(0, .ref (a 0)), (1, .int x1)]) rfl ?_
  intro p e s m below meth c A F hE hA
  unfold f_X3_untilForgotten at hf
  refine sm_aload_n F dX3_untilForgotten_0 rfl 0 rfl ?_
  obtain ⟨z1, hz1, hf⟩ := bd_some hf
  refine sm_callV (rest := []) F (ct_X3_startAgain l D cI cZ cO a hz1) (cut_M_id cI cZ cO a u z1) rfl rfl rfl qw3_150 qw3_152 qw0_18 qw1_9 qw3_153 hvX3_startAgain ⟨Nat.le_of_ble_eq_true rfl, Nat.le_of_ble_eq_true rfl⟩ ⟨Nat.zero_le _, Nat.zero_le _⟩ 0 3 rfl rfl rfl rfl (Nat.le_of_ble_eq_true rfl) E0_b (fun _ _ _ _ _ _ => trivial) rfl dX3_untilForgotten_1 [] rfl ?_
  refine sm_aload_n F dX3_untilForgotten_4 rfl 0 rfl ?_
  refine sm_get (v := .ref (a 12)) F inX3 0 rfl rfl 1 (by decide) qw1_134 rfl rfl dX3_untilForgotten_5 ?_
  refine sm_iload_n F dX3_untilForgotten_8 rfl 1 rfl ?_
  obtain ⟨z9, hz9, hf⟩ := bd_some hf
  refine sm_callV (rest := []) F (ct_X8_passUntilForgotten l D cI cZ cO (fun i => a (pm_M_v12 i)) hz9) (cut_M_v12 cI cZ cO a z1 z9.2) rfl rfl rfl qw3_176 qw3_177 qw3_178 qw1_8 qw3_179 hvX8_passUntilForgotten ⟨Nat.le_of_ble_eq_true rfl, Nat.le_of_ble_eq_true rfl⟩ ⟨Nat.zero_le _, Nat.zero_le _⟩ 0 8 rfl rfl rfl rfl (Nat.le_of_ble_eq_true rfl) E0_b (fun _ _ _ _ _ _ => trivial) rfl dX3_untilForgotten_9 [.int z9.1] rfl ?_
  exact sm_iret F dX3_untilForgotten_12 (Prod.mk.inj (Option.some.inj hf)).1 (congrArg (fun z => (wM cI cZ cO a z)) (Prod.mk.inj (Option.some.inj hf)).2)
/-! SoManyForgotten$Mind.untilFirstForgotten()I -/
abbrev rmX3_untilFirstForgotten : Room := { frames := 4, cells := 0, slots := 0, locals := 94 }
set_option maxRecDepth 100000 in
theorem hvX3_untilFirstForgotten : yX3_untilFirstForgotten.cls = RX3 ∧ yX3_untilFirstForgotten.cls ≠ "java/lang/invoke/MethodHandle" ∧ yX3_untilFirstForgotten.cls ≠ "java/lang/invoke/VarHandle" ∧ (parseMethodDescriptor yX3_untilFirstForgotten.desc).map (fun d => d.parameters.length) = some 0 := by decide +kernel
set_option maxRecDepth 100000 in
set_option maxHeartbeats 4000000 in
theorem s_X3_untilFirstForgotten_14_b {p : Program} {l : Launch} {e : Env} {s : State} {m : MethodId} {args : Array Value} {below : List Frame} {meth : Method} {c : Code} {A : Nat → Prop} {D : va_G} {cI cZ cO : ClassId} {a : Nat → Nat} {r : Int32} {o : MS} (F : smF p s m args meth c cX3_untilFirstForgotten 3 (some .int) RX3 D (tyL cI cZ cO) A)  (k14 : MS → Int32 → Int32 → Option (Int32 × (MS))) (hk14 : ∀ (u' : MS) (x1' : Int32) (x2' : Int32), k14 u' x1' x2' = some (r, o) → Sm p l e rmX3_untilFirstForgotten s m args below meth c D A 3 0 0 (smQ below args s D A (some (.int r)) (wM cI cZ cO a o)) 14 [(0, .ref (a 0)), (1, .int x1'), (2, .int x2')] [] (wM cI cZ cO a u')) (u : MS) (x1 : Int32) (x2 : Int32) (hf : b_X3_untilFirstForgotten_14   k14 u x1 x2 = some (r, o)) : Sm p l e rmX3_untilFirstForgotten s m args below meth c D A 3 0 0 (smQ below args s D A (some (.int r)) (wM cI cZ cO a o)) 14 [(0, .ref (a 0)), (1, .int x1), (2, .int x2)] [] (wM cI cZ cO a u) := by
  unfold b_X3_untilFirstForgotten_14 at hf
  refine sm_iload_n F dX3_untilFirstForgotten_14 rfl 2 rfl ?_
  refine sm_bipush F dX3_untilFirstForgotten_15 kc_b_99 ?_
  refine sm_icmp_gt (tgt := 46) F dX3_untilFirstForgotten_17 (by decide) (fun c17 => ?_) (fun c17 => ?_)
  · replace hf := if_t c17 hf
    refine sm_bipush F dX3_untilFirstForgotten_46 kc_b_100 ?_
    exact sm_iret F dX3_untilFirstForgotten_48 (Prod.mk.inj (Option.some.inj hf)).1 (congrArg (fun z => (wM cI cZ cO a z)) (Prod.mk.inj (Option.some.inj hf)).2)
  · replace hf := if_f c17 hf
    refine sm_aload_n F dX3_untilFirstForgotten_20 rfl 0 rfl ?_
    refine sm_get (v := .ref (a 12)) F inX3 0 rfl rfl 1 (by decide) qw1_134 rfl rfl dX3_untilFirstForgotten_21 ?_
    obtain ⟨z24, hz24, hf⟩ := bd_some hf
    refine sm_callV (rest := []) F (ct_X8_passWeek l D cI cZ cO (fun i => a (pm_M_v12 i)) hz24) (cut_M_v12 cI cZ cO a u z24) rfl rfl rfl qw3_196 qw2_223 qw2_224 qw1_8 qw2_225 hvX8_passWeek ⟨Nat.le_of_ble_eq_true rfl, Nat.le_of_ble_eq_true rfl⟩ ⟨Nat.zero_le _, Nat.zero_le _⟩ 0 8 rfl rfl rfl rfl (Nat.le_of_ble_eq_true rfl) E0_b (fun _ _ _ _ _ _ => trivial) rfl dX3_untilFirstForgotten_24 [] rfl ?_
    refine sm_aload_n F dX3_untilFirstForgotten_27 rfl 0 rfl ?_
    refine sm_get (v := .ref (a 12)) F inX3 0 rfl rfl 1 (by decide) qw1_134 rfl rfl dX3_untilFirstForgotten_28 ?_
    obtain ⟨z31, hz31, hf⟩ := bd_some hf
    refine sm_callV (rest := []) F (ct_X8_hereBits l D cI cZ cO (fun i => a (pm_M_v12 i)) hz31) (cut_M_v12_ro cI cZ cO a (sM_then u z24)) rfl rfl rfl qw3_195 qw3_115 qw3_116 qw1_8 qw3_117 hvX8_hereBits ⟨Nat.le_of_ble_eq_true rfl, Nat.le_of_ble_eq_true rfl⟩ ⟨Nat.zero_le _, Nat.zero_le _⟩ 0 8 rfl rfl rfl rfl (Nat.le_of_ble_eq_true rfl) E0_b (fun _ _ _ _ _ _ => trivial) rfl dX3_untilFirstForgotten_31 [.int z31] rfl ?_
    refine sm_iload_n F dX3_untilFirstForgotten_34 rfl 1 rfl ?_
    refine sm_icmp_eq (tgt := 40) F dX3_untilFirstForgotten_35 (by decide) (fun c35 => ?_) (fun c35 => ?_)
    · replace hf := if_t c35 hf
      refine sm_iinc F [(0, .ref (a 0)), (1, .int x1), (2, .int (x2 + 1))] 2 [1, 2, 0] dX3_untilFirstForgotten_40 rfl kc_i_1 (by decide) rfl ?_
      refine sm_goto (tgt := 14) F dX3_untilFirstForgotten_43 (by decide) ?_
      exact hk14 (sM_then u z24) x1 (x2 + 1) hf
    · replace hf := if_f c35 hf
      refine sm_iload_n F dX3_untilFirstForgotten_38 rfl 2 rfl ?_
      exact sm_iret F dX3_untilFirstForgotten_39 (Prod.mk.inj (Option.some.inj hf)).1 (congrArg (fun z => (wM cI cZ cO a z)) (Prod.mk.inj (Option.some.inj hf)).2)
set_option maxRecDepth 100000 in
set_option maxHeartbeats 4000000 in
theorem s_X3_untilFirstForgotten_14 {p : Program} {l : Launch} {e : Env} {s : State} {m : MethodId} {args : Array Value} {below : List Frame} {meth : Method} {c : Code} {A : Nat → Prop} {D : va_G} {cI cZ cO : ClassId} {a : Nat → Nat} {r : Int32} {o : MS} (F : smF p s m args meth c cX3_untilFirstForgotten 3 (some .int) RX3 D (tyL cI cZ cO) A)   (n : Nat) (u : MS) (x1 : Int32) (x2 : Int32) (hf : f_X3_untilFirstForgotten_14   n u x1 x2 = some (r, o)) : Sm p l e rmX3_untilFirstForgotten s m args below meth c D A 3 0 0 (smQ below args s D A (some (.int r)) (wM cI cZ cO a o)) 14 [(0, .ref (a 0)), (1, .int x1), (2, .int x2)] [] (wM cI cZ cO a u) :=
  lq3_ind (P := fun (u : MS) (x1 : Int32) (x2 : Int32) => Sm p l e rmX3_untilFirstForgotten s m args below meth c D A 3 0 0 (smQ below args s D A (some (.int r)) (wM cI cZ cO a o)) 14 [(0, .ref (a 0)), (1, .int x1), (2, .int x2)] [] (wM cI cZ cO a u)) (fun k14 hk14 u x1 x2 h9 => s_X3_untilFirstForgotten_14_b F   k14 hk14 u x1 x2 h9) n u x1 x2 hf
set_option maxRecDepth 100000 in
set_option maxHeartbeats 4000000 in
theorem ct_X3_untilFirstForgotten (l : Launch) (D : va_G) (cI cZ cO : ClassId) (a : Nat → Nat) {u : MS} {r : Int32} {o : MS} (hf : f_X3_untilFirstForgotten u = some (r, o)) : Ct l yX3_untilFirstForgotten (uw (Cond.code yX3_untilFirstForgotten cX3_untilFirstForgotten 3 (some .int))) rmX3_untilFirstForgotten D (tyL cI cZ cO) E0 [.ref (a 0)] (wM cI cZ cO a u) (some (.int r)) (wM cI cZ cO a o) := by
  refine sm_start (cc := cX3_untilFirstForgotten) (maxL := 3) (ret := (some .int)) (own := RX3) (by decide) rfl rfl (Nat.le_of_ble_eq_true rfl) (lv := [(0, .ref (a 0))]) rfl ?_
  intro p e s m below meth c A F hE hA
  unfold f_X3_untilFirstForgotten at hf
  refine sm_aload_n F dX3_untilFirstForgotten_0 rfl 0 rfl ?_
  obtain ⟨z1, hz1, hf⟩ := bd_some hf
  refine sm_callV (rest := []) F (ct_X3_startAgain l D cI cZ cO a hz1) (cut_M_id cI cZ cO a u z1) rfl rfl rfl qw3_150 qw3_152 qw0_18 qw1_9 qw3_153 hvX3_startAgain ⟨Nat.le_of_ble_eq_true rfl, Nat.le_of_ble_eq_true rfl⟩ ⟨Nat.zero_le _, Nat.zero_le _⟩ 0 3 rfl rfl rfl rfl (Nat.le_of_ble_eq_true rfl) E0_b (fun _ _ _ _ _ _ => trivial) rfl dX3_untilFirstForgotten_1 [] rfl ?_
  refine sm_aload_n F dX3_untilFirstForgotten_4 rfl 0 rfl ?_
  refine sm_get (v := .ref (a 6)) F inX3 0 rfl rfl 0 (by decide) qw1_133 rfl rfl dX3_untilFirstForgotten_5 ?_
  obtain ⟨z8, hz8, hf⟩ := bd_some hf
  refine sm_callV (rest := []) F (ct_X8_hereBits l D cI cZ cO (fun i => a (pm_M_v6 i)) hz8) (cut_M_v6_ro cI cZ cO a z1) rfl rfl rfl qw3_195 qw3_115 qw3_116 qw1_8 qw3_117 hvX8_hereBits ⟨Nat.le_of_ble_eq_true rfl, Nat.le_of_ble_eq_true rfl⟩ ⟨Nat.zero_le _, Nat.zero_le _⟩ 0 8 rfl rfl rfl rfl (Nat.le_of_ble_eq_true rfl) E0_b (fun _ _ _ _ _ _ => trivial) rfl dX3_untilFirstForgotten_8 [.int z8] rfl ?_
  refine sm_istore_n F [(0, .ref (a 0)), (1, .int z8)] [1, 0] dX3_untilFirstForgotten_11 rfl (by decide) rfl ?_
  refine sm_iconst F dX3_untilFirstForgotten_12 kc_i_1 ?_
  refine sm_istore_n F [(0, .ref (a 0)), (1, .int z8), (2, .int (1 : Int32))] [1, 2, 0] dX3_untilFirstForgotten_13 rfl (by decide) rfl ?_
  exact s_X3_untilFirstForgotten_14 F  smN z1 z8 (1 : Int32) hf
/-! SoManyForgotten$Mind.firstForgotten()I -/
abbrev rmX3_firstForgotten : Room := { frames := 5, cells := 0, slots := 0, locals := 116 }
set_option maxRecDepth 100000 in
theorem hvX3_firstForgotten : yX3_firstForgotten.cls = RX3 ∧ yX3_firstForgotten.cls ≠ "java/lang/invoke/MethodHandle" ∧ yX3_firstForgotten.cls ≠ "java/lang/invoke/VarHandle" ∧ (parseMethodDescriptor yX3_firstForgotten.desc).map (fun d => d.parameters.length) = some 0 := by decide +kernel
set_option maxRecDepth 100000 in
set_option maxHeartbeats 4000000 in
theorem s_X3_firstForgotten_7_b {p : Program} {l : Launch} {e : Env} {s : State} {m : MethodId} {args : Array Value} {below : List Frame} {meth : Method} {c : Code} {A : Nat → Prop} {D : va_G} {cI cZ cO : ClassId} {a : Nat → Nat} {r : Int32} {o : MS} (F : smF p s m args meth c cX3_firstForgotten 2 (some .int) RX3 D (tyL cI cZ cO) A)  (k7 : MS → Int32 → Option (Int32 × (MS))) (hk7 : ∀ (u' : MS) (x1' : Int32), k7 u' x1' = some (r, o) → Sm p l e rmX3_firstForgotten s m args below meth c D A 2 0 0 (smQ below args s D A (some (.int r)) (wM cI cZ cO a o)) 7 [(0, .ref (a 0)), (1, .int x1')] [] (wM cI cZ cO a u')) (u : MS) (x1 : Int32) (hf : b_X3_firstForgotten_7   k7 u x1 = some (r, o)) : Sm p l e rmX3_firstForgotten s m args below meth c D A 2 0 0 (smQ below args s D A (some (.int r)) (wM cI cZ cO a o)) 7 [(0, .ref (a 0)), (1, .int x1)] [] (wM cI cZ cO a u) := by
  unfold b_X3_firstForgotten_7 at hf
  refine sm_iload_n F dX3_firstForgotten_7 rfl 1 rfl ?_
  refine sm_aload_n F dX3_firstForgotten_8 rfl 0 rfl ?_
  refine sm_get (v := .ref (a 6)) F inX3 0 rfl rfl 0 (by decide) qw1_133 rfl rfl dX3_firstForgotten_9 ?_
  refine sm_get (v := .int (gV_people (gM_now u))) F inX8 6 rfl rfl 6 (by decide) qw1_95 rfl rfl dX3_firstForgotten_12 ?_
  refine sm_icmp_ge (tgt := 50) F dX3_firstForgotten_15 (by decide) (fun c15 => ?_) (fun c15 => ?_)
  · replace hf := if_t c15 hf
    refine sm_bipush F dX3_firstForgotten_50 kc_b_m9 ?_
    exact sm_iret F dX3_firstForgotten_52 (Prod.mk.inj (Option.some.inj hf)).1 (congrArg (fun z => (wM cI cZ cO a z)) (Prod.mk.inj (Option.some.inj hf)).2)
  · replace hf := if_f c15 hf
    refine sm_aload_n F dX3_firstForgotten_18 rfl 0 rfl ?_
    refine sm_get (v := .ref (a 6)) F inX3 0 rfl rfl 0 (by decide) qw1_133 rfl rfl dX3_firstForgotten_19 ?_
    refine sm_get (v := .ref (a 10)) F inX8 6 rfl rfl 4 (by decide) qw1_91 rfl rfl dX3_firstForgotten_22 ?_
    refine sm_iload_n F dX3_firstForgotten_25 rfl 1 rfl ?_
    obtain ⟨h26, hf⟩ := ck_some hf
    refine sm_zald F 10 1 rfl rfl h26 dX3_firstForgotten_26 ?_
    refine sm_if_eq (tgt := 44) F dX3_firstForgotten_27 (by decide) (fun c27 => ?_) (fun c27 => ?_)
    · replace hf := if_t c27 hf
      refine sm_iinc F [(0, .ref (a 0)), (1, .int (x1 + 1))] 1 [1, 0] dX3_firstForgotten_44 rfl kc_i_1 (by decide) rfl ?_
      refine sm_goto (tgt := 7) F dX3_firstForgotten_47 (by decide) ?_
      exact hk7 u (x1 + 1) hf
    · replace hf := if_f c27 hf
      refine sm_aload_n F dX3_firstForgotten_30 rfl 0 rfl ?_
      refine sm_get (v := .ref (a 12)) F inX3 0 rfl rfl 1 (by decide) qw1_134 rfl rfl dX3_firstForgotten_31 ?_
      refine sm_get (v := .ref (a 16)) F inX8 12 rfl rfl 4 (by decide) qw1_91 rfl rfl dX3_firstForgotten_34 ?_
      refine sm_iload_n F dX3_firstForgotten_37 rfl 1 rfl ?_
      obtain ⟨h38, hf⟩ := ck_some hf
      refine sm_zald F 16 1 rfl rfl h38 dX3_firstForgotten_38 ?_
      refine sm_if_ne (tgt := 44) F dX3_firstForgotten_39 (by decide) (fun c39 => ?_) (fun c39 => ?_)
      · replace hf := if_f c39 hf
        refine sm_iinc F [(0, .ref (a 0)), (1, .int (x1 + 1))] 1 [1, 0] dX3_firstForgotten_44 rfl kc_i_1 (by decide) rfl ?_
        refine sm_goto (tgt := 7) F dX3_firstForgotten_47 (by decide) ?_
        exact hk7 u (x1 + 1) hf
      · replace hf := if_t c39 hf
        refine sm_iload_n F dX3_firstForgotten_42 rfl 1 rfl ?_
        exact sm_iret F dX3_firstForgotten_43 (Prod.mk.inj (Option.some.inj hf)).1 (congrArg (fun z => (wM cI cZ cO a z)) (Prod.mk.inj (Option.some.inj hf)).2)
set_option maxRecDepth 100000 in
set_option maxHeartbeats 4000000 in
theorem s_X3_firstForgotten_7 {p : Program} {l : Launch} {e : Env} {s : State} {m : MethodId} {args : Array Value} {below : List Frame} {meth : Method} {c : Code} {A : Nat → Prop} {D : va_G} {cI cZ cO : ClassId} {a : Nat → Nat} {r : Int32} {o : MS} (F : smF p s m args meth c cX3_firstForgotten 2 (some .int) RX3 D (tyL cI cZ cO) A)   (n : Nat) (u : MS) (x1 : Int32) (hf : f_X3_firstForgotten_7   n u x1 = some (r, o)) : Sm p l e rmX3_firstForgotten s m args below meth c D A 2 0 0 (smQ below args s D A (some (.int r)) (wM cI cZ cO a o)) 7 [(0, .ref (a 0)), (1, .int x1)] [] (wM cI cZ cO a u) :=
  lq2_ind (P := fun (u : MS) (x1 : Int32) => Sm p l e rmX3_firstForgotten s m args below meth c D A 2 0 0 (smQ below args s D A (some (.int r)) (wM cI cZ cO a o)) 7 [(0, .ref (a 0)), (1, .int x1)] [] (wM cI cZ cO a u)) (fun k7 hk7 u x1 h9 => s_X3_firstForgotten_7_b F   k7 hk7 u x1 h9) n u x1 hf
set_option maxRecDepth 100000 in
set_option maxHeartbeats 4000000 in
theorem ct_X3_firstForgotten (l : Launch) (D : va_G) (cI cZ cO : ClassId) (a : Nat → Nat) {u : MS} {r : Int32} {o : MS} (hf : f_X3_firstForgotten u = some (r, o)) : Ct l yX3_firstForgotten (uw (Cond.code yX3_firstForgotten cX3_firstForgotten 2 (some .int))) rmX3_firstForgotten D (tyL cI cZ cO) E0 [.ref (a 0)] (wM cI cZ cO a u) (some (.int r)) (wM cI cZ cO a o) := by
  refine sm_start (cc := cX3_firstForgotten) (maxL := 2) (ret := (some .int)) (own := RX3) (by decide) rfl rfl (Nat.le_of_ble_eq_true rfl) (lv := [(0, .ref (a 0))]) rfl ?_
  intro p e s m below meth c A F hE hA
  unfold f_X3_firstForgotten at hf
  refine sm_aload_n F dX3_firstForgotten_0 rfl 0 rfl ?_
  obtain ⟨z1, hz1, hf⟩ := bd_some hf
  refine sm_callV (rest := []) F (ct_X3_untilFirstForgotten l D cI cZ cO a hz1) (cut_M_id cI cZ cO a u z1.2) rfl rfl rfl qw3_191 qw3_192 qw3_193 qw1_9 qw3_194 hvX3_untilFirstForgotten ⟨Nat.le_of_ble_eq_true rfl, Nat.le_of_ble_eq_true rfl⟩ ⟨Nat.zero_le _, Nat.zero_le _⟩ 0 3 rfl rfl rfl rfl (Nat.le_of_ble_eq_true rfl) E0_b (fun _ _ _ _ _ _ => trivial) rfl dX3_firstForgotten_1 [.int z1.1] rfl ?_
  refine sm_pop F dX3_firstForgotten_4 rfl ?_
  refine sm_iconst F dX3_firstForgotten_5 kc_i_0 ?_
  refine sm_istore_n F [(0, .ref (a 0)), (1, .int (0 : Int32))] [1, 0] dX3_firstForgotten_6 rfl (by decide) rfl ?_
  exact s_X3_firstForgotten_7 F  smN z1.2 (0 : Int32) hf
/-! SoManyForgotten$Mind.untilEmpty()I -/
abbrev rmX3_untilEmpty : Room := { frames := 4, cells := 0, slots := 0, locals := 94 }
set_option maxRecDepth 100000 in
theorem hvX3_untilEmpty : yX3_untilEmpty.cls = RX3 ∧ yX3_untilEmpty.cls ≠ "java/lang/invoke/MethodHandle" ∧ yX3_untilEmpty.cls ≠ "java/lang/invoke/VarHandle" ∧ (parseMethodDescriptor yX3_untilEmpty.desc).map (fun d => d.parameters.length) = some 0 := by decide +kernel
set_option maxRecDepth 100000 in
set_option maxHeartbeats 4000000 in
theorem s_X3_untilEmpty_6_b {p : Program} {l : Launch} {e : Env} {s : State} {m : MethodId} {args : Array Value} {below : List Frame} {meth : Method} {c : Code} {A : Nat → Prop} {D : va_G} {cI cZ cO : ClassId} {a : Nat → Nat} {r : Int32} {o : MS} (F : smF p s m args meth c cX3_untilEmpty 2 (some .int) RX3 D (tyL cI cZ cO) A)  (k6 : MS → Int32 → Option (Int32 × (MS))) (hk6 : ∀ (u' : MS) (x1' : Int32), k6 u' x1' = some (r, o) → Sm p l e rmX3_untilEmpty s m args below meth c D A 2 0 0 (smQ below args s D A (some (.int r)) (wM cI cZ cO a o)) 6 [(0, .ref (a 0)), (1, .int x1')] [] (wM cI cZ cO a u')) (u : MS) (x1 : Int32) (hf : b_X3_untilEmpty_6   k6 u x1 = some (r, o)) : Sm p l e rmX3_untilEmpty s m args below meth c D A 2 0 0 (smQ below args s D A (some (.int r)) (wM cI cZ cO a o)) 6 [(0, .ref (a 0)), (1, .int x1)] [] (wM cI cZ cO a u) := by
  unfold b_X3_untilEmpty_6 at hf
  refine sm_iload_n F dX3_untilEmpty_6 rfl 1 rfl ?_
  refine sm_bipush F dX3_untilEmpty_7 kc_b_99 ?_
  refine sm_icmp_gt (tgt := 37) F dX3_untilEmpty_9 (by decide) (fun c9 => ?_) (fun c9 => ?_)
  · replace hf := if_t c9 hf
    refine sm_bipush F dX3_untilEmpty_37 kc_b_100 ?_
    exact sm_iret F dX3_untilEmpty_39 (Prod.mk.inj (Option.some.inj hf)).1 (congrArg (fun z => (wM cI cZ cO a z)) (Prod.mk.inj (Option.some.inj hf)).2)
  · replace hf := if_f c9 hf
    refine sm_aload_n F dX3_untilEmpty_12 rfl 0 rfl ?_
    refine sm_get (v := .ref (a 12)) F inX3 0 rfl rfl 1 (by decide) qw1_134 rfl rfl dX3_untilEmpty_13 ?_
    obtain ⟨z16, hz16, hf⟩ := bd_some hf
    refine sm_callV (rest := []) F (ct_X8_hereBits l D cI cZ cO (fun i => a (pm_M_v12 i)) hz16) (cut_M_v12_ro cI cZ cO a u) rfl rfl rfl qw3_195 qw3_115 qw3_116 qw1_8 qw3_117 hvX8_hereBits ⟨Nat.le_of_ble_eq_true rfl, Nat.le_of_ble_eq_true rfl⟩ ⟨Nat.zero_le _, Nat.zero_le _⟩ 0 8 rfl rfl rfl rfl (Nat.le_of_ble_eq_true rfl) E0_b (fun _ _ _ _ _ _ => trivial) rfl dX3_untilEmpty_16 [.int z16] rfl ?_
    refine sm_if_ne (tgt := 24) F dX3_untilEmpty_19 (by decide) (fun c19 => ?_) (fun c19 => ?_)
    · replace hf := if_f c19 hf
      refine sm_aload_n F dX3_untilEmpty_24 rfl 0 rfl ?_
      refine sm_get (v := .ref (a 12)) F inX3 0 rfl rfl 1 (by decide) qw1_134 rfl rfl dX3_untilEmpty_25 ?_
      obtain ⟨z28, hz28, hf⟩ := bd_some hf
      refine sm_callV (rest := []) F (ct_X8_passWeek l D cI cZ cO (fun i => a (pm_M_v12 i)) hz28) (cut_M_v12 cI cZ cO a u z28) rfl rfl rfl qw3_196 qw2_223 qw2_224 qw1_8 qw2_225 hvX8_passWeek ⟨Nat.le_of_ble_eq_true rfl, Nat.le_of_ble_eq_true rfl⟩ ⟨Nat.zero_le _, Nat.zero_le _⟩ 0 8 rfl rfl rfl rfl (Nat.le_of_ble_eq_true rfl) E0_b (fun _ _ _ _ _ _ => trivial) rfl dX3_untilEmpty_28 [] rfl ?_
      refine sm_iinc F [(0, .ref (a 0)), (1, .int (x1 + 1))] 1 [1, 0] dX3_untilEmpty_31 rfl kc_i_1 (by decide) rfl ?_
      refine sm_goto (tgt := 6) F dX3_untilEmpty_34 (by decide) ?_
      exact hk6 (sM_then u z28) (x1 + 1) hf
    · replace hf := if_t c19 hf
      refine sm_iload_n F dX3_untilEmpty_22 rfl 1 rfl ?_
      exact sm_iret F dX3_untilEmpty_23 (Prod.mk.inj (Option.some.inj hf)).1 (congrArg (fun z => (wM cI cZ cO a z)) (Prod.mk.inj (Option.some.inj hf)).2)
set_option maxRecDepth 100000 in
set_option maxHeartbeats 4000000 in
theorem s_X3_untilEmpty_6 {p : Program} {l : Launch} {e : Env} {s : State} {m : MethodId} {args : Array Value} {below : List Frame} {meth : Method} {c : Code} {A : Nat → Prop} {D : va_G} {cI cZ cO : ClassId} {a : Nat → Nat} {r : Int32} {o : MS} (F : smF p s m args meth c cX3_untilEmpty 2 (some .int) RX3 D (tyL cI cZ cO) A)   (n : Nat) (u : MS) (x1 : Int32) (hf : f_X3_untilEmpty_6   n u x1 = some (r, o)) : Sm p l e rmX3_untilEmpty s m args below meth c D A 2 0 0 (smQ below args s D A (some (.int r)) (wM cI cZ cO a o)) 6 [(0, .ref (a 0)), (1, .int x1)] [] (wM cI cZ cO a u) :=
  lq2_ind (P := fun (u : MS) (x1 : Int32) => Sm p l e rmX3_untilEmpty s m args below meth c D A 2 0 0 (smQ below args s D A (some (.int r)) (wM cI cZ cO a o)) 6 [(0, .ref (a 0)), (1, .int x1)] [] (wM cI cZ cO a u)) (fun k6 hk6 u x1 h9 => s_X3_untilEmpty_6_b F   k6 hk6 u x1 h9) n u x1 hf
set_option maxRecDepth 100000 in
set_option maxHeartbeats 4000000 in
theorem ct_X3_untilEmpty (l : Launch) (D : va_G) (cI cZ cO : ClassId) (a : Nat → Nat) {u : MS} {r : Int32} {o : MS} (hf : f_X3_untilEmpty u = some (r, o)) : Ct l yX3_untilEmpty (uw (Cond.code yX3_untilEmpty cX3_untilEmpty 2 (some .int))) rmX3_untilEmpty D (tyL cI cZ cO) E0 [.ref (a 0)] (wM cI cZ cO a u) (some (.int r)) (wM cI cZ cO a o) := by
  refine sm_start (cc := cX3_untilEmpty) (maxL := 2) (ret := (some .int)) (own := RX3) (by decide) rfl rfl (Nat.le_of_ble_eq_true rfl) (lv := [(0, .ref (a 0))]) rfl ?_
  intro p e s m below meth c A F hE hA
  unfold f_X3_untilEmpty at hf
  refine sm_aload_n F dX3_untilEmpty_0 rfl 0 rfl ?_
  obtain ⟨z1, hz1, hf⟩ := bd_some hf
  refine sm_callV (rest := []) F (ct_X3_startAgain l D cI cZ cO a hz1) (cut_M_id cI cZ cO a u z1) rfl rfl rfl qw3_150 qw3_152 qw0_18 qw1_9 qw3_153 hvX3_startAgain ⟨Nat.le_of_ble_eq_true rfl, Nat.le_of_ble_eq_true rfl⟩ ⟨Nat.zero_le _, Nat.zero_le _⟩ 0 3 rfl rfl rfl rfl (Nat.le_of_ble_eq_true rfl) E0_b (fun _ _ _ _ _ _ => trivial) rfl dX3_untilEmpty_1 [] rfl ?_
  refine sm_iconst F dX3_untilEmpty_4 kc_i_0 ?_
  refine sm_istore_n F [(0, .ref (a 0)), (1, .int (0 : Int32))] [1, 0] dX3_untilEmpty_5 rfl (by decide) rfl ?_
  exact s_X3_untilEmpty_6 F  smN z1 (0 : Int32) hf
/-! SoManyForgotten$Mind.bestToSpeakTo(I)I -/
abbrev rmX3_bestToSpeakTo : Room := { frames := 6, cells := 0, slots := 0, locals := 137 }
set_option maxRecDepth 100000 in
theorem hvX3_bestToSpeakTo : yX3_bestToSpeakTo.cls = RX3 ∧ yX3_bestToSpeakTo.cls ≠ "java/lang/invoke/MethodHandle" ∧ yX3_bestToSpeakTo.cls ≠ "java/lang/invoke/VarHandle" ∧ (parseMethodDescriptor yX3_bestToSpeakTo.desc).map (fun d => d.parameters.length) = some 1 := by decide +kernel
set_option maxRecDepth 100000 in
set_option maxHeartbeats 4000000 in
theorem s_X3_bestToSpeakTo_12_b {p : Program} {l : Launch} {e : Env} {s : State} {m : MethodId} {args : Array Value} {below : List Frame} {meth : Method} {c : Code} {A : Nat → Prop} {D : va_G} {cI cZ cO : ClassId} {a : Nat → Nat} {r : Int32} {o : MS} (F : smF p s m args meth c cX3_bestToSpeakTo 6 (some .int) RX3 D (tyL cI cZ cO) A) (x1 : Int32) (k12 : MS → Int32 → Int32 → Int32 → Option (Int32 × (MS))) (hk12 : ∀ (u' : MS) (x2' : Int32) (x3' : Int32) (x4' : Int32), k12 u' x2' x3' x4' = some (r, o) → Sm p l e rmX3_bestToSpeakTo s m args below meth c D A 6 0 0 (smQ below args s D A (some (.int r)) (wM cI cZ cO a o)) 12 [(0, .ref (a 0)), (1, .int x1), (2, .int x2'), (3, .int x3'), (4, .int x4')] [] (wM cI cZ cO a u')) (u : MS) (x2 : Int32) (x3 : Int32) (x4 : Int32) (hf : b_X3_bestToSpeakTo_12 x1  k12 u x2 x3 x4 = some (r, o)) : Sm p l e rmX3_bestToSpeakTo s m args below meth c D A 6 0 0 (smQ below args s D A (some (.int r)) (wM cI cZ cO a o)) 12 [(0, .ref (a 0)), (1, .int x1), (2, .int x2), (3, .int x3), (4, .int x4)] [] (wM cI cZ cO a u) := by
  unfold b_X3_bestToSpeakTo_12 at hf
  refine sm_iload F dX3_bestToSpeakTo_12 4 rfl ?_
  refine sm_aload_n F dX3_bestToSpeakTo_14 rfl 0 rfl ?_
  refine sm_get (v := .ref (a 6)) F inX3 0 rfl rfl 0 (by decide) qw1_133 rfl rfl dX3_bestToSpeakTo_15 ?_
  refine sm_get (v := .int (gV_people (gM_now u))) F inX8 6 rfl rfl 6 (by decide) qw1_95 rfl rfl dX3_bestToSpeakTo_18 ?_
  refine sm_icmp_ge (tgt := 79) F dX3_bestToSpeakTo_21 (by decide) (fun c21 => ?_) (fun c21 => ?_)
  · replace hf := if_t c21 hf
    refine sm_iload_n F dX3_bestToSpeakTo_79 rfl 2 rfl ?_
    exact sm_iret F dX3_bestToSpeakTo_80 (Prod.mk.inj (Option.some.inj hf)).1 (congrArg (fun z => (wM cI cZ cO a z)) (Prod.mk.inj (Option.some.inj hf)).2)
  · replace hf := if_f c21 hf
    refine sm_aload_n F dX3_bestToSpeakTo_24 rfl 0 rfl ?_
    refine sm_get (v := .ref (a 6)) F inX3 0 rfl rfl 0 (by decide) qw1_133 rfl rfl dX3_bestToSpeakTo_25 ?_
    refine sm_iload_n F dX3_bestToSpeakTo_28 rfl 1 rfl ?_
    refine sm_iload F dX3_bestToSpeakTo_29 4 rfl ?_
    obtain ⟨z31, hz31, hf⟩ := bd_some hf
    refine sm_callV (rest := []) F (ct_X8_areTwoHere l D cI cZ cO (fun i => a (pm_M_v6 i)) hz31) (cut_M_v6_ro cI cZ cO a u) rfl rfl rfl qw3_220 qw2_189 qw2_190 qw1_8 qw2_191 hvX8_areTwoHere ⟨Nat.le_of_ble_eq_true rfl, Nat.le_of_ble_eq_true rfl⟩ ⟨Nat.zero_le _, Nat.zero_le _⟩ 0 8 rfl rfl rfl rfl (Nat.le_of_ble_eq_true rfl) E0_b (fun _ _ _ _ _ _ => trivial) rfl dX3_bestToSpeakTo_31 [.int z31] rfl ?_
    refine sm_if_eq (tgt := 73) F dX3_bestToSpeakTo_34 (by decide) (fun c34 => ?_) (fun c34 => ?_)
    · replace hf := if_t c34 hf
      refine sm_iinc F [(0, .ref (a 0)), (1, .int x1), (2, .int x2), (3, .int x3), (4, .int (x4 + 1))] 4 [1, 2, 3, 4, 0] dX3_bestToSpeakTo_73 rfl kc_i_1 (by decide) rfl ?_
      refine sm_goto (tgt := 12) F dX3_bestToSpeakTo_76 (by decide) ?_
      exact hk12 u x2 x3 (x4 + 1) hf
    · replace hf := if_f c34 hf
      refine sm_aload_n F dX3_bestToSpeakTo_37 rfl 0 rfl ?_
      obtain ⟨z38, hz38, hf⟩ := bd_some hf
      refine sm_callV (rest := []) F (ct_X3_startAgain l D cI cZ cO a hz38) (cut_M_id cI cZ cO a u z38) rfl rfl rfl qw3_150 qw3_152 qw0_18 qw1_9 qw3_153 hvX3_startAgain ⟨Nat.le_of_ble_eq_true rfl, Nat.le_of_ble_eq_true rfl⟩ ⟨Nat.zero_le _, Nat.zero_le _⟩ 0 3 rfl rfl rfl rfl (Nat.le_of_ble_eq_true rfl) E0_b (fun _ _ _ _ _ _ => trivial) rfl dX3_bestToSpeakTo_38 [] rfl ?_
      refine sm_aload_n F dX3_bestToSpeakTo_41 rfl 0 rfl ?_
      refine sm_get (v := .ref (a 12)) F inX3 0 rfl rfl 1 (by decide) qw1_134 rfl rfl dX3_bestToSpeakTo_42 ?_
      refine sm_iload_n F dX3_bestToSpeakTo_45 rfl 1 rfl ?_
      refine sm_iload F dX3_bestToSpeakTo_46 4 rfl ?_
      obtain ⟨z48, hz48, hf⟩ := bd_some hf
      refine sm_callV (rest := []) F (ct_X8_talk l D cI cZ cO (fun i => a (pm_M_v12 i)) hz48) (cut_M_v12 cI cZ cO a z38 z48) rfl rfl rfl qw3_221 qw2_197 qw2_198 qw1_8 qw2_199 hvX8_talk ⟨Nat.le_of_ble_eq_true rfl, Nat.le_of_ble_eq_true rfl⟩ ⟨Nat.zero_le _, Nat.zero_le _⟩ 0 8 rfl rfl rfl rfl (Nat.le_of_ble_eq_true rfl) E0_b (fun _ _ _ _ _ _ => trivial) rfl dX3_bestToSpeakTo_48 [] rfl ?_
      refine sm_aload_n F dX3_bestToSpeakTo_51 rfl 0 rfl ?_
      refine sm_get (v := .ref (a 12)) F inX3 0 rfl rfl 1 (by decide) qw1_134 rfl rfl dX3_bestToSpeakTo_52 ?_
      refine sm_iload_n F dX3_bestToSpeakTo_55 rfl 1 rfl ?_
      obtain ⟨z56, hz56, hf⟩ := bd_some hf
      refine sm_callV (rest := []) F (ct_X8_passUntilForgotten l D cI cZ cO (fun i => a (pm_M_v12 i)) hz56) (cut_M_v12 cI cZ cO a (sM_then z38 z48) z56.2) rfl rfl rfl qw3_176 qw3_177 qw3_178 qw1_8 qw3_179 hvX8_passUntilForgotten ⟨Nat.le_of_ble_eq_true rfl, Nat.le_of_ble_eq_true rfl⟩ ⟨Nat.zero_le _, Nat.zero_le _⟩ 0 8 rfl rfl rfl rfl (Nat.le_of_ble_eq_true rfl) E0_b (fun _ _ _ _ _ _ => trivial) rfl dX3_bestToSpeakTo_56 [.int z56.1] rfl ?_
      refine sm_istore F [(0, .ref (a 0)), (1, .int x1), (2, .int x2), (3, .int x3), (4, .int x4), (5, .int z56.1)] [1, 2, 3, 4, 5, 0] dX3_bestToSpeakTo_59 (by decide) rfl ?_
      refine sm_iload F dX3_bestToSpeakTo_61 5 rfl ?_
      refine sm_iload_n F dX3_bestToSpeakTo_63 rfl 3 rfl ?_
      refine sm_icmp_le (tgt := 73) F dX3_bestToSpeakTo_64 (by decide) (fun c64 => ?_) (fun c64 => ?_)
      · replace hf := if_t c64 hf
        refine sm_iinc F [(0, .ref (a 0)), (1, .int x1), (2, .int x2), (3, .int x3), (4, .int (x4 + 1)), (5, .int z56.1)] 4 [1, 2, 3, 4, 0, 5] dX3_bestToSpeakTo_73 rfl kc_i_1 (by decide) rfl ?_
        refine sm_goto (tgt := 12) F dX3_bestToSpeakTo_76 (by decide) ?_
        refine sm_sub (lv' := [(0, .ref (a 0)), (1, .int x1), (2, .int x2), (3, .int x3), (4, .int (x4 + 1))]) [0, 1, 2, 3, 4] rfl ?_
        exact hk12 (sM_then (sM_then z38 z48) z56.2) x2 x3 (x4 + 1) hf
      · replace hf := if_f c64 hf
        refine sm_iload F dX3_bestToSpeakTo_67 4 rfl ?_
        refine sm_istore_n F [(0, .ref (a 0)), (1, .int x1), (2, .int x4), (4, .int x4), (5, .int z56.1)] [1, 2, 0, 4, 5] dX3_bestToSpeakTo_69 rfl (by decide) rfl ?_
        refine sm_iload F dX3_bestToSpeakTo_70 4 rfl ?_
        refine sm_istore_n F [(0, .ref (a 0)), (1, .int x1), (2, .int x4), (3, .int z56.1), (4, .int x4)] [1, 2, 3, 0, 4] dX3_bestToSpeakTo_72 rfl (by decide) rfl ?_
        refine sm_iinc F [(0, .ref (a 0)), (1, .int x1), (2, .int x4), (3, .int z56.1), (4, .int (x4 + 1))] 4 [1, 2, 3, 4, 0] dX3_bestToSpeakTo_73 rfl kc_i_1 (by decide) rfl ?_
        refine sm_goto (tgt := 12) F dX3_bestToSpeakTo_76 (by decide) ?_
        exact hk12 (sM_then (sM_then z38 z48) z56.2) x4 z56.1 (x4 + 1) hf
set_option maxRecDepth 100000 in
set_option maxHeartbeats 4000000 in
theorem s_X3_bestToSpeakTo_12 {p : Program} {l : Launch} {e : Env} {s : State} {m : MethodId} {args : Array Value} {below : List Frame} {meth : Method} {c : Code} {A : Nat → Prop} {D : va_G} {cI cZ cO : ClassId} {a : Nat → Nat} {r : Int32} {o : MS} (F : smF p s m args meth c cX3_bestToSpeakTo 6 (some .int) RX3 D (tyL cI cZ cO) A) (x1 : Int32)  (n : Nat) (u : MS) (x2 : Int32) (x3 : Int32) (x4 : Int32) (hf : f_X3_bestToSpeakTo_12 x1  n u x2 x3 x4 = some (r, o)) : Sm p l e rmX3_bestToSpeakTo s m args below meth c D A 6 0 0 (smQ below args s D A (some (.int r)) (wM cI cZ cO a o)) 12 [(0, .ref (a 0)), (1, .int x1), (2, .int x2), (3, .int x3), (4, .int x4)] [] (wM cI cZ cO a u) :=
  lq4_ind (P := fun (u : MS) (x2 : Int32) (x3 : Int32) (x4 : Int32) => Sm p l e rmX3_bestToSpeakTo s m args below meth c D A 6 0 0 (smQ below args s D A (some (.int r)) (wM cI cZ cO a o)) 12 [(0, .ref (a 0)), (1, .int x1), (2, .int x2), (3, .int x3), (4, .int x4)] [] (wM cI cZ cO a u)) (fun k12 hk12 u x2 x3 x4 h9 => s_X3_bestToSpeakTo_12_b F x1  k12 hk12 u x2 x3 x4 h9) n u x2 x3 x4 hf
set_option maxRecDepth 100000 in
set_option maxHeartbeats 4000000 in
theorem ct_X3_bestToSpeakTo (l : Launch) (D : va_G) (cI cZ cO : ClassId) (a : Nat → Nat) {u : MS} {x1 : Int32} {r : Int32} {o : MS} (hf : f_X3_bestToSpeakTo u x1 = some (r, o)) : Ct l yX3_bestToSpeakTo (uw (Cond.code yX3_bestToSpeakTo cX3_bestToSpeakTo 6 (some .int))) rmX3_bestToSpeakTo D (tyL cI cZ cO) E0 [.ref (a 0), .int x1] (wM cI cZ cO a u) (some (.int r)) (wM cI cZ cO a o) := by
  refine sm_start (cc := cX3_bestToSpeakTo) (maxL := 6) (ret := (some .int)) (own := RX3) (by decide) rfl rfl (Nat.le_of_ble_eq_true rfl) (lv := [(0, .ref (a 0)), (1, .int x1)]) rfl ?_
  intro p e s m below meth c A F hE hA
  unfold f_X3_bestToSpeakTo at hf
  refine sm_bipush F dX3_bestToSpeakTo_0 kc_b_m9 ?_
  refine sm_istore_n F [(0, .ref (a 0)), (1, .int x1), (2, .int ((-9) : Int32))] [1, 2, 0] dX3_bestToSpeakTo_2 rfl (by decide) rfl ?_
  refine sm_aload_n F dX3_bestToSpeakTo_3 rfl 0 rfl ?_
  refine sm_iload_n F dX3_bestToSpeakTo_4 rfl 1 rfl ?_
  obtain ⟨z5, hz5, hf⟩ := bd_some hf
  refine sm_callV (rest := []) F (ct_X3_untilForgotten l D cI cZ cO a hz5) (cut_M_id cI cZ cO a u z5.2) rfl rfl rfl qw3_219 qw3_173 qw3_174 qw1_9 qw3_175 hvX3_untilForgotten ⟨Nat.le_of_ble_eq_true rfl, Nat.le_of_ble_eq_true rfl⟩ ⟨Nat.zero_le _, Nat.zero_le _⟩ 0 3 rfl rfl rfl rfl (Nat.le_of_ble_eq_true rfl) E0_b (fun _ _ _ _ _ _ => trivial) rfl dX3_bestToSpeakTo_5 [.int z5.1] rfl ?_
  refine sm_istore_n F [(0, .ref (a 0)), (1, .int x1), (2, .int ((-9) : Int32)), (3, .int z5.1)] [1, 2, 3, 0] dX3_bestToSpeakTo_8 rfl (by decide) rfl ?_
  refine sm_iconst F dX3_bestToSpeakTo_9 kc_i_0 ?_
  refine sm_istore F [(0, .ref (a 0)), (1, .int x1), (2, .int ((-9) : Int32)), (3, .int z5.1), (4, .int (0 : Int32))] [1, 2, 3, 4, 0] dX3_bestToSpeakTo_10 (by decide) rfl ?_
  exact s_X3_bestToSpeakTo_12 F x1 smN z5.2 ((-9) : Int32) z5.1 (0 : Int32) hf
/-! SoManyForgotten$Mind.listenerAt(II)I -/
abbrev rmX3_listenerAt : Room := { frames := 0, cells := 0, slots := 0, locals := 0 }
set_option maxRecDepth 100000 in
theorem hsX3_listenerAt : yX3_listenerAt.cls ≠ "java/lang/invoke/MethodHandle" ∧ yX3_listenerAt.cls ≠ "java/lang/invoke/VarHandle" ∧ (parseMethodDescriptor yX3_listenerAt.desc).map (fun d => d.parameters.length) = some 2 := by decide +kernel
set_option maxRecDepth 100000 in
set_option maxHeartbeats 4000000 in
theorem ct_X3_listenerAt (l : Launch) (D : va_G) (tys : List (ClassId × FieldType)) {x0 : Int32} {x1 : Int32} {r : Int32} (hf : f_X3_listenerAt x0 x1 = some r) : Ct l yX3_listenerAt (uw (Cond.code yX3_listenerAt cX3_listenerAt 2 (some .int))) rmX3_listenerAt D tys E0 [.int x0, .int x1] [] (some (.int r)) [] := by
  refine sm_start (cc := cX3_listenerAt) (maxL := 2) (ret := (some .int)) (own := RX3) (by decide) rfl rfl (Nat.le_of_ble_eq_true rfl) (lv := [(0, .int x0), (1, .int x1)]) rfl ?_
  intro p e s m below meth c A F hE hA
  unfold f_X3_listenerAt at hf
  refine sm_iload_n F dX3_listenerAt_0 rfl 0 rfl ?_
  refine sm_iconst F dX3_listenerAt_1 kc_i_3 ?_
  refine sm_iload_n F dX3_listenerAt_2 rfl 1 rfl ?_
  refine sm_imul F dX3_listenerAt_3 ?_
  refine sm_ishr F dX3_listenerAt_4 ?_
  refine sm_bipush F dX3_listenerAt_5 kc_b_7 ?_
  refine sm_iand F dX3_listenerAt_7 ?_
  exact sm_iret F dX3_listenerAt_8 (Option.some.inj hf) rfl
/-! SoManyForgotten$Mind.areListeners(III)Z -/
abbrev rmX3_areListeners : Room := { frames := 3, cells := 0, slots := 0, locals := 64 }
set_option maxRecDepth 100000 in
theorem hvX3_areListeners : yX3_areListeners.cls = RX3 ∧ yX3_areListeners.cls ≠ "java/lang/invoke/MethodHandle" ∧ yX3_areListeners.cls ≠ "java/lang/invoke/VarHandle" ∧ (parseMethodDescriptor yX3_areListeners.desc).map (fun d => d.parameters.length) = some 3 := by decide +kernel
set_option maxRecDepth 100000 in
set_option maxHeartbeats 4000000 in
theorem s_X3_areListeners_6_b {p : Program} {l : Launch} {e : Env} {s : State} {m : MethodId} {args : Array Value} {below : List Frame} {meth : Method} {c : Code} {A : Nat → Prop} {D : va_G} {cI cZ cO : ClassId} {a : Nat → Nat} {r : Int32} (F : smF p s m args meth c cX3_areListeners 7 (some .boolean) RX3 D (tyL cI cZ cO) A) (u : MS) (x1 : Int32) (x2 : Int32) (x3 : Int32) (k6 : Int32 → Int32 → Option Int32) (hk6 : ∀ (x4' : Int32) (x5' : Int32), k6 x4' x5' = some r → Sm p l e rmX3_areListeners s m args below meth c D A 7 0 0 (smQ below args s D A (some (.int r)) (wM cI cZ cO a u)) 6 [(0, .ref (a 0)), (1, .int x1), (2, .int x2), (3, .int x3), (4, .int x4'), (5, .int x5')] [] (wM cI cZ cO a u)) (x4 : Int32) (x5 : Int32) (hf : b_X3_areListeners_6 u x1 x2 x3  k6 x4 x5 = some r) : Sm p l e rmX3_areListeners s m args below meth c D A 7 0 0 (smQ below args s D A (some (.int r)) (wM cI cZ cO a u)) 6 [(0, .ref (a 0)), (1, .int x1), (2, .int x2), (3, .int x3), (4, .int x4), (5, .int x5)] [] (wM cI cZ cO a u) := by
  unfold b_X3_areListeners_6 at hf
  refine sm_iload F dX3_areListeners_6 5 rfl ?_
  refine sm_iload_n F dX3_areListeners_8 rfl 2 rfl ?_
  refine sm_icmp_ge (tgt := 52) F dX3_areListeners_9 (by decide) (fun c9 => ?_) (fun c9 => ?_)
  · replace hf := if_t c9 hf
    refine sm_iconst F dX3_areListeners_52 kc_i_1 ?_
    exact sm_zret F dX3_areListeners_53 rfl (Option.some.inj hf) rfl
  · replace hf := if_f c9 hf
    refine sm_iload_n F dX3_areListeners_12 rfl 3 rfl ?_
    refine sm_iload F dX3_areListeners_13 5 rfl ?_
    obtain ⟨z15, hz15, hf⟩ := bd_some hf
    refine sm_callS (rest := []) F (ct_X3_listenerAt l D (tyL cI cZ cO) hz15) (cut_M_none cI cZ cO a u) rfl rfl rfl qw3_234 qw3_235 qw1_9 qw3_236 hsX3_listenerAt ⟨Nat.le_of_ble_eq_true rfl, Nat.le_of_ble_eq_true rfl⟩ ⟨Nat.zero_le _, Nat.zero_le _⟩ rfl (Nat.le_of_ble_eq_true rfl) E0_b (fun _ _ _ _ _ _ => trivial) rfl dX3_areListeners_15 [.int z15] rfl ?_
    refine sm_istore F [(0, .ref (a 0)), (1, .int x1), (2, .int x2), (3, .int x3), (4, .int x4), (5, .int x5), (6, .int z15)] [1, 2, 3, 4, 5, 6, 0] dX3_areListeners_18 (by decide) rfl ?_
    refine sm_iload F dX3_areListeners_20 6 rfl ?_
    refine sm_iload F dX3_areListeners_22 4 rfl ?_
    refine sm_icmp_lt (tgt := 40) F dX3_areListeners_24 (by decide) (fun c24 => ?_) (fun c24 => ?_)
    · replace hf := if_t c24 hf
      refine sm_iconst F dX3_areListeners_40 kc_i_0 ?_
      exact sm_zret F dX3_areListeners_41 rfl (Option.some.inj hf) rfl
    · replace hf := if_f c24 hf
      refine sm_aload_n F dX3_areListeners_27 rfl 0 rfl ?_
      refine sm_get (v := .ref (a 6)) F inX3 0 rfl rfl 0 (by decide) qw1_133 rfl rfl dX3_areListeners_28 ?_
      refine sm_iload_n F dX3_areListeners_31 rfl 1 rfl ?_
      refine sm_iload F dX3_areListeners_32 6 rfl ?_
      obtain ⟨z34, hz34, hf⟩ := bd_some hf
      refine sm_callV (rest := []) F (ct_X8_areTwoHere l D cI cZ cO (fun i => a (pm_M_v6 i)) hz34) (cut_M_v6_ro cI cZ cO a u) rfl rfl rfl qw3_220 qw2_189 qw2_190 qw1_8 qw2_191 hvX8_areTwoHere ⟨Nat.le_of_ble_eq_true rfl, Nat.le_of_ble_eq_true rfl⟩ ⟨Nat.zero_le _, Nat.zero_le _⟩ 0 8 rfl rfl rfl rfl (Nat.le_of_ble_eq_true rfl) E0_b (fun _ _ _ _ _ _ => trivial) rfl dX3_areListeners_34 [.int z34] rfl ?_
      refine sm_if_ne (tgt := 42) F dX3_areListeners_37 (by decide) (fun c37 => ?_) (fun c37 => ?_)
      · replace hf := if_f c37 hf
        refine sm_iload F dX3_areListeners_42 6 rfl ?_
        refine sm_istore F [(0, .ref (a 0)), (1, .int x1), (2, .int x2), (3, .int x3), (4, .int z15), (5, .int x5)] [1, 2, 3, 4, 0, 5] dX3_areListeners_44 (by decide) rfl ?_
        refine sm_iinc F [(0, .ref (a 0)), (1, .int x1), (2, .int x2), (3, .int x3), (4, .int z15), (5, .int (x5 + 1))] 5 [1, 2, 3, 4, 5, 0] dX3_areListeners_46 rfl kc_i_1 (by decide) rfl ?_
        refine sm_goto (tgt := 6) F dX3_areListeners_49 (by decide) ?_
        exact hk6 z15 (x5 + 1) hf
      · replace hf := if_t c37 hf
        refine sm_iconst F dX3_areListeners_40 kc_i_0 ?_
        exact sm_zret F dX3_areListeners_41 rfl (Option.some.inj hf) rfl
set_option maxRecDepth 100000 in
set_option maxHeartbeats 4000000 in
theorem s_X3_areListeners_6 {p : Program} {l : Launch} {e : Env} {s : State} {m : MethodId} {args : Array Value} {below : List Frame} {meth : Method} {c : Code} {A : Nat → Prop} {D : va_G} {cI cZ cO : ClassId} {a : Nat → Nat} {r : Int32} (F : smF p s m args meth c cX3_areListeners 7 (some .boolean) RX3 D (tyL cI cZ cO) A) (u : MS) (x1 : Int32) (x2 : Int32) (x3 : Int32)  (n : Nat) (x4 : Int32) (x5 : Int32) (hf : f_X3_areListeners_6 u x1 x2 x3  n x4 x5 = some r) : Sm p l e rmX3_areListeners s m args below meth c D A 7 0 0 (smQ below args s D A (some (.int r)) (wM cI cZ cO a u)) 6 [(0, .ref (a 0)), (1, .int x1), (2, .int x2), (3, .int x3), (4, .int x4), (5, .int x5)] [] (wM cI cZ cO a u) :=
  lq2_ind (P := fun (x4 : Int32) (x5 : Int32) => Sm p l e rmX3_areListeners s m args below meth c D A 7 0 0 (smQ below args s D A (some (.int r)) (wM cI cZ cO a u)) 6 [(0, .ref (a 0)), (1, .int x1), (2, .int x2), (3, .int x3), (4, .int x4), (5, .int x5)] [] (wM cI cZ cO a u)) (fun k6 hk6 x4 x5 h9 => s_X3_areListeners_6_b F u x1 x2 x3  k6 hk6 x4 x5 h9) n x4 x5 hf
set_option maxRecDepth 100000 in
set_option maxHeartbeats 4000000 in
theorem ct_X3_areListeners (l : Launch) (D : va_G) (cI cZ cO : ClassId) (a : Nat → Nat) {u : MS} {x1 : Int32} {x2 : Int32} {x3 : Int32} {r : Int32} (hf : f_X3_areListeners u x1 x2 x3 = some r) : Ct l yX3_areListeners (uw (Cond.code yX3_areListeners cX3_areListeners 7 (some .boolean))) rmX3_areListeners D (tyL cI cZ cO) E0 [.ref (a 0), .int x1, .int x2, .int x3] (wM cI cZ cO a u) (some (.int r)) (wM cI cZ cO a u) := by
  refine sm_start (cc := cX3_areListeners) (maxL := 7) (ret := (some .boolean)) (own := RX3) (by decide) rfl rfl (Nat.le_of_ble_eq_true rfl) (lv := [(0, .ref (a 0)), (1, .int x1), (2, .int x2), (3, .int x3)]) rfl ?_
  intro p e s m below meth c A F hE hA
  unfold f_X3_areListeners at hf
  refine sm_iconst F dX3_areListeners_0 kc_i_0 ?_
  refine sm_istore F [(0, .ref (a 0)), (1, .int x1), (2, .int x2), (3, .int x3), (4, .int (0 : Int32))] [1, 2, 3, 4, 0] dX3_areListeners_1 (by decide) rfl ?_
  refine sm_iconst F dX3_areListeners_3 kc_i_0 ?_
  refine sm_istore F [(0, .ref (a 0)), (1, .int x1), (2, .int x2), (3, .int x3), (4, .int (0 : Int32)), (5, .int (0 : Int32))] [1, 2, 3, 4, 5, 0] dX3_areListeners_4 (by decide) rfl ?_
  exact s_X3_areListeners_6 F u x1 x2 x3 smN (0 : Int32) (0 : Int32) hf
/-! SoManyForgotten$Mind.isKeptBy(IIII)Z -/
abbrev rmX3_isKeptBy : Room := { frames := 5, cells := 0, slots := 0, locals := 117 }
set_option maxRecDepth 100000 in
theorem hvX3_isKeptBy : yX3_isKeptBy.cls = RX3 ∧ yX3_isKeptBy.cls ≠ "java/lang/invoke/MethodHandle" ∧ yX3_isKeptBy.cls ≠ "java/lang/invoke/VarHandle" ∧ (parseMethodDescriptor yX3_isKeptBy.desc).map (fun d => d.parameters.length) = some 4 := by decide +kernel
set_option maxRecDepth 100000 in
set_option maxHeartbeats 4000000 in
theorem s_X3_isKeptBy_7_b {p : Program} {l : Launch} {e : Env} {s : State} {m : MethodId} {args : Array Value} {below : List Frame} {meth : Method} {c : Code} {A : Nat → Prop} {D : va_G} {cI cZ cO : ClassId} {a : Nat → Nat} {r : Int32} {o : MS} (F : smF p s m args meth c cX3_isKeptBy 6 (some .boolean) RX3 D (tyL cI cZ cO) A) (x1 : Int32) (x2 : Int32) (x3 : Int32) (x4 : Int32) (k7 : MS → Int32 → Option (Int32 × (MS))) (hk7 : ∀ (u' : MS) (x5' : Int32), k7 u' x5' = some (r, o) → Sm p l e rmX3_isKeptBy s m args below meth c D A 6 0 0 (smQ below args s D A (some (.int r)) (wM cI cZ cO a o)) 7 [(0, .ref (a 0)), (1, .int x1), (2, .int x2), (3, .int x3), (4, .int x4), (5, .int x5')] [] (wM cI cZ cO a u')) (u : MS) (x5 : Int32) (hf : b_X3_isKeptBy_7 x1 x2 x3 x4  k7 u x5 = some (r, o)) : Sm p l e rmX3_isKeptBy s m args below meth c D A 6 0 0 (smQ below args s D A (some (.int r)) (wM cI cZ cO a o)) 7 [(0, .ref (a 0)), (1, .int x1), (2, .int x2), (3, .int x3), (4, .int x4), (5, .int x5)] [] (wM cI cZ cO a u) := by
  unfold b_X3_isKeptBy_7 at hf
  refine sm_iload F dX3_isKeptBy_7 5 rfl ?_
  refine sm_iload_n F dX3_isKeptBy_9 rfl 3 rfl ?_
  refine sm_icmp_ge (tgt := 34) F dX3_isKeptBy_10 (by decide) (fun c10 => ?_) (fun c10 => ?_)
  · replace hf := if_t c10 hf
    refine sm_aload_n F dX3_isKeptBy_34 rfl 0 rfl ?_
    refine sm_get (v := .ref (a 12)) F inX3 0 rfl rfl 1 (by decide) qw1_134 rfl rfl dX3_isKeptBy_35 ?_
    refine sm_iload_n F dX3_isKeptBy_38 rfl 1 rfl ?_
    refine sm_iload_n F dX3_isKeptBy_39 rfl 2 rfl ?_
    obtain ⟨z40, hz40, hf⟩ := bd_some hf
    refine sm_callV (rest := []) F (ct_X8_keeps l D cI cZ cO (fun i => a (pm_M_v12 i)) hz40) (cut_M_v12 cI cZ cO a u z40.2) rfl rfl rfl qw4_1 qw4_2 qw4_3 qw1_8 qw4_4 hvX8_keeps ⟨Nat.le_of_ble_eq_true rfl, Nat.le_of_ble_eq_true rfl⟩ ⟨Nat.zero_le _, Nat.zero_le _⟩ 0 8 rfl rfl rfl rfl (Nat.le_of_ble_eq_true rfl) E0_b (fun _ _ _ _ _ _ => trivial) rfl dX3_isKeptBy_40 [.int z40.1] rfl ?_
    obtain ⟨h43, hf⟩ := zr_some hf
    exact sm_zret F dX3_isKeptBy_43 h43 (Prod.mk.inj (Option.some.inj hf)).1 (congrArg (fun z => (wM cI cZ cO a z)) (Prod.mk.inj (Option.some.inj hf)).2)
  · replace hf := if_f c10 hf
    refine sm_aload_n F dX3_isKeptBy_13 rfl 0 rfl ?_
    refine sm_get (v := .ref (a 12)) F inX3 0 rfl rfl 1 (by decide) qw1_134 rfl rfl dX3_isKeptBy_14 ?_
    refine sm_iload_n F dX3_isKeptBy_17 rfl 1 rfl ?_
    refine sm_iload F dX3_isKeptBy_18 4 rfl ?_
    refine sm_iload F dX3_isKeptBy_20 5 rfl ?_
    obtain ⟨z22, hz22, hf⟩ := bd_some hf
    refine sm_callS (rest := [.int x1, .ref (a 12)]) F (ct_X3_listenerAt l D (tyL cI cZ cO) hz22) (cut_M_none cI cZ cO a u) rfl rfl rfl qw3_234 qw3_235 qw1_9 qw3_236 hsX3_listenerAt ⟨Nat.le_of_ble_eq_true rfl, Nat.le_of_ble_eq_true rfl⟩ ⟨Nat.zero_le _, Nat.zero_le _⟩ rfl (Nat.le_of_ble_eq_true rfl) E0_b (fun _ _ _ _ _ _ => trivial) rfl dX3_isKeptBy_22 [.int z22, .int x1, .ref (a 12)] rfl ?_
    obtain ⟨z25, hz25, hf⟩ := bd_some hf
    refine sm_callV (rest := []) F (ct_X8_talk l D cI cZ cO (fun i => a (pm_M_v12 i)) hz25) (cut_M_v12 cI cZ cO a u z25) rfl rfl rfl qw3_221 qw2_197 qw2_198 qw1_8 qw2_199 hvX8_talk ⟨Nat.le_of_ble_eq_true rfl, Nat.le_of_ble_eq_true rfl⟩ ⟨Nat.zero_le _, Nat.zero_le _⟩ 0 8 rfl rfl rfl rfl (Nat.le_of_ble_eq_true rfl) E0_b (fun _ _ _ _ _ _ => trivial) rfl dX3_isKeptBy_25 [] rfl ?_
    refine sm_iinc F [(0, .ref (a 0)), (1, .int x1), (2, .int x2), (3, .int x3), (4, .int x4), (5, .int (x5 + 1))] 5 [1, 2, 3, 4, 5, 0] dX3_isKeptBy_28 rfl kc_i_1 (by decide) rfl ?_
    refine sm_goto (tgt := 7) F dX3_isKeptBy_31 (by decide) ?_
    exact hk7 (sM_then u z25) (x5 + 1) hf
set_option maxRecDepth 100000 in
set_option maxHeartbeats 4000000 in
theorem s_X3_isKeptBy_7 {p : Program} {l : Launch} {e : Env} {s : State} {m : MethodId} {args : Array Value} {below : List Frame} {meth : Method} {c : Code} {A : Nat → Prop} {D : va_G} {cI cZ cO : ClassId} {a : Nat → Nat} {r : Int32} {o : MS} (F : smF p s m args meth c cX3_isKeptBy 6 (some .boolean) RX3 D (tyL cI cZ cO) A) (x1 : Int32) (x2 : Int32) (x3 : Int32) (x4 : Int32)  (n : Nat) (u : MS) (x5 : Int32) (hf : f_X3_isKeptBy_7 x1 x2 x3 x4  n u x5 = some (r, o)) : Sm p l e rmX3_isKeptBy s m args below meth c D A 6 0 0 (smQ below args s D A (some (.int r)) (wM cI cZ cO a o)) 7 [(0, .ref (a 0)), (1, .int x1), (2, .int x2), (3, .int x3), (4, .int x4), (5, .int x5)] [] (wM cI cZ cO a u) :=
  lq2_ind (P := fun (u : MS) (x5 : Int32) => Sm p l e rmX3_isKeptBy s m args below meth c D A 6 0 0 (smQ below args s D A (some (.int r)) (wM cI cZ cO a o)) 7 [(0, .ref (a 0)), (1, .int x1), (2, .int x2), (3, .int x3), (4, .int x4), (5, .int x5)] [] (wM cI cZ cO a u)) (fun k7 hk7 u x5 h9 => s_X3_isKeptBy_7_b F x1 x2 x3 x4  k7 hk7 u x5 h9) n u x5 hf
set_option maxRecDepth 100000 in
set_option maxHeartbeats 4000000 in
theorem ct_X3_isKeptBy (l : Launch) (D : va_G) (cI cZ cO : ClassId) (a : Nat → Nat) {u : MS} {x1 : Int32} {x2 : Int32} {x3 : Int32} {x4 : Int32} {r : Int32} {o : MS} (hf : f_X3_isKeptBy u x1 x2 x3 x4 = some (r, o)) : Ct l yX3_isKeptBy (uw (Cond.code yX3_isKeptBy cX3_isKeptBy 6 (some .boolean))) rmX3_isKeptBy D (tyL cI cZ cO) E0 [.ref (a 0), .int x1, .int x2, .int x3, .int x4] (wM cI cZ cO a u) (some (.int r)) (wM cI cZ cO a o) := by
  refine sm_start (cc := cX3_isKeptBy) (maxL := 6) (ret := (some .boolean)) (own := RX3) (by decide) rfl rfl (Nat.le_of_ble_eq_true rfl) (lv := [(0, .ref (a 0)), (1, .int x1), (2, .int x2), (3, .int x3), (4, .int x4)]) rfl ?_
  intro p e s m below meth c A F hE hA
  unfold f_X3_isKeptBy at hf
  refine sm_aload_n F dX3_isKeptBy_0 rfl 0 rfl ?_
  obtain ⟨z1, hz1, hf⟩ := bd_some hf
  refine sm_callV (rest := []) F (ct_X3_startAgain l D cI cZ cO a hz1) (cut_M_id cI cZ cO a u z1) rfl rfl rfl qw3_150 qw3_152 qw0_18 qw1_9 qw3_153 hvX3_startAgain ⟨Nat.le_of_ble_eq_true rfl, Nat.le_of_ble_eq_true rfl⟩ ⟨Nat.zero_le _, Nat.zero_le _⟩ 0 3 rfl rfl rfl rfl (Nat.le_of_ble_eq_true rfl) E0_b (fun _ _ _ _ _ _ => trivial) rfl dX3_isKeptBy_1 [] rfl ?_
  refine sm_iconst F dX3_isKeptBy_4 kc_i_0 ?_
  refine sm_istore F [(0, .ref (a 0)), (1, .int x1), (2, .int x2), (3, .int x3), (4, .int x4), (5, .int (0 : Int32))] [1, 2, 3, 4, 5, 0] dX3_isKeptBy_5 (by decide) rfl ?_
  exact s_X3_isKeptBy_7 F x1 x2 x3 x4 smN z1 (0 : Int32) hf
/-! SoManyForgotten$Mind.fewestTimes(II)I -/
abbrev rmX3_fewestTimes : Room := { frames := 6, cells := 0, slots := 0, locals := 142 }
set_option maxRecDepth 100000 in
theorem hvX3_fewestTimes : yX3_fewestTimes.cls = RX3 ∧ yX3_fewestTimes.cls ≠ "java/lang/invoke/MethodHandle" ∧ yX3_fewestTimes.cls ≠ "java/lang/invoke/VarHandle" ∧ (parseMethodDescriptor yX3_fewestTimes.desc).map (fun d => d.parameters.length) = some 2 := by decide +kernel
set_option maxRecDepth 100000 in
set_option maxHeartbeats 4000000 in
theorem s_X3_fewestTimes_10_b {p : Program} {l : Launch} {e : Env} {s : State} {m : MethodId} {args : Array Value} {below : List Frame} {meth : Method} {c : Code} {A : Nat → Prop} {D : va_G} {cI cZ cO : ClassId} {a : Nat → Nat} {r : Int32} {o : MS} (F : smF p s m args meth c cX3_fewestTimes 5 (some .int) RX3 D (tyL cI cZ cO) A) (x1 : Int32) (x2 : Int32) (k2 : MS → Int32 → Option (Int32 × (MS))) (hk2 : ∀ (u' : MS) (x3' : Int32), k2 u' x3' = some (r, o) → Sm p l e rmX3_fewestTimes s m args below meth c D A 5 0 0 (smQ below args s D A (some (.int r)) (wM cI cZ cO a o)) 2 [(0, .ref (a 0)), (1, .int x1), (2, .int x2), (3, .int x3')] [] (wM cI cZ cO a u')) (k10 : MS → Int32 → Int32 → Option (Int32 × (MS))) (hk10 : ∀ (u' : MS) (x3' : Int32) (x4' : Int32), k10 u' x3' x4' = some (r, o) → Sm p l e rmX3_fewestTimes s m args below meth c D A 5 0 0 (smQ below args s D A (some (.int r)) (wM cI cZ cO a o)) 10 [(0, .ref (a 0)), (1, .int x1), (2, .int x2), (3, .int x3'), (4, .int x4')] [] (wM cI cZ cO a u')) (u : MS) (x3 : Int32) (x4 : Int32) (hf : b_X3_fewestTimes_10 x1 x2 k2 k10 u x3 x4 = some (r, o)) : Sm p l e rmX3_fewestTimes s m args below meth c D A 5 0 0 (smQ below args s D A (some (.int r)) (wM cI cZ cO a o)) 10 [(0, .ref (a 0)), (1, .int x1), (2, .int x2), (3, .int x3), (4, .int x4)] [] (wM cI cZ cO a u) := by
  unfold b_X3_fewestTimes_10 at hf
  refine sm_iload F dX3_fewestTimes_10 4 rfl ?_
  refine sm_iconst F dX3_fewestTimes_12 kc_i_1 ?_
  refine sm_iconst F dX3_fewestTimes_13 kc_i_3 ?_
  refine sm_iload_n F dX3_fewestTimes_14 rfl 3 rfl ?_
  refine sm_imul F dX3_fewestTimes_15 ?_
  refine sm_ishl F dX3_fewestTimes_16 ?_
  refine sm_icmp_ge (tgt := 51) F dX3_fewestTimes_17 (by decide) (fun c17 => ?_) (fun c17 => ?_)
  · replace hf := if_t c17 hf
    refine sm_iinc F [(0, .ref (a 0)), (1, .int x1), (2, .int x2), (3, .int (x3 + 1)), (4, .int x4)] 3 [1, 2, 3, 0, 4] dX3_fewestTimes_51 rfl kc_i_1 (by decide) rfl ?_
    refine sm_goto (tgt := 2) F dX3_fewestTimes_54 (by decide) ?_
    refine sm_sub (lv' := [(0, .ref (a 0)), (1, .int x1), (2, .int x2), (3, .int (x3 + 1))]) [0, 1, 2, 3] rfl ?_
    exact hk2 u (x3 + 1) hf
  · replace hf := if_f c17 hf
    refine sm_aload_n F dX3_fewestTimes_20 rfl 0 rfl ?_
    refine sm_iload_n F dX3_fewestTimes_21 rfl 1 rfl ?_
    refine sm_iload_n F dX3_fewestTimes_22 rfl 3 rfl ?_
    refine sm_iload F dX3_fewestTimes_23 4 rfl ?_
    obtain ⟨z25, hz25, hf⟩ := bd_some hf
    refine sm_callV (rest := []) F (ct_X3_areListeners l D cI cZ cO a hz25) (cut_M_id cI cZ cO a u u) rfl rfl rfl qw3_230 qw3_232 qw0_19 qw1_9 qw3_233 hvX3_areListeners ⟨Nat.le_of_ble_eq_true rfl, Nat.le_of_ble_eq_true rfl⟩ ⟨Nat.zero_le _, Nat.zero_le _⟩ 0 3 rfl rfl rfl rfl (Nat.le_of_ble_eq_true rfl) E0_b (fun _ _ _ _ _ _ => trivial) rfl dX3_fewestTimes_25 [.int z25] rfl ?_
    refine sm_if_eq (tgt := 45) F dX3_fewestTimes_28 (by decide) (fun c28 => ?_) (fun c28 => ?_)
    · replace hf := if_t c28 hf
      refine sm_iinc F [(0, .ref (a 0)), (1, .int x1), (2, .int x2), (3, .int x3), (4, .int (x4 + 1))] 4 [1, 2, 3, 4, 0] dX3_fewestTimes_45 rfl kc_i_1 (by decide) rfl ?_
      refine sm_goto (tgt := 10) F dX3_fewestTimes_48 (by decide) ?_
      exact hk10 u x3 (x4 + 1) hf
    · replace hf := if_f c28 hf
      refine sm_aload_n F dX3_fewestTimes_31 rfl 0 rfl ?_
      refine sm_iload_n F dX3_fewestTimes_32 rfl 1 rfl ?_
      refine sm_iload_n F dX3_fewestTimes_33 rfl 2 rfl ?_
      refine sm_iload_n F dX3_fewestTimes_34 rfl 3 rfl ?_
      refine sm_iload F dX3_fewestTimes_35 4 rfl ?_
      obtain ⟨z37, hz37, hf⟩ := bd_some hf
      refine sm_callV (rest := []) F (ct_X3_isKeptBy l D cI cZ cO a hz37) (cut_M_id cI cZ cO a u z37.2) rfl rfl rfl qw3_237 qw3_239 qw0_20 qw1_9 qw4_0 hvX3_isKeptBy ⟨Nat.le_of_ble_eq_true rfl, Nat.le_of_ble_eq_true rfl⟩ ⟨Nat.zero_le _, Nat.zero_le _⟩ 0 3 rfl rfl rfl rfl (Nat.le_of_ble_eq_true rfl) E0_b (fun _ _ _ _ _ _ => trivial) rfl dX3_fewestTimes_37 [.int z37.1] rfl ?_
      refine sm_if_eq (tgt := 45) F dX3_fewestTimes_40 (by decide) (fun c40 => ?_) (fun c40 => ?_)
      · replace hf := if_t c40 hf
        refine sm_iinc F [(0, .ref (a 0)), (1, .int x1), (2, .int x2), (3, .int x3), (4, .int (x4 + 1))] 4 [1, 2, 3, 4, 0] dX3_fewestTimes_45 rfl kc_i_1 (by decide) rfl ?_
        refine sm_goto (tgt := 10) F dX3_fewestTimes_48 (by decide) ?_
        exact hk10 z37.2 x3 (x4 + 1) hf
      · replace hf := if_f c40 hf
        refine sm_iload_n F dX3_fewestTimes_43 rfl 3 rfl ?_
        exact sm_iret F dX3_fewestTimes_44 (Prod.mk.inj (Option.some.inj hf)).1 (congrArg (fun z => (wM cI cZ cO a z)) (Prod.mk.inj (Option.some.inj hf)).2)
set_option maxRecDepth 100000 in
set_option maxHeartbeats 4000000 in
theorem s_X3_fewestTimes_10 {p : Program} {l : Launch} {e : Env} {s : State} {m : MethodId} {args : Array Value} {below : List Frame} {meth : Method} {c : Code} {A : Nat → Prop} {D : va_G} {cI cZ cO : ClassId} {a : Nat → Nat} {r : Int32} {o : MS} (F : smF p s m args meth c cX3_fewestTimes 5 (some .int) RX3 D (tyL cI cZ cO) A) (x1 : Int32) (x2 : Int32) (k2 : MS → Int32 → Option (Int32 × (MS))) (hk2 : ∀ (u' : MS) (x3' : Int32), k2 u' x3' = some (r, o) → Sm p l e rmX3_fewestTimes s m args below meth c D A 5 0 0 (smQ below args s D A (some (.int r)) (wM cI cZ cO a o)) 2 [(0, .ref (a 0)), (1, .int x1), (2, .int x2), (3, .int x3')] [] (wM cI cZ cO a u')) (n : Nat) (u : MS) (x3 : Int32) (x4 : Int32) (hf : f_X3_fewestTimes_10 x1 x2 k2 n u x3 x4 = some (r, o)) : Sm p l e rmX3_fewestTimes s m args below meth c D A 5 0 0 (smQ below args s D A (some (.int r)) (wM cI cZ cO a o)) 10 [(0, .ref (a 0)), (1, .int x1), (2, .int x2), (3, .int x3), (4, .int x4)] [] (wM cI cZ cO a u) :=
  lq3_ind (P := fun (u : MS) (x3 : Int32) (x4 : Int32) => Sm p l e rmX3_fewestTimes s m args below meth c D A 5 0 0 (smQ below args s D A (some (.int r)) (wM cI cZ cO a o)) 10 [(0, .ref (a 0)), (1, .int x1), (2, .int x2), (3, .int x3), (4, .int x4)] [] (wM cI cZ cO a u)) (fun k10 hk10 u x3 x4 h9 => s_X3_fewestTimes_10_b F x1 x2 k2 hk2 k10 hk10 u x3 x4 h9) n u x3 x4 hf
set_option maxRecDepth 100000 in
set_option maxHeartbeats 4000000 in
theorem s_X3_fewestTimes_2_b {p : Program} {l : Launch} {e : Env} {s : State} {m : MethodId} {args : Array Value} {below : List Frame} {meth : Method} {c : Code} {A : Nat → Prop} {D : va_G} {cI cZ cO : ClassId} {a : Nat → Nat} {r : Int32} {o : MS} (F : smF p s m args meth c cX3_fewestTimes 5 (some .int) RX3 D (tyL cI cZ cO) A) (x1 : Int32) (x2 : Int32) (k2 : MS → Int32 → Option (Int32 × (MS))) (hk2 : ∀ (u' : MS) (x3' : Int32), k2 u' x3' = some (r, o) → Sm p l e rmX3_fewestTimes s m args below meth c D A 5 0 0 (smQ below args s D A (some (.int r)) (wM cI cZ cO a o)) 2 [(0, .ref (a 0)), (1, .int x1), (2, .int x2), (3, .int x3')] [] (wM cI cZ cO a u')) (u : MS) (x3 : Int32) (hf : b_X3_fewestTimes_2 x1 x2  k2 u x3 = some (r, o)) : Sm p l e rmX3_fewestTimes s m args below meth c D A 5 0 0 (smQ below args s D A (some (.int r)) (wM cI cZ cO a o)) 2 [(0, .ref (a 0)), (1, .int x1), (2, .int x2), (3, .int x3)] [] (wM cI cZ cO a u) := by
  unfold b_X3_fewestTimes_2 at hf
  refine sm_iload_n F dX3_fewestTimes_2 rfl 3 rfl ?_
  refine sm_iconst F dX3_fewestTimes_3 kc_i_3 ?_
  refine sm_icmp_gt (tgt := 57) F dX3_fewestTimes_4 (by decide) (fun c4 => ?_) (fun c4 => ?_)
  · replace hf := if_t c4 hf
    refine sm_bipush F dX3_fewestTimes_57 kc_b_m9 ?_
    exact sm_iret F dX3_fewestTimes_59 (Prod.mk.inj (Option.some.inj hf)).1 (congrArg (fun z => (wM cI cZ cO a z)) (Prod.mk.inj (Option.some.inj hf)).2)
  · replace hf := if_f c4 hf
    refine sm_iconst F dX3_fewestTimes_7 kc_i_0 ?_
    refine sm_istore F [(0, .ref (a 0)), (1, .int x1), (2, .int x2), (3, .int x3), (4, .int (0 : Int32))] [1, 2, 3, 4, 0] dX3_fewestTimes_8 (by decide) rfl ?_
    exact s_X3_fewestTimes_10 F x1 x2 k2 hk2 smN u x3 (0 : Int32) hf
set_option maxRecDepth 100000 in
set_option maxHeartbeats 4000000 in
theorem s_X3_fewestTimes_2 {p : Program} {l : Launch} {e : Env} {s : State} {m : MethodId} {args : Array Value} {below : List Frame} {meth : Method} {c : Code} {A : Nat → Prop} {D : va_G} {cI cZ cO : ClassId} {a : Nat → Nat} {r : Int32} {o : MS} (F : smF p s m args meth c cX3_fewestTimes 5 (some .int) RX3 D (tyL cI cZ cO) A) (x1 : Int32) (x2 : Int32)  (n : Nat) (u : MS) (x3 : Int32) (hf : f_X3_fewestTimes_2 x1 x2  n u x3 = some (r, o)) : Sm p l e rmX3_fewestTimes s m args below meth c D A 5 0 0 (smQ below args s D A (some (.int r)) (wM cI cZ cO a o)) 2 [(0, .ref (a 0)), (1, .int x1), (2, .int x2), (3, .int x3)] [] (wM cI cZ cO a u) :=
  lq2_ind (P := fun (u : MS) (x3 : Int32) => Sm p l e rmX3_fewestTimes s m args below meth c D A 5 0 0 (smQ below args s D A (some (.int r)) (wM cI cZ cO a o)) 2 [(0, .ref (a 0)), (1, .int x1), (2, .int x2), (3, .int x3)] [] (wM cI cZ cO a u)) (fun k2 hk2 u x3 h9 => s_X3_fewestTimes_2_b F x1 x2  k2 hk2 u x3 h9) n u x3 hf
set_option maxRecDepth 100000 in
set_option maxHeartbeats 4000000 in
theorem ct_X3_fewestTimes (l : Launch) (D : va_G) (cI cZ cO : ClassId) (a : Nat → Nat) {u : MS} {x1 : Int32} {x2 : Int32} {r : Int32} {o : MS} (hf : f_X3_fewestTimes u x1 x2 = some (r, o)) : Ct l yX3_fewestTimes (uw (Cond.code yX3_fewestTimes cX3_fewestTimes 5 (some .int))) rmX3_fewestTimes D (tyL cI cZ cO) E0 [.ref (a 0), .int x1, .int x2] (wM cI cZ cO a u) (some (.int r)) (wM cI cZ cO a o) := by
  refine sm_start (cc := cX3_fewestTimes) (maxL := 5) (ret := (some .int)) (own := RX3) (by decide) rfl rfl (Nat.le_of_ble_eq_true rfl) (lv := [(0, .ref (a 0)), (1, .int x1), (2, .int x2)]) rfl ?_
  intro p e s m below meth c A F hE hA
  unfold f_X3_fewestTimes at hf
  refine sm_iconst F dX3_fewestTimes_0 kc_i_0 ?_
  refine sm_istore_n F [(0, .ref (a 0)), (1, .int x1), (2, .int x2), (3, .int (0 : Int32))] [1, 2, 3, 0] dX3_fewestTimes_1 rfl (by decide) rfl ?_
  exact s_X3_fewestTimes_2 F x1 x2 smN u (0 : Int32) hf
/-! SoManyForgotten$Mind.bestAsDog(I)I -/
abbrev rmX3_bestAsDog : Room := { frames := 6, cells := 0, slots := 0, locals := 137 }
set_option maxRecDepth 100000 in
theorem hvX3_bestAsDog : yX3_bestAsDog.cls = RX3 ∧ yX3_bestAsDog.cls ≠ "java/lang/invoke/MethodHandle" ∧ yX3_bestAsDog.cls ≠ "java/lang/invoke/VarHandle" ∧ (parseMethodDescriptor yX3_bestAsDog.desc).map (fun d => d.parameters.length) = some 1 := by decide +kernel
set_option maxRecDepth 100000 in
set_option maxHeartbeats 4000000 in
theorem s_X3_bestAsDog_15_b {p : Program} {l : Launch} {e : Env} {s : State} {m : MethodId} {args : Array Value} {below : List Frame} {meth : Method} {c : Code} {A : Nat → Prop} {D : va_G} {cI cZ cO : ClassId} {a : Nat → Nat} {r : Int32} {o : MS} (F : smF p s m args meth c cX3_bestAsDog 5 (some .int) RX3 D (tyL cI cZ cO) A) (x1 : Int32) (k15 : MS → Int32 → Int32 → Int32 → Option (Int32 × (MS))) (hk15 : ∀ (u' : MS) (x2' : Int32) (x3' : Int32) (x4' : Int32), k15 u' x2' x3' x4' = some (r, o) → Sm p l e rmX3_bestAsDog s m args below meth c D A 5 0 0 (smQ below args s D A (some (.int r)) (wM cI cZ cO a o)) 15 [(0, .ref (a 0)), (1, .int x1), (2, .int x2'), (3, .int x3'), (4, .int x4')] [] (wM cI cZ cO a u')) (u : MS) (x2 : Int32) (x3 : Int32) (x4 : Int32) (hf : b_X3_bestAsDog_15 x1  k15 u x2 x3 x4 = some (r, o)) : Sm p l e rmX3_bestAsDog s m args below meth c D A 5 0 0 (smQ below args s D A (some (.int r)) (wM cI cZ cO a o)) 15 [(0, .ref (a 0)), (1, .int x1), (2, .int x2), (3, .int x3), (4, .int x4)] [] (wM cI cZ cO a u) := by
  unfold b_X3_bestAsDog_15 at hf
  refine sm_iload F dX3_bestAsDog_15 4 rfl ?_
  refine sm_aload_n F dX3_bestAsDog_17 rfl 0 rfl ?_
  refine sm_get (v := .ref (a 6)) F inX3 0 rfl rfl 0 (by decide) qw1_133 rfl rfl dX3_bestAsDog_18 ?_
  refine sm_get (v := .int (gV_people (gM_now u))) F inX8 6 rfl rfl 6 (by decide) qw1_95 rfl rfl dX3_bestAsDog_21 ?_
  refine sm_icmp_ge (tgt := 91) F dX3_bestAsDog_24 (by decide) (fun c24 => ?_) (fun c24 => ?_)
  · replace hf := if_t c24 hf
    refine sm_iload_n F dX3_bestAsDog_91 rfl 2 rfl ?_
    exact sm_iret F dX3_bestAsDog_92 (Prod.mk.inj (Option.some.inj hf)).1 (congrArg (fun z => (wM cI cZ cO a z)) (Prod.mk.inj (Option.some.inj hf)).2)
  · replace hf := if_f c24 hf
    refine sm_aload_n F dX3_bestAsDog_27 rfl 0 rfl ?_
    refine sm_get (v := .ref (a 6)) F inX3 0 rfl rfl 0 (by decide) qw1_133 rfl rfl dX3_bestAsDog_28 ?_
    refine sm_get (v := .ref (a 10)) F inX8 6 rfl rfl 4 (by decide) qw1_91 rfl rfl dX3_bestAsDog_31 ?_
    refine sm_iload F dX3_bestAsDog_34 4 rfl ?_
    obtain ⟨h36, hf⟩ := ck_some hf
    refine sm_zald F 10 1 rfl rfl h36 dX3_bestAsDog_36 ?_
    refine sm_if_eq (tgt := 85) F dX3_bestAsDog_37 (by decide) (fun c37 => ?_) (fun c37 => ?_)
    · replace hf := if_t c37 hf
      refine sm_iinc F [(0, .ref (a 0)), (1, .int x1), (2, .int x2), (3, .int x3), (4, .int (x4 + 1))] 4 [1, 2, 3, 4, 0] dX3_bestAsDog_85 rfl kc_i_1 (by decide) rfl ?_
      refine sm_goto (tgt := 15) F dX3_bestAsDog_88 (by decide) ?_
      exact hk15 u x2 x3 (x4 + 1) hf
    · replace hf := if_f c37 hf
      refine sm_aload_n F dX3_bestAsDog_40 rfl 0 rfl ?_
      obtain ⟨z41, hz41, hf⟩ := bd_some hf
      refine sm_callV (rest := []) F (ct_X3_startAgain l D cI cZ cO a hz41) (cut_M_id cI cZ cO a u z41) rfl rfl rfl qw3_150 qw3_152 qw0_18 qw1_9 qw3_153 hvX3_startAgain ⟨Nat.le_of_ble_eq_true rfl, Nat.le_of_ble_eq_true rfl⟩ ⟨Nat.zero_le _, Nat.zero_le _⟩ 0 3 rfl rfl rfl rfl (Nat.le_of_ble_eq_true rfl) E0_b (fun _ _ _ _ _ _ => trivial) rfl dX3_bestAsDog_41 [] rfl ?_
      refine sm_aload_n F dX3_bestAsDog_44 rfl 0 rfl ?_
      refine sm_get (v := .ref (a 12)) F inX3 0 rfl rfl 1 (by decide) qw1_134 rfl rfl dX3_bestAsDog_45 ?_
      refine sm_get (v := .ref (a 13)) F inX8 12 rfl rfl 1 (by decide) qw1_81 rfl rfl dX3_bestAsDog_48 ?_
      refine sm_iload F dX3_bestAsDog_51 4 rfl ?_
      refine sm_iconst F dX3_bestAsDog_53 kc_i_4 ?_
      obtain ⟨h54, hf⟩ := ck_some hf
      refine sm_iast F 13 0 rfl rfl h54 (wM cI cZ cO a (sM_then z41 (sV_kind (gM_then z41) (upd (gV_kind (gM_then z41)) (Int32.toNatClampNeg x4) (4 : Int32))))) rfl dX3_bestAsDog_54 ?_
      refine sm_aload_n F dX3_bestAsDog_55 rfl 0 rfl ?_
      refine sm_get (v := .ref (a 12)) F inX3 0 rfl rfl 1 (by decide) qw1_134 rfl rfl dX3_bestAsDog_56 ?_
      refine sm_iload_n F dX3_bestAsDog_59 rfl 1 rfl ?_
      obtain ⟨z60, hz60, hf⟩ := bd_some hf
      refine sm_callV (rest := []) F (ct_X8_passWeeks l D cI cZ cO (fun i => a (pm_M_v12 i)) hz60) (cut_M_v12 cI cZ cO a (sM_then z41 (sV_kind (gM_then z41) (upd (gV_kind (gM_then z41)) (Int32.toNatClampNeg x4) (4 : Int32)))) z60) rfl rfl rfl qw3_155 qw3_138 qw3_139 qw1_8 qw3_140 hvX8_passWeeks ⟨Nat.le_of_ble_eq_true rfl, Nat.le_of_ble_eq_true rfl⟩ ⟨Nat.zero_le _, Nat.zero_le _⟩ 0 8 rfl rfl rfl rfl (Nat.le_of_ble_eq_true rfl) E0_b (fun _ _ _ _ _ _ => trivial) rfl dX3_bestAsDog_60 [] rfl ?_
      obtain ⟨u60, hu60, hf⟩ := bd_some hf
      refine sm_ws (ws' := (wM cI cZ cO a u60)) (congrArg (fun z => (wM cI cZ cO a z)) (Option.some.inj hu60)) ?_
      refine sm_aload_n F dX3_bestAsDog_63 rfl 0 rfl ?_
      refine sm_get (v := .ref (a 12)) F inX3 0 rfl rfl 1 (by decide) qw1_134 rfl rfl dX3_bestAsDog_64 ?_
      obtain ⟨z67, hz67, hf⟩ := bd_some hf
      refine sm_callV (rest := []) F (ct_X8_countHere l D cI cZ cO (fun i => a (pm_M_v12 i)) hz67) (cut_M_v12_ro cI cZ cO a u60) rfl rfl rfl qw4_14 qw3_111 qw3_112 qw1_8 qw3_113 hvX8_countHere ⟨Nat.le_of_ble_eq_true rfl, Nat.le_of_ble_eq_true rfl⟩ ⟨Nat.zero_le _, Nat.zero_le _⟩ 0 8 rfl rfl rfl rfl (Nat.le_of_ble_eq_true rfl) E0_b (fun _ _ _ _ _ _ => trivial) rfl dX3_bestAsDog_67 [.int z67] rfl ?_
      refine sm_iload_n F dX3_bestAsDog_70 rfl 3 rfl ?_
      refine sm_icmp_le (tgt := 85) F dX3_bestAsDog_71 (by decide) (fun c71 => ?_) (fun c71 => ?_)
      · replace hf := if_t c71 hf
        refine sm_iinc F [(0, .ref (a 0)), (1, .int x1), (2, .int x2), (3, .int x3), (4, .int (x4 + 1))] 4 [1, 2, 3, 4, 0] dX3_bestAsDog_85 rfl kc_i_1 (by decide) rfl ?_
        refine sm_goto (tgt := 15) F dX3_bestAsDog_88 (by decide) ?_
        exact hk15 u60 x2 x3 (x4 + 1) hf
      · replace hf := if_f c71 hf
        refine sm_iload F dX3_bestAsDog_74 4 rfl ?_
        refine sm_istore_n F [(0, .ref (a 0)), (1, .int x1), (2, .int x4), (4, .int x4)] [1, 2, 0, 4] dX3_bestAsDog_76 rfl (by decide) rfl ?_
        refine sm_aload_n F dX3_bestAsDog_77 rfl 0 rfl ?_
        refine sm_get (v := .ref (a 12)) F inX3 0 rfl rfl 1 (by decide) qw1_134 rfl rfl dX3_bestAsDog_78 ?_
        obtain ⟨z81, hz81, hf⟩ := bd_some hf
        refine sm_callV (rest := []) F (ct_X8_countHere l D cI cZ cO (fun i => a (pm_M_v12 i)) hz81) (cut_M_v12_ro cI cZ cO a u60) rfl rfl rfl qw4_14 qw3_111 qw3_112 qw1_8 qw3_113 hvX8_countHere ⟨Nat.le_of_ble_eq_true rfl, Nat.le_of_ble_eq_true rfl⟩ ⟨Nat.zero_le _, Nat.zero_le _⟩ 0 8 rfl rfl rfl rfl (Nat.le_of_ble_eq_true rfl) E0_b (fun _ _ _ _ _ _ => trivial) rfl dX3_bestAsDog_81 [.int z81] rfl ?_
        refine sm_istore_n F [(0, .ref (a 0)), (1, .int x1), (2, .int x4), (3, .int z81), (4, .int x4)] [1, 2, 3, 0, 4] dX3_bestAsDog_84 rfl (by decide) rfl ?_
        refine sm_iinc F [(0, .ref (a 0)), (1, .int x1), (2, .int x4), (3, .int z81), (4, .int (x4 + 1))] 4 [1, 2, 3, 4, 0] dX3_bestAsDog_85 rfl kc_i_1 (by decide) rfl ?_
        refine sm_goto (tgt := 15) F dX3_bestAsDog_88 (by decide) ?_
        exact hk15 u60 x4 z81 (x4 + 1) hf
set_option maxRecDepth 100000 in
set_option maxHeartbeats 4000000 in
theorem s_X3_bestAsDog_15 {p : Program} {l : Launch} {e : Env} {s : State} {m : MethodId} {args : Array Value} {below : List Frame} {meth : Method} {c : Code} {A : Nat → Prop} {D : va_G} {cI cZ cO : ClassId} {a : Nat → Nat} {r : Int32} {o : MS} (F : smF p s m args meth c cX3_bestAsDog 5 (some .int) RX3 D (tyL cI cZ cO) A) (x1 : Int32)  (n : Nat) (u : MS) (x2 : Int32) (x3 : Int32) (x4 : Int32) (hf : f_X3_bestAsDog_15 x1  n u x2 x3 x4 = some (r, o)) : Sm p l e rmX3_bestAsDog s m args below meth c D A 5 0 0 (smQ below args s D A (some (.int r)) (wM cI cZ cO a o)) 15 [(0, .ref (a 0)), (1, .int x1), (2, .int x2), (3, .int x3), (4, .int x4)] [] (wM cI cZ cO a u) :=
  lq4_ind (P := fun (u : MS) (x2 : Int32) (x3 : Int32) (x4 : Int32) => Sm p l e rmX3_bestAsDog s m args below meth c D A 5 0 0 (smQ below args s D A (some (.int r)) (wM cI cZ cO a o)) 15 [(0, .ref (a 0)), (1, .int x1), (2, .int x2), (3, .int x3), (4, .int x4)] [] (wM cI cZ cO a u)) (fun k15 hk15 u x2 x3 x4 h9 => s_X3_bestAsDog_15_b F x1  k15 hk15 u x2 x3 x4 h9) n u x2 x3 x4 hf
set_option maxRecDepth 100000 in
set_option maxHeartbeats 4000000 in
theorem ct_X3_bestAsDog (l : Launch) (D : va_G) (cI cZ cO : ClassId) (a : Nat → Nat) {u : MS} {x1 : Int32} {r : Int32} {o : MS} (hf : f_X3_bestAsDog u x1 = some (r, o)) : Ct l yX3_bestAsDog (uw (Cond.code yX3_bestAsDog cX3_bestAsDog 5 (some .int))) rmX3_bestAsDog D (tyL cI cZ cO) E0 [.ref (a 0), .int x1] (wM cI cZ cO a u) (some (.int r)) (wM cI cZ cO a o) := by
  refine sm_start (cc := cX3_bestAsDog) (maxL := 5) (ret := (some .int)) (own := RX3) (by decide) rfl rfl (Nat.le_of_ble_eq_true rfl) (lv := [(0, .ref (a 0)), (1, .int x1)]) rfl ?_
  intro p e s m below meth c A F hE hA
  unfold f_X3_bestAsDog at hf
  refine sm_bipush F dX3_bestAsDog_0 kc_b_m9 ?_
  refine sm_istore_n F [(0, .ref (a 0)), (1, .int x1), (2, .int ((-9) : Int32))] [1, 2, 0] dX3_bestAsDog_2 rfl (by decide) rfl ?_
  refine sm_aload_n F dX3_bestAsDog_3 rfl 0 rfl ?_
  refine sm_iload_n F dX3_bestAsDog_4 rfl 1 rfl ?_
  obtain ⟨z5, hz5, hf⟩ := bd_some hf
  refine sm_callV (rest := []) F (ct_X3_after l D cI cZ cO a hz5) (cut_M_id cI cZ cO a u z5) rfl rfl rfl qw4_13 qw3_147 qw3_148 qw1_9 qw3_149 hvX3_after ⟨Nat.le_of_ble_eq_true rfl, Nat.le_of_ble_eq_true rfl⟩ ⟨Nat.zero_le _, Nat.zero_le _⟩ 0 3 rfl rfl rfl rfl (Nat.le_of_ble_eq_true rfl) E0_b (fun _ _ _ _ _ _ => trivial) rfl dX3_bestAsDog_5 [.ref (a 12)] rfl ?_
  obtain ⟨z8, hz8, hf⟩ := bd_some hf
  refine sm_callV (rest := []) F (ct_X8_countHere l D cI cZ cO (fun i => a (pm_M_v12 i)) hz8) (cut_M_v12_ro cI cZ cO a z5) rfl rfl rfl qw4_14 qw3_111 qw3_112 qw1_8 qw3_113 hvX8_countHere ⟨Nat.le_of_ble_eq_true rfl, Nat.le_of_ble_eq_true rfl⟩ ⟨Nat.zero_le _, Nat.zero_le _⟩ 0 8 rfl rfl rfl rfl (Nat.le_of_ble_eq_true rfl) E0_b (fun _ _ _ _ _ _ => trivial) rfl dX3_bestAsDog_8 [.int z8] rfl ?_
  refine sm_istore_n F [(0, .ref (a 0)), (1, .int x1), (2, .int ((-9) : Int32)), (3, .int z8)] [1, 2, 3, 0] dX3_bestAsDog_11 rfl (by decide) rfl ?_
  refine sm_iconst F dX3_bestAsDog_12 kc_i_0 ?_
  refine sm_istore F [(0, .ref (a 0)), (1, .int x1), (2, .int ((-9) : Int32)), (3, .int z8), (4, .int (0 : Int32))] [1, 2, 3, 4, 0] dX3_bestAsDog_13 (by decide) rfl ?_
  exact s_X3_bestAsDog_15 F x1 smN z5 ((-9) : Int32) z8 (0 : Int32) hf
/-! SoManyForgotten$Mind.weeksIfBack(I)I -/
abbrev rmX3_weeksIfBack : Room := { frames := 5, cells := 0, slots := 0, locals := 116 }
set_option maxRecDepth 100000 in
theorem hvX3_weeksIfBack : yX3_weeksIfBack.cls = RX3 ∧ yX3_weeksIfBack.cls ≠ "java/lang/invoke/MethodHandle" ∧ yX3_weeksIfBack.cls ≠ "java/lang/invoke/VarHandle" ∧ (parseMethodDescriptor yX3_weeksIfBack.desc).map (fun d => d.parameters.length) = some 1 := by decide +kernel
set_option maxRecDepth 100000 in
set_option maxHeartbeats 4000000 in
theorem ct_X3_weeksIfBack (l : Launch) (D : va_G) (cI cZ cO : ClassId) (a : Nat → Nat) {u : MS} {x1 : Int32} {r : Int32} {o : MS} (hf : f_X3_weeksIfBack u x1 = some (r, o)) : Ct l yX3_weeksIfBack (uw (Cond.code yX3_weeksIfBack cX3_weeksIfBack 2 (some .int))) rmX3_weeksIfBack D (tyL cI cZ cO) E0 [.ref (a 0), .int x1] (wM cI cZ cO a u) (some (.int r)) (wM cI cZ cO a o) := by
  refine sm_start (cc := cX3_weeksIfBack) (maxL := 2) (ret := (some .int)) (own := RX3) (by decide) rfl rfl (Nat.le_of_ble_eq_true rfl) (lv := [(0, .ref (a 0)), (1, .int x1)]) rfl ?_
  intro p e s m below meth c A F hE hA
  unfold f_X3_weeksIfBack at hf
  refine sm_aload_n F dX3_weeksIfBack_0 rfl 0 rfl ?_
  obtain ⟨z1, hz1, hf⟩ := bd_some hf
  refine sm_callV (rest := []) F (ct_X3_startAgain l D cI cZ cO a hz1) (cut_M_id cI cZ cO a u z1) rfl rfl rfl qw3_150 qw3_152 qw0_18 qw1_9 qw3_153 hvX3_startAgain ⟨Nat.le_of_ble_eq_true rfl, Nat.le_of_ble_eq_true rfl⟩ ⟨Nat.zero_le _, Nat.zero_le _⟩ 0 3 rfl rfl rfl rfl (Nat.le_of_ble_eq_true rfl) E0_b (fun _ _ _ _ _ _ => trivial) rfl dX3_weeksIfBack_1 [] rfl ?_
  refine sm_aload_n F dX3_weeksIfBack_4 rfl 0 rfl ?_
  refine sm_get (v := .ref (a 12)) F inX3 0 rfl rfl 1 (by decide) qw1_134 rfl rfl dX3_weeksIfBack_5 ?_
  refine sm_iload_n F dX3_weeksIfBack_8 rfl 1 rfl ?_
  obtain ⟨z9, hz9, hf⟩ := bd_some hf
  refine sm_callV (rest := []) F (ct_X8_comeBack l D cI cZ cO (fun i => a (pm_M_v12 i)) hz9) (cut_M_v12 cI cZ cO a z1 z9) rfl rfl rfl qw4_27 qw2_209 qw2_210 qw1_8 qw2_211 hvX8_comeBack ⟨Nat.le_of_ble_eq_true rfl, Nat.le_of_ble_eq_true rfl⟩ ⟨Nat.zero_le _, Nat.zero_le _⟩ 0 8 rfl rfl rfl rfl (Nat.le_of_ble_eq_true rfl) E0_b (fun _ _ _ _ _ _ => trivial) rfl dX3_weeksIfBack_9 [] rfl ?_
  refine sm_bipush F dX3_weeksIfBack_12 kc_b_99 ?_
  refine sm_aload_n F dX3_weeksIfBack_14 rfl 0 rfl ?_
  refine sm_get (v := .ref (a 12)) F inX3 0 rfl rfl 1 (by decide) qw1_134 rfl rfl dX3_weeksIfBack_15 ?_
  refine sm_iload_n F dX3_weeksIfBack_18 rfl 1 rfl ?_
  obtain ⟨z19, hz19, hf⟩ := bd_some hf
  refine sm_callV (rest := [.int (99 : Int32)]) F (ct_X8_passUntilForgotten l D cI cZ cO (fun i => a (pm_M_v12 i)) hz19) (cut_M_v12 cI cZ cO a (sM_then z1 z9) z19.2) rfl rfl rfl qw3_176 qw3_177 qw3_178 qw1_8 qw3_179 hvX8_passUntilForgotten ⟨Nat.le_of_ble_eq_true rfl, Nat.le_of_ble_eq_true rfl⟩ ⟨Nat.zero_le _, Nat.zero_le _⟩ 0 8 rfl rfl rfl rfl (Nat.le_of_ble_eq_true rfl) E0_b (fun _ _ _ _ _ _ => trivial) rfl dX3_weeksIfBack_19 [.int z19.1, .int (99 : Int32)] rfl ?_
  refine sm_mmin F qw4_28 qw2_101 qw1_18 qw2_102 (Nat.le_of_ble_eq_true rfl) (Nat.le_of_ble_eq_true rfl) (Nat.zero_le _) (Nat.zero_le _) dX3_weeksIfBack_22 ?_
  exact sm_iret F dX3_weeksIfBack_25 (Prod.mk.inj (Option.some.inj hf)).1 (congrArg (fun z => (wM cI cZ cO a z)) (Prod.mk.inj (Option.some.inj hf)).2)
/-! SoManyForgotten$Mind.bestToBring()I -/
abbrev rmX3_bestToBring : Room := { frames := 6, cells := 0, slots := 0, locals := 137 }
set_option maxRecDepth 100000 in
theorem hvX3_bestToBring : yX3_bestToBring.cls = RX3 ∧ yX3_bestToBring.cls ≠ "java/lang/invoke/MethodHandle" ∧ yX3_bestToBring.cls ≠ "java/lang/invoke/VarHandle" ∧ (parseMethodDescriptor yX3_bestToBring.desc).map (fun d => d.parameters.length) = some 0 := by decide +kernel
set_option maxRecDepth 100000 in
set_option maxHeartbeats 4000000 in
theorem s_X3_bestToBring_7_b {p : Program} {l : Launch} {e : Env} {s : State} {m : MethodId} {args : Array Value} {below : List Frame} {meth : Method} {c : Code} {A : Nat → Prop} {D : va_G} {cI cZ cO : ClassId} {a : Nat → Nat} {r : Int32} {o : MS} (F : smF p s m args meth c cX3_bestToBring 5 (some .int) RX3 D (tyL cI cZ cO) A)  (k7 : MS → Int32 → Int32 → Int32 → Option (Int32 × (MS))) (hk7 : ∀ (u' : MS) (x1' : Int32) (x2' : Int32) (x3' : Int32), k7 u' x1' x2' x3' = some (r, o) → Sm p l e rmX3_bestToBring s m args below meth c D A 5 0 0 (smQ below args s D A (some (.int r)) (wM cI cZ cO a o)) 7 [(0, .ref (a 0)), (1, .int x1'), (2, .int x2'), (3, .int x3')] [] (wM cI cZ cO a u')) (u : MS) (x1 : Int32) (x2 : Int32) (x3 : Int32) (hf : b_X3_bestToBring_7   k7 u x1 x2 x3 = some (r, o)) : Sm p l e rmX3_bestToBring s m args below meth c D A 5 0 0 (smQ below args s D A (some (.int r)) (wM cI cZ cO a o)) 7 [(0, .ref (a 0)), (1, .int x1), (2, .int x2), (3, .int x3)] [] (wM cI cZ cO a u) := by
  unfold b_X3_bestToBring_7 at hf
  refine sm_iload_n F dX3_bestToBring_7 rfl 3 rfl ?_
  refine sm_aload_n F dX3_bestToBring_8 rfl 0 rfl ?_
  refine sm_get (v := .ref (a 6)) F inX3 0 rfl rfl 0 (by decide) qw1_133 rfl rfl dX3_bestToBring_9 ?_
  refine sm_get (v := .int (gV_people (gM_now u))) F inX8 6 rfl rfl 6 (by decide) qw1_95 rfl rfl dX3_bestToBring_12 ?_
  refine sm_icmp_ge (tgt := 60) F dX3_bestToBring_15 (by decide) (fun c15 => ?_) (fun c15 => ?_)
  · replace hf := if_t c15 hf
    refine sm_iload_n F dX3_bestToBring_60 rfl 1 rfl ?_
    exact sm_iret F dX3_bestToBring_61 (Prod.mk.inj (Option.some.inj hf)).1 (congrArg (fun z => (wM cI cZ cO a z)) (Prod.mk.inj (Option.some.inj hf)).2)
  · replace hf := if_f c15 hf
    refine sm_aload_n F dX3_bestToBring_18 rfl 0 rfl ?_
    refine sm_get (v := .ref (a 6)) F inX3 0 rfl rfl 0 (by decide) qw1_133 rfl rfl dX3_bestToBring_19 ?_
    refine sm_get (v := .ref (a 10)) F inX8 6 rfl rfl 4 (by decide) qw1_91 rfl rfl dX3_bestToBring_22 ?_
    refine sm_iload_n F dX3_bestToBring_25 rfl 3 rfl ?_
    obtain ⟨h26, hf⟩ := ck_some hf
    refine sm_zald F 10 1 rfl rfl h26 dX3_bestToBring_26 ?_
    refine sm_if_ne (tgt := 54) F dX3_bestToBring_27 (by decide) (fun c27 => ?_) (fun c27 => ?_)
    · replace hf := if_f c27 hf
      refine sm_iinc F [(0, .ref (a 0)), (1, .int x1), (2, .int x2), (3, .int (x3 + 1))] 3 [1, 2, 3, 0] dX3_bestToBring_54 rfl kc_i_1 (by decide) rfl ?_
      refine sm_goto (tgt := 7) F dX3_bestToBring_57 (by decide) ?_
      exact hk7 u x1 x2 (x3 + 1) hf
    · replace hf := if_t c27 hf
      refine sm_aload_n F dX3_bestToBring_30 rfl 0 rfl ?_
      refine sm_iload_n F dX3_bestToBring_31 rfl 3 rfl ?_
      obtain ⟨z32, hz32, hf⟩ := bd_some hf
      refine sm_callV (rest := []) F (ct_X3_weeksIfBack l D cI cZ cO a hz32) (cut_M_id cI cZ cO a u z32.2) rfl rfl rfl qw4_23 qw4_24 qw4_25 qw1_9 qw4_26 hvX3_weeksIfBack ⟨Nat.le_of_ble_eq_true rfl, Nat.le_of_ble_eq_true rfl⟩ ⟨Nat.zero_le _, Nat.zero_le _⟩ 0 3 rfl rfl rfl rfl (Nat.le_of_ble_eq_true rfl) E0_b (fun _ _ _ _ _ _ => trivial) rfl dX3_bestToBring_32 [.int z32.1] rfl ?_
      refine sm_istore F [(0, .ref (a 0)), (1, .int x1), (2, .int x2), (3, .int x3), (4, .int z32.1)] [1, 2, 3, 4, 0] dX3_bestToBring_35 (by decide) rfl ?_
      refine sm_iload_n F dX3_bestToBring_37 rfl 1 rfl ?_
      refine sm_bipush F dX3_bestToBring_38 kc_b_m9 ?_
      refine sm_icmp_eq (tgt := 49) F dX3_bestToBring_40 (by decide) (fun c40 => ?_) (fun c40 => ?_)
      · replace hf := if_t c40 hf
        refine sm_iload_n F dX3_bestToBring_49 rfl 3 rfl ?_
        refine sm_istore_n F [(0, .ref (a 0)), (1, .int x3), (3, .int x3), (4, .int z32.1)] [1, 0, 3, 4] dX3_bestToBring_50 rfl (by decide) rfl ?_
        refine sm_iload F dX3_bestToBring_51 3 rfl ?_
        refine sm_istore_n F [(0, .ref (a 0)), (1, .int x3), (2, .int z32.1), (3, .int x3)] [1, 2, 0, 3] dX3_bestToBring_53 rfl (by decide) rfl ?_
        refine sm_iinc F [(0, .ref (a 0)), (1, .int x3), (2, .int z32.1), (3, .int (x3 + 1))] 3 [1, 2, 3, 0] dX3_bestToBring_54 rfl kc_i_1 (by decide) rfl ?_
        refine sm_goto (tgt := 7) F dX3_bestToBring_57 (by decide) ?_
        exact hk7 z32.2 x3 z32.1 (x3 + 1) hf
      · replace hf := if_f c40 hf
        refine sm_iload F dX3_bestToBring_43 4 rfl ?_
        refine sm_iload_n F dX3_bestToBring_45 rfl 2 rfl ?_
        refine sm_icmp_le (tgt := 54) F dX3_bestToBring_46 (by decide) (fun c46 => ?_) (fun c46 => ?_)
        · replace hf := if_t c46 hf
          refine sm_iinc F [(0, .ref (a 0)), (1, .int x1), (2, .int x2), (3, .int (x3 + 1)), (4, .int z32.1)] 3 [1, 2, 3, 0, 4] dX3_bestToBring_54 rfl kc_i_1 (by decide) rfl ?_
          refine sm_goto (tgt := 7) F dX3_bestToBring_57 (by decide) ?_
          refine sm_sub (lv' := [(0, .ref (a 0)), (1, .int x1), (2, .int x2), (3, .int (x3 + 1))]) [0, 1, 2, 3] rfl ?_
          exact hk7 z32.2 x1 x2 (x3 + 1) hf
        · replace hf := if_f c46 hf
          refine sm_iload_n F dX3_bestToBring_49 rfl 3 rfl ?_
          refine sm_istore_n F [(0, .ref (a 0)), (1, .int x3), (3, .int x3), (4, .int z32.1)] [1, 0, 3, 4] dX3_bestToBring_50 rfl (by decide) rfl ?_
          refine sm_iload F dX3_bestToBring_51 3 rfl ?_
          refine sm_istore_n F [(0, .ref (a 0)), (1, .int x3), (2, .int z32.1), (3, .int x3)] [1, 2, 0, 3] dX3_bestToBring_53 rfl (by decide) rfl ?_
          refine sm_iinc F [(0, .ref (a 0)), (1, .int x3), (2, .int z32.1), (3, .int (x3 + 1))] 3 [1, 2, 3, 0] dX3_bestToBring_54 rfl kc_i_1 (by decide) rfl ?_
          refine sm_goto (tgt := 7) F dX3_bestToBring_57 (by decide) ?_
          exact hk7 z32.2 x3 z32.1 (x3 + 1) hf
set_option maxRecDepth 100000 in
set_option maxHeartbeats 4000000 in
theorem s_X3_bestToBring_7 {p : Program} {l : Launch} {e : Env} {s : State} {m : MethodId} {args : Array Value} {below : List Frame} {meth : Method} {c : Code} {A : Nat → Prop} {D : va_G} {cI cZ cO : ClassId} {a : Nat → Nat} {r : Int32} {o : MS} (F : smF p s m args meth c cX3_bestToBring 5 (some .int) RX3 D (tyL cI cZ cO) A)   (n : Nat) (u : MS) (x1 : Int32) (x2 : Int32) (x3 : Int32) (hf : f_X3_bestToBring_7   n u x1 x2 x3 = some (r, o)) : Sm p l e rmX3_bestToBring s m args below meth c D A 5 0 0 (smQ below args s D A (some (.int r)) (wM cI cZ cO a o)) 7 [(0, .ref (a 0)), (1, .int x1), (2, .int x2), (3, .int x3)] [] (wM cI cZ cO a u) :=
  lq4_ind (P := fun (u : MS) (x1 : Int32) (x2 : Int32) (x3 : Int32) => Sm p l e rmX3_bestToBring s m args below meth c D A 5 0 0 (smQ below args s D A (some (.int r)) (wM cI cZ cO a o)) 7 [(0, .ref (a 0)), (1, .int x1), (2, .int x2), (3, .int x3)] [] (wM cI cZ cO a u)) (fun k7 hk7 u x1 x2 x3 h9 => s_X3_bestToBring_7_b F   k7 hk7 u x1 x2 x3 h9) n u x1 x2 x3 hf
set_option maxRecDepth 100000 in
set_option maxHeartbeats 4000000 in
theorem ct_X3_bestToBring (l : Launch) (D : va_G) (cI cZ cO : ClassId) (a : Nat → Nat) {u : MS} {r : Int32} {o : MS} (hf : f_X3_bestToBring u = some (r, o)) : Ct l yX3_bestToBring (uw (Cond.code yX3_bestToBring cX3_bestToBring 5 (some .int))) rmX3_bestToBring D (tyL cI cZ cO) E0 [.ref (a 0)] (wM cI cZ cO a u) (some (.int r)) (wM cI cZ cO a o) := by
  refine sm_start (cc := cX3_bestToBring) (maxL := 5) (ret := (some .int)) (own := RX3) (by decide) rfl rfl (Nat.le_of_ble_eq_true rfl) (lv := [(0, .ref (a 0))]) rfl ?_
  intro p e s m below meth c A F hE hA
  unfold f_X3_bestToBring at hf
  refine sm_bipush F dX3_bestToBring_0 kc_b_m9 ?_
  refine sm_istore_n F [(0, .ref (a 0)), (1, .int ((-9) : Int32))] [1, 0] dX3_bestToBring_2 rfl (by decide) rfl ?_
  refine sm_iconst F dX3_bestToBring_3 kc_i_0 ?_
  refine sm_istore_n F [(0, .ref (a 0)), (1, .int ((-9) : Int32)), (2, .int (0 : Int32))] [1, 2, 0] dX3_bestToBring_4 rfl (by decide) rfl ?_
  refine sm_iconst F dX3_bestToBring_5 kc_i_0 ?_
  refine sm_istore_n F [(0, .ref (a 0)), (1, .int ((-9) : Int32)), (2, .int (0 : Int32)), (3, .int (0 : Int32))] [1, 2, 3, 0] dX3_bestToBring_6 rfl (by decide) rfl ?_
  exact s_X3_bestToBring_7 F  smN u ((-9) : Int32) (0 : Int32) (0 : Int32) hf
/-! SoManyForgotten$Mind.isLeague(I)Z -/
abbrev rmX3_isLeague : Room := { frames := 0, cells := 0, slots := 0, locals := 0 }
set_option maxRecDepth 100000 in
theorem hvX3_isLeague : yX3_isLeague.cls = RX3 ∧ yX3_isLeague.cls ≠ "java/lang/invoke/MethodHandle" ∧ yX3_isLeague.cls ≠ "java/lang/invoke/VarHandle" ∧ (parseMethodDescriptor yX3_isLeague.desc).map (fun d => d.parameters.length) = some 1 := by decide +kernel
set_option maxRecDepth 100000 in
set_option maxHeartbeats 4000000 in
theorem s_X3_isLeague_28 {p : Program} {l : Launch} {e : Env} {s : State} {m : MethodId} {args : Array Value} {below : List Frame} {meth : Method} {c : Code} {A : Nat → Prop} {D : va_G} {cI cZ cO : ClassId} {a : Nat → Nat} {r : Int32} (F : smF p s m args meth c cX3_isLeague 5 (some .boolean) RX3 D (tyL cI cZ cO) A) (u : MS) (x1 : Int32) (k2 : Int32 → Option Int32) (hk2 : ∀ (x2' : Int32), k2 x2' = some r → Sm p l e rmX3_isLeague s m args below meth c D A 5 0 0 (smQ below args s D A (some (.int r)) (wM cI cZ cO a u)) 2 [(0, .ref (a 0)), (1, .int x1), (2, .int x2')] [] (wM cI cZ cO a u)) (x2 : Int32) (x3 : Int32) (y0 : Int32) (hf : f_X3_isLeague_28 u x1 k2  x2 x3 y0 = some r) : Sm p l e rmX3_isLeague s m args below meth c D A 5 0 0 (smQ below args s D A (some (.int r)) (wM cI cZ cO a u)) 28 [(0, .ref (a 0)), (1, .int x1), (2, .int x2), (3, .int x3)] [.int y0] (wM cI cZ cO a u) := by
  unfold f_X3_isLeague_28 at hf
  refine sm_istore F [(0, .ref (a 0)), (1, .int x1), (2, .int x2), (3, .int x3), (4, .int y0)] [1, 2, 3, 4, 0] dX3_isLeague_28 (by decide) rfl ?_
  refine sm_iload F dX3_isLeague_30 4 rfl ?_
  refine sm_if_eq (tgt := 64) F dX3_isLeague_32 (by decide) (fun c32 => ?_) (fun c32 => ?_)
  · replace hf := if_t c32 hf
    refine sm_iinc F [(0, .ref (a 0)), (1, .int x1), (2, .int (x2 + 1)), (3, .int x3), (4, .int y0)] 2 [1, 2, 0, 3, 4] dX3_isLeague_64 rfl kc_i_1 (by decide) rfl ?_
    refine sm_goto (tgt := 2) F dX3_isLeague_67 (by decide) ?_
    refine sm_sub (lv' := [(0, .ref (a 0)), (1, .int x1), (2, .int (x2 + 1))]) [0, 1, 2] rfl ?_
    exact hk2 (x2 + 1) hf
  · replace hf := if_f c32 hf
    refine sm_aload_n F dX3_isLeague_35 rfl 0 rfl ?_
    refine sm_get (v := .ref (a 6)) F inX3 0 rfl rfl 0 (by decide) qw1_133 rfl rfl dX3_isLeague_36 ?_
    refine sm_get (v := .ref (a 10)) F inX8 6 rfl rfl 4 (by decide) qw1_91 rfl rfl dX3_isLeague_39 ?_
    refine sm_iload_n F dX3_isLeague_42 rfl 2 rfl ?_
    obtain ⟨h43, hf⟩ := ck_some hf
    refine sm_zald F 10 1 rfl rfl h43 dX3_isLeague_43 ?_
    refine sm_if_eq (tgt := 62) F dX3_isLeague_44 (by decide) (fun c44 => ?_) (fun c44 => ?_)
    · replace hf := if_t c44 hf
      refine sm_iconst F dX3_isLeague_62 kc_i_0 ?_
      exact sm_zret F dX3_isLeague_63 rfl (Option.some.inj hf) rfl
    · replace hf := if_f c44 hf
      refine sm_iload_n F dX3_isLeague_47 rfl 1 rfl ?_
      refine sm_aload_n F dX3_isLeague_48 rfl 0 rfl ?_
      refine sm_get (v := .ref (a 1)) F inX3 0 rfl rfl 3 (by decide) qw1_136 rfl rfl dX3_isLeague_49 ?_
      refine sm_iload_n F dX3_isLeague_52 rfl 2 rfl ?_
      obtain ⟨h53, hf⟩ := ck_some hf
      refine sm_iald F 1 0 rfl rfl h53 dX3_isLeague_53 ?_
      refine sm_iload_n F dX3_isLeague_54 rfl 3 rfl ?_
      refine sm_ior F dX3_isLeague_55 ?_
      refine sm_iconst F dX3_isLeague_56 kc_i_m1 ?_
      refine sm_ixor F dX3_isLeague_57 ?_
      refine sm_iand F dX3_isLeague_58 ?_
      refine sm_if_eq (tgt := 64) F dX3_isLeague_59 (by decide) (fun c59 => ?_) (fun c59 => ?_)
      · replace hf := if_t c59 hf
        refine sm_iinc F [(0, .ref (a 0)), (1, .int x1), (2, .int (x2 + 1)), (3, .int x3), (4, .int y0)] 2 [1, 2, 0, 3, 4] dX3_isLeague_64 rfl kc_i_1 (by decide) rfl ?_
        refine sm_goto (tgt := 2) F dX3_isLeague_67 (by decide) ?_
        refine sm_sub (lv' := [(0, .ref (a 0)), (1, .int x1), (2, .int (x2 + 1))]) [0, 1, 2] rfl ?_
        exact hk2 (x2 + 1) hf
      · replace hf := if_f c59 hf
        refine sm_iconst F dX3_isLeague_62 kc_i_0 ?_
        exact sm_zret F dX3_isLeague_63 rfl (Option.some.inj hf) rfl
set_option maxRecDepth 100000 in
set_option maxHeartbeats 4000000 in
theorem s_X3_isLeague_2_b {p : Program} {l : Launch} {e : Env} {s : State} {m : MethodId} {args : Array Value} {below : List Frame} {meth : Method} {c : Code} {A : Nat → Prop} {D : va_G} {cI cZ cO : ClassId} {a : Nat → Nat} {r : Int32} (F : smF p s m args meth c cX3_isLeague 5 (some .boolean) RX3 D (tyL cI cZ cO) A) (u : MS) (x1 : Int32) (k2 : Int32 → Option Int32) (hk2 : ∀ (x2' : Int32), k2 x2' = some r → Sm p l e rmX3_isLeague s m args below meth c D A 5 0 0 (smQ below args s D A (some (.int r)) (wM cI cZ cO a u)) 2 [(0, .ref (a 0)), (1, .int x1), (2, .int x2')] [] (wM cI cZ cO a u)) (x2 : Int32) (hf : b_X3_isLeague_2 u x1  k2 x2 = some r) : Sm p l e rmX3_isLeague s m args below meth c D A 5 0 0 (smQ below args s D A (some (.int r)) (wM cI cZ cO a u)) 2 [(0, .ref (a 0)), (1, .int x1), (2, .int x2)] [] (wM cI cZ cO a u) := by
  unfold b_X3_isLeague_2 at hf
  refine sm_iload_n F dX3_isLeague_2 rfl 2 rfl ?_
  refine sm_aload_n F dX3_isLeague_3 rfl 0 rfl ?_
  refine sm_get (v := .ref (a 6)) F inX3 0 rfl rfl 0 (by decide) qw1_133 rfl rfl dX3_isLeague_4 ?_
  refine sm_get (v := .int (gV_people (gM_now u))) F inX8 6 rfl rfl 6 (by decide) qw1_95 rfl rfl dX3_isLeague_7 ?_
  refine sm_icmp_ge (tgt := 70) F dX3_isLeague_10 (by decide) (fun c10 => ?_) (fun c10 => ?_)
  · replace hf := if_t c10 hf
    refine sm_iconst F dX3_isLeague_70 kc_i_1 ?_
    exact sm_zret F dX3_isLeague_71 rfl (Option.some.inj hf) rfl
  · replace hf := if_f c10 hf
    refine sm_iconst F dX3_isLeague_13 kc_i_1 ?_
    refine sm_iload_n F dX3_isLeague_14 rfl 2 rfl ?_
    refine sm_ishl F dX3_isLeague_15 ?_
    refine sm_istore_n F [(0, .ref (a 0)), (1, .int x1), (2, .int x2), (3, .int ((1 : Int32) <<< (x2 &&& 31)))] [1, 2, 3, 0] dX3_isLeague_16 rfl (by decide) rfl ?_
    refine sm_iload_n F dX3_isLeague_17 rfl 1 rfl ?_
    refine sm_iload_n F dX3_isLeague_18 rfl 3 rfl ?_
    refine sm_iand F dX3_isLeague_19 ?_
    refine sm_if_eq (tgt := 27) F dX3_isLeague_20 (by decide) (fun c20 => ?_) (fun c20 => ?_)
    · replace hf := if_t c20 hf
      refine sm_iconst F dX3_isLeague_27 kc_i_0 ?_
      exact s_X3_isLeague_28 F u x1 k2 hk2 x2 ((1 : Int32) <<< (x2 &&& 31)) (0 : Int32) hf
    · replace hf := if_f c20 hf
      refine sm_iconst F dX3_isLeague_23 kc_i_1 ?_
      refine sm_goto (tgt := 28) F dX3_isLeague_24 (by decide) ?_
      exact s_X3_isLeague_28 F u x1 k2 hk2 x2 ((1 : Int32) <<< (x2 &&& 31)) (1 : Int32) hf
set_option maxRecDepth 100000 in
set_option maxHeartbeats 4000000 in
theorem s_X3_isLeague_2 {p : Program} {l : Launch} {e : Env} {s : State} {m : MethodId} {args : Array Value} {below : List Frame} {meth : Method} {c : Code} {A : Nat → Prop} {D : va_G} {cI cZ cO : ClassId} {a : Nat → Nat} {r : Int32} (F : smF p s m args meth c cX3_isLeague 5 (some .boolean) RX3 D (tyL cI cZ cO) A) (u : MS) (x1 : Int32)  (n : Nat) (x2 : Int32) (hf : f_X3_isLeague_2 u x1  n x2 = some r) : Sm p l e rmX3_isLeague s m args below meth c D A 5 0 0 (smQ below args s D A (some (.int r)) (wM cI cZ cO a u)) 2 [(0, .ref (a 0)), (1, .int x1), (2, .int x2)] [] (wM cI cZ cO a u) :=
  lq1_ind (P := fun (x2 : Int32) => Sm p l e rmX3_isLeague s m args below meth c D A 5 0 0 (smQ below args s D A (some (.int r)) (wM cI cZ cO a u)) 2 [(0, .ref (a 0)), (1, .int x1), (2, .int x2)] [] (wM cI cZ cO a u)) (fun k2 hk2 x2 h9 => s_X3_isLeague_2_b F u x1  k2 hk2 x2 h9) n x2 hf
set_option maxRecDepth 100000 in
set_option maxHeartbeats 4000000 in
theorem ct_X3_isLeague (l : Launch) (D : va_G) (cI cZ cO : ClassId) (a : Nat → Nat) {u : MS} {x1 : Int32} {r : Int32} (hf : f_X3_isLeague u x1 = some r) : Ct l yX3_isLeague (uw (Cond.code yX3_isLeague cX3_isLeague 5 (some .boolean))) rmX3_isLeague D (tyL cI cZ cO) E0 [.ref (a 0), .int x1] (wM cI cZ cO a u) (some (.int r)) (wM cI cZ cO a u) := by
  refine sm_start (cc := cX3_isLeague) (maxL := 5) (ret := (some .boolean)) (own := RX3) (by decide) rfl rfl (Nat.le_of_ble_eq_true rfl) (lv := [(0, .ref (a 0)), (1, .int x1)]) rfl ?_
  intro p e s m below meth c A F hE hA
  unfold f_X3_isLeague at hf
  refine sm_iconst F dX3_isLeague_0 kc_i_0 ?_
  refine sm_istore_n F [(0, .ref (a 0)), (1, .int x1), (2, .int (0 : Int32))] [1, 2, 0] dX3_isLeague_1 rfl (by decide) rfl ?_
  exact s_X3_isLeague_2 F u x1 smN (0 : Int32) hf
/-! SoManyForgotten$Mind.largestLeague()I -/
abbrev rmX3_largestLeague : Room := { frames := 4, cells := 0, slots := 0, locals := 87 }
set_option maxRecDepth 100000 in
theorem hvX3_largestLeague : yX3_largestLeague.cls = RX3 ∧ yX3_largestLeague.cls ≠ "java/lang/invoke/MethodHandle" ∧ yX3_largestLeague.cls ≠ "java/lang/invoke/VarHandle" ∧ (parseMethodDescriptor yX3_largestLeague.desc).map (fun d => d.parameters.length) = some 0 := by decide +kernel
set_option maxRecDepth 100000 in
set_option maxHeartbeats 4000000 in
theorem s_X3_largestLeague_37_b {p : Program} {l : Launch} {e : Env} {s : State} {m : MethodId} {args : Array Value} {below : List Frame} {meth : Method} {c : Code} {A : Nat → Prop} {D : va_G} {cI cZ cO : ClassId} {a : Nat → Nat} {r : Int32} {o : MS} (F : smF p s m args meth c cX3_largestLeague 3 (some .int) RX3 D (tyL cI cZ cO) A)  (k37 : MS → Int32 → Int32 → Option (Int32 × (MS))) (hk37 : ∀ (u' : MS) (x1' : Int32) (x2' : Int32), k37 u' x1' x2' = some (r, o) → Sm p l e rmX3_largestLeague s m args below meth c D A 3 0 0 (smQ below args s D A (some (.int r)) (wM cI cZ cO a o)) 37 [(0, .ref (a 0)), (1, .int x1'), (2, .int x2')] [] (wM cI cZ cO a u')) (u : MS) (x1 : Int32) (x2 : Int32) (hf : b_X3_largestLeague_37   k37 u x1 x2 = some (r, o)) : Sm p l e rmX3_largestLeague s m args below meth c D A 3 0 0 (smQ below args s D A (some (.int r)) (wM cI cZ cO a o)) 37 [(0, .ref (a 0)), (1, .int x1), (2, .int x2)] [] (wM cI cZ cO a u) := by
  unfold b_X3_largestLeague_37 at hf
  refine sm_iload_n F dX3_largestLeague_37 rfl 2 rfl ?_
  refine sm_iconst F dX3_largestLeague_38 kc_i_1 ?_
  refine sm_aload_n F dX3_largestLeague_39 rfl 0 rfl ?_
  refine sm_get (v := .ref (a 6)) F inX3 0 rfl rfl 0 (by decide) qw1_133 rfl rfl dX3_largestLeague_40 ?_
  refine sm_get (v := .int (gV_people (gM_now u))) F inX8 6 rfl rfl 6 (by decide) qw1_95 rfl rfl dX3_largestLeague_43 ?_
  refine sm_ishl F dX3_largestLeague_46 ?_
  refine sm_icmp_ge (tgt := 77) F dX3_largestLeague_47 (by decide) (fun c47 => ?_) (fun c47 => ?_)
  · replace hf := if_t c47 hf
    refine sm_iload_n F dX3_largestLeague_77 rfl 1 rfl ?_
    exact sm_iret F dX3_largestLeague_78 (Prod.mk.inj (Option.some.inj hf)).1 (congrArg (fun z => (wM cI cZ cO a z)) (Prod.mk.inj (Option.some.inj hf)).2)
  · replace hf := if_f c47 hf
    refine sm_iload_n F dX3_largestLeague_50 rfl 2 rfl ?_
    obtain ⟨z51, hz51, hf⟩ := bd_some hf
    refine sm_callS (rest := []) F (ct_J6_bitCount_0f7a4 l D (tyL cI cZ cO) hz51) (cut_M_none cI cZ cO a u) rfl rfl rfl qw4_49 qw3_119 qw1_20 qw3_120 hsJ6_bitCount_0f7a4 ⟨Nat.le_of_ble_eq_true rfl, Nat.le_of_ble_eq_true rfl⟩ ⟨Nat.zero_le _, Nat.zero_le _⟩ rfl (Nat.le_of_ble_eq_true rfl) E0_b (fun _ _ _ _ _ _ => trivial) rfl dX3_largestLeague_51 [.int z51] rfl ?_
    refine sm_iload_n F dX3_largestLeague_54 rfl 1 rfl ?_
    obtain ⟨z55, hz55, hf⟩ := bd_some hf
    refine sm_callS (rest := [.int z51]) F (ct_J6_bitCount_0f7a4 l D (tyL cI cZ cO) hz55) (cut_M_none cI cZ cO a u) rfl rfl rfl qw4_49 qw3_119 qw1_20 qw3_120 hsJ6_bitCount_0f7a4 ⟨Nat.le_of_ble_eq_true rfl, Nat.le_of_ble_eq_true rfl⟩ ⟨Nat.zero_le _, Nat.zero_le _⟩ rfl (Nat.le_of_ble_eq_true rfl) E0_b (fun _ _ _ _ _ _ => trivial) rfl dX3_largestLeague_55 [.int z55, .int z51] rfl ?_
    refine sm_icmp_le (tgt := 71) F dX3_largestLeague_58 (by decide) (fun c58 => ?_) (fun c58 => ?_)
    · replace hf := if_t c58 hf
      refine sm_iinc F [(0, .ref (a 0)), (1, .int x1), (2, .int (x2 + 1))] 2 [1, 2, 0] dX3_largestLeague_71 rfl kc_i_1 (by decide) rfl ?_
      refine sm_goto (tgt := 37) F dX3_largestLeague_74 (by decide) ?_
      exact hk37 u x1 (x2 + 1) hf
    · replace hf := if_f c58 hf
      refine sm_aload_n F dX3_largestLeague_61 rfl 0 rfl ?_
      refine sm_iload_n F dX3_largestLeague_62 rfl 2 rfl ?_
      obtain ⟨z63, hz63, hf⟩ := bd_some hf
      refine sm_callV (rest := []) F (ct_X3_isLeague l D cI cZ cO a hz63) (cut_M_id cI cZ cO a u u) rfl rfl rfl qw4_50 qw4_52 qw0_21 qw1_9 qw4_53 hvX3_isLeague ⟨Nat.le_of_ble_eq_true rfl, Nat.le_of_ble_eq_true rfl⟩ ⟨Nat.zero_le _, Nat.zero_le _⟩ 0 3 rfl rfl rfl rfl (Nat.le_of_ble_eq_true rfl) E0_b (fun _ _ _ _ _ _ => trivial) rfl dX3_largestLeague_63 [.int z63] rfl ?_
      refine sm_if_eq (tgt := 71) F dX3_largestLeague_66 (by decide) (fun c66 => ?_) (fun c66 => ?_)
      · replace hf := if_t c66 hf
        refine sm_iinc F [(0, .ref (a 0)), (1, .int x1), (2, .int (x2 + 1))] 2 [1, 2, 0] dX3_largestLeague_71 rfl kc_i_1 (by decide) rfl ?_
        refine sm_goto (tgt := 37) F dX3_largestLeague_74 (by decide) ?_
        exact hk37 u x1 (x2 + 1) hf
      · replace hf := if_f c66 hf
        refine sm_iload_n F dX3_largestLeague_69 rfl 2 rfl ?_
        refine sm_istore_n F [(0, .ref (a 0)), (1, .int x2), (2, .int x2)] [1, 0, 2] dX3_largestLeague_70 rfl (by decide) rfl ?_
        refine sm_iinc F [(0, .ref (a 0)), (1, .int x2), (2, .int (x2 + 1))] 2 [1, 2, 0] dX3_largestLeague_71 rfl kc_i_1 (by decide) rfl ?_
        refine sm_goto (tgt := 37) F dX3_largestLeague_74 (by decide) ?_
        exact hk37 u x2 (x2 + 1) hf
set_option maxRecDepth 100000 in
set_option maxHeartbeats 4000000 in
theorem s_X3_largestLeague_37 {p : Program} {l : Launch} {e : Env} {s : State} {m : MethodId} {args : Array Value} {below : List Frame} {meth : Method} {c : Code} {A : Nat → Prop} {D : va_G} {cI cZ cO : ClassId} {a : Nat → Nat} {r : Int32} {o : MS} (F : smF p s m args meth c cX3_largestLeague 3 (some .int) RX3 D (tyL cI cZ cO) A)   (n : Nat) (u : MS) (x1 : Int32) (x2 : Int32) (hf : f_X3_largestLeague_37   n u x1 x2 = some (r, o)) : Sm p l e rmX3_largestLeague s m args below meth c D A 3 0 0 (smQ below args s D A (some (.int r)) (wM cI cZ cO a o)) 37 [(0, .ref (a 0)), (1, .int x1), (2, .int x2)] [] (wM cI cZ cO a u) :=
  lq3_ind (P := fun (u : MS) (x1 : Int32) (x2 : Int32) => Sm p l e rmX3_largestLeague s m args below meth c D A 3 0 0 (smQ below args s D A (some (.int r)) (wM cI cZ cO a o)) 37 [(0, .ref (a 0)), (1, .int x1), (2, .int x2)] [] (wM cI cZ cO a u)) (fun k37 hk37 u x1 x2 h9 => s_X3_largestLeague_37_b F   k37 hk37 u x1 x2 h9) n u x1 x2 hf
set_option maxRecDepth 100000 in
set_option maxHeartbeats 4000000 in
theorem s_X3_largestLeague_2_b {p : Program} {l : Launch} {e : Env} {s : State} {m : MethodId} {args : Array Value} {below : List Frame} {meth : Method} {c : Code} {A : Nat → Prop} {D : va_G} {cI cZ cO : ClassId} {a : Nat → Nat} {r : Int32} {o : MS} (F : smF p s m args meth c cX3_largestLeague 3 (some .int) RX3 D (tyL cI cZ cO) A)  (k2 : MS → Int32 → Option (Int32 × (MS))) (hk2 : ∀ (u' : MS) (x1' : Int32), k2 u' x1' = some (r, o) → Sm p l e rmX3_largestLeague s m args below meth c D A 3 0 0 (smQ below args s D A (some (.int r)) (wM cI cZ cO a o)) 2 [(0, .ref (a 0)), (1, .int x1')] [] (wM cI cZ cO a u')) (u : MS) (x1 : Int32) (hf : b_X3_largestLeague_2   k2 u x1 = some (r, o)) : Sm p l e rmX3_largestLeague s m args below meth c D A 3 0 0 (smQ below args s D A (some (.int r)) (wM cI cZ cO a o)) 2 [(0, .ref (a 0)), (1, .int x1)] [] (wM cI cZ cO a u) := by
  unfold b_X3_largestLeague_2 at hf
  refine sm_iload_n F dX3_largestLeague_2 rfl 1 rfl ?_
  refine sm_aload_n F dX3_largestLeague_3 rfl 0 rfl ?_
  refine sm_get (v := .ref (a 6)) F inX3 0 rfl rfl 0 (by decide) qw1_133 rfl rfl dX3_largestLeague_4 ?_
  refine sm_get (v := .int (gV_people (gM_now u))) F inX8 6 rfl rfl 6 (by decide) qw1_95 rfl rfl dX3_largestLeague_7 ?_
  refine sm_icmp_ge (tgt := 33) F dX3_largestLeague_10 (by decide) (fun c10 => ?_) (fun c10 => ?_)
  · replace hf := if_t c10 hf
    refine sm_iconst F dX3_largestLeague_33 kc_i_0 ?_
    refine sm_istore_n F [(0, .ref (a 0)), (1, .int (0 : Int32))] [1, 0] dX3_largestLeague_34 rfl (by decide) rfl ?_
    refine sm_iconst F dX3_largestLeague_35 kc_i_1 ?_
    refine sm_istore_n F [(0, .ref (a 0)), (1, .int (0 : Int32)), (2, .int (1 : Int32))] [1, 2, 0] dX3_largestLeague_36 rfl (by decide) rfl ?_
    exact s_X3_largestLeague_37 F  smN u (0 : Int32) (1 : Int32) hf
  · replace hf := if_f c10 hf
    refine sm_aload_n F dX3_largestLeague_13 rfl 0 rfl ?_
    refine sm_get (v := .ref (a 1)) F inX3 0 rfl rfl 3 (by decide) qw1_136 rfl rfl dX3_largestLeague_14 ?_
    refine sm_iload_n F dX3_largestLeague_17 rfl 1 rfl ?_
    refine sm_aload_n F dX3_largestLeague_18 rfl 0 rfl ?_
    refine sm_get (v := .ref (a 6)) F inX3 0 rfl rfl 0 (by decide) qw1_133 rfl rfl dX3_largestLeague_19 ?_
    refine sm_iload_n F dX3_largestLeague_22 rfl 1 rfl ?_
    obtain ⟨z23, hz23, hf⟩ := bd_some hf
    refine sm_callV (rest := [.int x1, .ref (a 1)]) F (ct_X8_leagueOf l D cI cZ cO (fun i => a (pm_M_v6 i)) hz23) (cut_M_v6_ro cI cZ cO a u) rfl rfl rfl qw4_48 qw4_35 qw4_36 qw1_8 qw4_37 hvX8_leagueOf ⟨Nat.le_of_ble_eq_true rfl, Nat.le_of_ble_eq_true rfl⟩ ⟨Nat.zero_le _, Nat.zero_le _⟩ 0 8 rfl rfl rfl rfl (Nat.le_of_ble_eq_true rfl) E0_b (fun _ _ _ _ _ _ => trivial) rfl dX3_largestLeague_23 [.int z23, .int x1, .ref (a 1)] rfl ?_
    obtain ⟨h26, hf⟩ := ck_some hf
    refine sm_iast F 1 0 rfl rfl h26 (wM cI cZ cO a (sM_lg u (upd (gM_lg u) (Int32.toNatClampNeg x1) z23))) rfl dX3_largestLeague_26 ?_
    refine sm_iinc F [(0, .ref (a 0)), (1, .int (x1 + 1))] 1 [1, 0] dX3_largestLeague_27 rfl kc_i_1 (by decide) rfl ?_
    refine sm_goto (tgt := 2) F dX3_largestLeague_30 (by decide) ?_
    exact hk2 (sM_lg u (upd (gM_lg u) (Int32.toNatClampNeg x1) z23)) (x1 + 1) hf
set_option maxRecDepth 100000 in
set_option maxHeartbeats 4000000 in
theorem s_X3_largestLeague_2 {p : Program} {l : Launch} {e : Env} {s : State} {m : MethodId} {args : Array Value} {below : List Frame} {meth : Method} {c : Code} {A : Nat → Prop} {D : va_G} {cI cZ cO : ClassId} {a : Nat → Nat} {r : Int32} {o : MS} (F : smF p s m args meth c cX3_largestLeague 3 (some .int) RX3 D (tyL cI cZ cO) A)   (n : Nat) (u : MS) (x1 : Int32) (hf : f_X3_largestLeague_2   n u x1 = some (r, o)) : Sm p l e rmX3_largestLeague s m args below meth c D A 3 0 0 (smQ below args s D A (some (.int r)) (wM cI cZ cO a o)) 2 [(0, .ref (a 0)), (1, .int x1)] [] (wM cI cZ cO a u) :=
  lq2_ind (P := fun (u : MS) (x1 : Int32) => Sm p l e rmX3_largestLeague s m args below meth c D A 3 0 0 (smQ below args s D A (some (.int r)) (wM cI cZ cO a o)) 2 [(0, .ref (a 0)), (1, .int x1)] [] (wM cI cZ cO a u)) (fun k2 hk2 u x1 h9 => s_X3_largestLeague_2_b F   k2 hk2 u x1 h9) n u x1 hf
set_option maxRecDepth 100000 in
set_option maxHeartbeats 4000000 in
theorem ct_X3_largestLeague (l : Launch) (D : va_G) (cI cZ cO : ClassId) (a : Nat → Nat) {u : MS} {r : Int32} {o : MS} (hf : f_X3_largestLeague u = some (r, o)) : Ct l yX3_largestLeague (uw (Cond.code yX3_largestLeague cX3_largestLeague 3 (some .int))) rmX3_largestLeague D (tyL cI cZ cO) E0 [.ref (a 0)] (wM cI cZ cO a u) (some (.int r)) (wM cI cZ cO a o) := by
  refine sm_start (cc := cX3_largestLeague) (maxL := 3) (ret := (some .int)) (own := RX3) (by decide) rfl rfl (Nat.le_of_ble_eq_true rfl) (lv := [(0, .ref (a 0))]) rfl ?_
  intro p e s m below meth c A F hE hA
  unfold f_X3_largestLeague at hf
  refine sm_iconst F dX3_largestLeague_0 kc_i_0 ?_
  refine sm_istore_n F [(0, .ref (a 0)), (1, .int (0 : Int32))] [1, 0] dX3_largestLeague_1 rfl (by decide) rfl ?_
  exact s_X3_largestLeague_2 F  smN u (0 : Int32) hf
/-! SoManyForgotten$Mind.powerOf(II)I -/
abbrev rmX3_powerOf : Room := { frames := 4, cells := 0, slots := 0, locals := 94 }
set_option maxRecDepth 100000 in
theorem hvX3_powerOf : yX3_powerOf.cls = RX3 ∧ yX3_powerOf.cls ≠ "java/lang/invoke/MethodHandle" ∧ yX3_powerOf.cls ≠ "java/lang/invoke/VarHandle" ∧ (parseMethodDescriptor yX3_powerOf.desc).map (fun d => d.parameters.length) = some 2 := by decide +kernel
set_option maxRecDepth 100000 in
set_option maxHeartbeats 4000000 in
theorem s_X3_powerOf_28_b {p : Program} {l : Launch} {e : Env} {s : State} {m : MethodId} {args : Array Value} {below : List Frame} {meth : Method} {c : Code} {A : Nat → Prop} {D : va_G} {cI cZ cO : ClassId} {a : Nat → Nat} {r : Int32} {o : MS} (F : smF p s m args meth c cX3_powerOf 5 (some .int) RX3 D (tyL cI cZ cO) A) (x2 : Int32) (k28 : MS → Int32 → Int32 → Option (Int32 × (MS))) (hk28 : ∀ (u' : MS) (x3' : Int32) (x4' : Int32), k28 u' x3' x4' = some (r, o) → Sm p l e rmX3_powerOf s m args below meth c D A 5 0 0 (smQ below args s D A (some (.int r)) (wM cI cZ cO a o)) 28 [(0, .ref (a 0)), (2, .int x2), (3, .int x3'), (4, .int x4')] [] (wM cI cZ cO a u')) (u : MS) (x3 : Int32) (x4 : Int32) (hf : b_X3_powerOf_28 x2  k28 u x3 x4 = some (r, o)) : Sm p l e rmX3_powerOf s m args below meth c D A 5 0 0 (smQ below args s D A (some (.int r)) (wM cI cZ cO a o)) 28 [(0, .ref (a 0)), (2, .int x2), (3, .int x3), (4, .int x4)] [] (wM cI cZ cO a u) := by
  unfold b_X3_powerOf_28 at hf
  refine sm_iload F dX3_powerOf_28 3 rfl ?_
  refine sm_iload_n F dX3_powerOf_30 rfl 1 rfl ?_
  refine sm_icmp_ge (tgt := 79) F dX3_powerOf_31 (by decide) (fun c31 => ?_) (fun c31 => ?_)
  · replace hf := if_t c31 hf
    refine sm_iload_n F dX3_powerOf_79 rfl 2 rfl ?_
    exact sm_iret F dX3_powerOf_80 (Prod.mk.inj (Option.some.inj hf)).1 (congrArg (fun z => (wM cI cZ cO a z)) (Prod.mk.inj (Option.some.inj hf)).2)
  · replace hf := if_f c31 hf
    refine sm_aload_n F dX3_powerOf_34 rfl 0 rfl ?_
    refine sm_get (v := .ref (a 12)) F inX3 0 rfl rfl 1 (by decide) qw1_134 rfl rfl dX3_powerOf_35 ?_
    obtain ⟨z38, hz38, hf⟩ := bd_some hf
    refine sm_callV (rest := []) F (ct_X8_passWeek l D cI cZ cO (fun i => a (pm_M_v12 i)) hz38) (cut_M_v12 cI cZ cO a u z38) rfl rfl rfl qw3_196 qw2_223 qw2_224 qw1_8 qw2_225 hvX8_passWeek ⟨Nat.le_of_ble_eq_true rfl, Nat.le_of_ble_eq_true rfl⟩ ⟨Nat.zero_le _, Nat.zero_le _⟩ 0 8 rfl rfl rfl rfl (Nat.le_of_ble_eq_true rfl) E0_b (fun _ _ _ _ _ _ => trivial) rfl dX3_powerOf_38 [] rfl ?_
    refine sm_aload_n F dX3_powerOf_41 rfl 0 rfl ?_
    refine sm_get (v := .ref (a 18)) F inX3 0 rfl rfl 2 (by decide) qw1_135 rfl rfl dX3_powerOf_42 ?_
    obtain ⟨z45, hz45, hf⟩ := bd_some hf
    refine sm_callV (rest := []) F (ct_X8_passWeek l D cI cZ cO (fun i => a (pm_M_v18 i)) hz45) (cut_M_v18 cI cZ cO a (sM_then u z38) z45) rfl rfl rfl qw3_196 qw2_223 qw2_224 qw1_8 qw2_225 hvX8_passWeek ⟨Nat.le_of_ble_eq_true rfl, Nat.le_of_ble_eq_true rfl⟩ ⟨Nat.zero_le _, Nat.zero_le _⟩ 0 8 rfl rfl rfl rfl (Nat.le_of_ble_eq_true rfl) E0_b (fun _ _ _ _ _ _ => trivial) rfl dX3_powerOf_45 [] rfl ?_
    refine sm_iload_n F dX3_powerOf_48 rfl 2 rfl ?_
    refine sm_aload_n F dX3_powerOf_49 rfl 0 rfl ?_
    refine sm_get (v := .ref (a 12)) F inX3 0 rfl rfl 1 (by decide) qw1_134 rfl rfl dX3_powerOf_50 ?_
    obtain ⟨z53, hz53, hf⟩ := bd_some hf
    refine sm_callV (rest := [.int x3]) F (ct_X8_leastKnown l D cI cZ cO (fun i => a (pm_M_v12 i)) hz53) (cut_M_v12_ro cI cZ cO a (sM_oth (sM_then u z38) z45)) rfl rfl rfl qw4_91 qw3_18 qw3_19 qw1_8 qw3_20 hvX8_leastKnown ⟨Nat.le_of_ble_eq_true rfl, Nat.le_of_ble_eq_true rfl⟩ ⟨Nat.zero_le _, Nat.zero_le _⟩ 0 8 rfl rfl rfl rfl (Nat.le_of_ble_eq_true rfl) E0_b (fun _ _ _ _ _ _ => trivial) rfl dX3_powerOf_53 [.int z53, .int x3] rfl ?_
    refine sm_aload_n F dX3_powerOf_56 rfl 0 rfl ?_
    refine sm_get (v := .ref (a 18)) F inX3 0 rfl rfl 2 (by decide) qw1_135 rfl rfl dX3_powerOf_57 ?_
    obtain ⟨z60, hz60, hf⟩ := bd_some hf
    refine sm_callV (rest := [.int z53, .int x3]) F (ct_X8_leastKnown l D cI cZ cO (fun i => a (pm_M_v18 i)) hz60) (cut_M_v18_ro cI cZ cO a (sM_oth (sM_then u z38) z45)) rfl rfl rfl qw4_91 qw3_18 qw3_19 qw1_8 qw3_20 hvX8_leastKnown ⟨Nat.le_of_ble_eq_true rfl, Nat.le_of_ble_eq_true rfl⟩ ⟨Nat.zero_le _, Nat.zero_le _⟩ 0 8 rfl rfl rfl rfl (Nat.le_of_ble_eq_true rfl) E0_b (fun _ _ _ _ _ _ => trivial) rfl dX3_powerOf_60 [.int z60, .int z53, .int x3] rfl ?_
    refine sm_icmp_eq (tgt := 70) F dX3_powerOf_63 (by decide) (fun c63 => ?_) (fun c63 => ?_)
    · replace hf := if_t c63 hf
      refine sm_iconst F dX3_powerOf_70 kc_i_0 ?_
      refine sm_iadd F dX3_powerOf_71 ?_
      refine sm_istore_n F [(0, .ref (a 0)), (2, .int x2), (3, .int (x3 + (0 : Int32))), (4, .int x4)] [1, 2, 0, 3] dX3_powerOf_72 rfl (by decide) rfl ?_
      refine sm_iinc F [(0, .ref (a 0)), (2, .int x2), (3, .int (x3 + (0 : Int32))), (4, .int (x4 + 1))] 3 [1, 2, 3, 0] dX3_powerOf_73 rfl kc_i_1 (by decide) rfl ?_
      refine sm_goto (tgt := 28) F dX3_powerOf_76 (by decide) ?_
      exact hk28 (sM_oth (sM_then u z38) z45) (x3 + (0 : Int32)) (x4 + 1) hf
    · replace hf := if_f c63 hf
      refine sm_iconst F dX3_powerOf_66 kc_i_1 ?_
      refine sm_goto (tgt := 71) F dX3_powerOf_67 (by decide) ?_
      refine sm_iadd F dX3_powerOf_71 ?_
      refine sm_istore_n F [(0, .ref (a 0)), (2, .int x2), (3, .int (x3 + (1 : Int32))), (4, .int x4)] [1, 2, 0, 3] dX3_powerOf_72 rfl (by decide) rfl ?_
      refine sm_iinc F [(0, .ref (a 0)), (2, .int x2), (3, .int (x3 + (1 : Int32))), (4, .int (x4 + 1))] 3 [1, 2, 3, 0] dX3_powerOf_73 rfl kc_i_1 (by decide) rfl ?_
      refine sm_goto (tgt := 28) F dX3_powerOf_76 (by decide) ?_
      exact hk28 (sM_oth (sM_then u z38) z45) (x3 + (1 : Int32)) (x4 + 1) hf
set_option maxRecDepth 100000 in
set_option maxHeartbeats 4000000 in
theorem s_X3_powerOf_28 {p : Program} {l : Launch} {e : Env} {s : State} {m : MethodId} {args : Array Value} {below : List Frame} {meth : Method} {c : Code} {A : Nat → Prop} {D : va_G} {cI cZ cO : ClassId} {a : Nat → Nat} {r : Int32} {o : MS} (F : smF p s m args meth c cX3_powerOf 5 (some .int) RX3 D (tyL cI cZ cO) A) (x2 : Int32)  (n : Nat) (u : MS) (x3 : Int32) (x4 : Int32) (hf : f_X3_powerOf_28 x2  n u x3 x4 = some (r, o)) : Sm p l e rmX3_powerOf s m args below meth c D A 5 0 0 (smQ below args s D A (some (.int r)) (wM cI cZ cO a o)) 28 [(0, .ref (a 0)), (2, .int x2), (3, .int x3), (4, .int x4)] [] (wM cI cZ cO a u) :=
  lq3_ind (P := fun (u : MS) (x3 : Int32) (x4 : Int32) => Sm p l e rmX3_powerOf s m args below meth c D A 5 0 0 (smQ below args s D A (some (.int r)) (wM cI cZ cO a o)) 28 [(0, .ref (a 0)), (2, .int x2), (3, .int x3), (4, .int x4)] [] (wM cI cZ cO a u)) (fun k28 hk28 u x3 x4 h9 => s_X3_powerOf_28_b F x2  k28 hk28 u x3 x4 h9) n u x3 x4 hf
set_option maxRecDepth 100000 in
set_option maxHeartbeats 4000000 in
theorem ct_X3_powerOf (l : Launch) (D : va_G) (cI cZ cO : ClassId) (a : Nat → Nat) {u : MS} {x1 : Int32} {x2 : Int32} {r : Int32} {o : MS} (hf : f_X3_powerOf u x1 x2 = some (r, o)) : Ct l yX3_powerOf (uw (Cond.code yX3_powerOf cX3_powerOf 5 (some .int))) rmX3_powerOf D (tyL cI cZ cO) E0 [.ref (a 0), .int x1, .int x2] (wM cI cZ cO a u) (some (.int r)) (wM cI cZ cO a o) := by
  refine sm_start (cc := cX3_powerOf) (maxL := 5) (ret := (some .int)) (own := RX3) (by decide) rfl rfl (Nat.le_of_ble_eq_true rfl) (lv := [(0, .ref (a 0)), (1, .int x1), (2, .int x2)]) rfl ?_
  intro p e s m below meth c A F hE hA
  unfold f_X3_powerOf at hf
  refine sm_aload_n F dX3_powerOf_0 rfl 0 rfl ?_
  obtain ⟨z1, hz1, hf⟩ := bd_some hf
  refine sm_callV (rest := []) F (ct_X3_startAgain l D cI cZ cO a hz1) (cut_M_id cI cZ cO a u z1) rfl rfl rfl qw3_150 qw3_152 qw0_18 qw1_9 qw3_153 hvX3_startAgain ⟨Nat.le_of_ble_eq_true rfl, Nat.le_of_ble_eq_true rfl⟩ ⟨Nat.zero_le _, Nat.zero_le _⟩ 0 3 rfl rfl rfl rfl (Nat.le_of_ble_eq_true rfl) E0_b (fun _ _ _ _ _ _ => trivial) rfl dX3_powerOf_1 [] rfl ?_
  refine sm_aload_n F dX3_powerOf_4 rfl 0 rfl ?_
  refine sm_get (v := .ref (a 18)) F inX3 0 rfl rfl 2 (by decide) qw1_135 rfl rfl dX3_powerOf_5 ?_
  refine sm_aload_n F dX3_powerOf_8 rfl 0 rfl ?_
  refine sm_get (v := .ref (a 6)) F inX3 0 rfl rfl 0 (by decide) qw1_133 rfl rfl dX3_powerOf_9 ?_
  obtain ⟨z12, hz12, hf⟩ := bd_some hf
  refine sm_callV (rest := []) F (ct_X8_copy l D cI cZ cO (fun i => a (pm_M_vv18_6 i)) hz12) (cut_M_vv18_6 cI cZ cO a z1 z12) rfl rfl rfl qw3_154 qw2_1 qw2_2 qw1_8 qw2_3 hvX8_copy ⟨Nat.le_of_ble_eq_true rfl, Nat.le_of_ble_eq_true rfl⟩ ⟨Nat.zero_le _, Nat.zero_le _⟩ 0 8 rfl rfl rfl rfl (Nat.le_of_ble_eq_true rfl) E0_b (fun _ _ _ _ _ _ => trivial) rfl dX3_powerOf_12 [] rfl ?_
  refine sm_aload_n F dX3_powerOf_15 rfl 0 rfl ?_
  refine sm_get (v := .ref (a 18)) F inX3 0 rfl rfl 2 (by decide) qw1_135 rfl rfl dX3_powerOf_16 ?_
  refine sm_iload_n F dX3_powerOf_19 rfl 1 rfl ?_
  obtain ⟨z20, hz20, hf⟩ := bd_some hf
  refine sm_callV (rest := []) F (ct_X8_forgetOthers l D cI cZ cO (fun i => a (pm_M_v18 i)) hz20) (cut_M_v18 cI cZ cO a (sM_now (sM_oth z1 z12.1) z12.2) z20) rfl rfl rfl qw4_87 qw4_88 qw4_89 qw1_8 qw4_90 hvX8_forgetOthers ⟨Nat.le_of_ble_eq_true rfl, Nat.le_of_ble_eq_true rfl⟩ ⟨Nat.zero_le _, Nat.zero_le _⟩ 0 8 rfl rfl rfl rfl (Nat.le_of_ble_eq_true rfl) E0_b (fun _ _ _ _ _ _ => trivial) rfl dX3_powerOf_20 [] rfl ?_
  refine sm_iconst F dX3_powerOf_23 kc_i_0 ?_
  refine sm_istore_n F [(0, .ref (a 0)), (2, .int x2), (3, .int (0 : Int32))] [1, 3, 0] dX3_powerOf_24 rfl (by decide) rfl ?_
  refine sm_iconst F dX3_powerOf_25 kc_i_0 ?_
  refine sm_istore F [(0, .ref (a 0)), (2, .int x2), (3, .int (0 : Int32)), (4, .int (0 : Int32))] [1, 2, 3, 0] dX3_powerOf_26 (by decide) rfl ?_
  exact s_X3_powerOf_28 F x2 smN (sM_oth (sM_now (sM_oth z1 z12.1) z12.2) z20) (0 : Int32) (0 : Int32) hf
/-! SoManyForgotten$Mind.debtsVoid(I)I -/
abbrev rmX3_debtsVoid : Room := { frames := 6, cells := 0, slots := 0, locals := 137 }
set_option maxRecDepth 100000 in
theorem hvX3_debtsVoid : yX3_debtsVoid.cls = RX3 ∧ yX3_debtsVoid.cls ≠ "java/lang/invoke/MethodHandle" ∧ yX3_debtsVoid.cls ≠ "java/lang/invoke/VarHandle" ∧ (parseMethodDescriptor yX3_debtsVoid.desc).map (fun d => d.parameters.length) = some 1 := by decide +kernel
set_option maxRecDepth 100000 in
set_option maxHeartbeats 4000000 in
theorem s_X3_debtsVoid_24_b {p : Program} {l : Launch} {e : Env} {s : State} {m : MethodId} {args : Array Value} {below : List Frame} {meth : Method} {c : Code} {A : Nat → Prop} {D : va_G} {cI cZ cO : ClassId} {a : Nat → Nat} {r : Int32} {o : MS} (F : smF p s m args meth c cX3_debtsVoid 5 (some .int) RX3 D (tyL cI cZ cO) A)  (k24 : MS → Int32 → Int32 → Int32 → Option (Int32 × (MS))) (hk24 : ∀ (u' : MS) (x2' : Int32) (x3' : Int32) (x4' : Int32), k24 u' x2' x3' x4' = some (r, o) → Sm p l e rmX3_debtsVoid s m args below meth c D A 5 0 0 (smQ below args s D A (some (.int r)) (wM cI cZ cO a o)) 24 [(0, .ref (a 0)), (2, .int x2'), (3, .int x3'), (4, .int x4')] [] (wM cI cZ cO a u')) (u : MS) (x2 : Int32) (x3 : Int32) (x4 : Int32) (hf : b_X3_debtsVoid_24   k24 u x2 x3 x4 = some (r, o)) : Sm p l e rmX3_debtsVoid s m args below meth c D A 5 0 0 (smQ below args s D A (some (.int r)) (wM cI cZ cO a o)) 24 [(0, .ref (a 0)), (2, .int x2), (3, .int x3), (4, .int x4)] [] (wM cI cZ cO a u) := by
  unfold b_X3_debtsVoid_24 at hf
  refine sm_iload F dX3_debtsVoid_24 3 rfl ?_
  refine sm_aload_n F dX3_debtsVoid_26 rfl 0 rfl ?_
  refine sm_get (v := .ref (a 6)) F inX3 0 rfl rfl 0 (by decide) qw1_133 rfl rfl dX3_debtsVoid_27 ?_
  refine sm_get (v := .int (gV_people (gM_now u))) F inX8 6 rfl rfl 6 (by decide) qw1_95 rfl rfl dX3_debtsVoid_30 ?_
  refine sm_icmp_ge (tgt := 69) F dX3_debtsVoid_33 (by decide) (fun c33 => ?_) (fun c33 => ?_)
  · replace hf := if_t c33 hf
    refine sm_iload_n F dX3_debtsVoid_69 rfl 2 rfl ?_
    exact sm_iret F dX3_debtsVoid_70 (Prod.mk.inj (Option.some.inj hf)).1 (congrArg (fun z => (wM cI cZ cO a z)) (Prod.mk.inj (Option.some.inj hf)).2)
  · replace hf := if_f c33 hf
    refine sm_iload_n F dX3_debtsVoid_36 rfl 2 rfl ?_
    refine sm_iload_n F dX3_debtsVoid_37 rfl 1 rfl ?_
    refine sm_iload F dX3_debtsVoid_38 3 rfl ?_
    refine sm_ishr F dX3_debtsVoid_40 ?_
    refine sm_iconst F dX3_debtsVoid_41 kc_i_1 ?_
    refine sm_iand F dX3_debtsVoid_42 ?_
    refine sm_iconst F dX3_debtsVoid_43 kc_i_1 ?_
    refine sm_icmp_ne (tgt := 60) F dX3_debtsVoid_44 (by decide) (fun c44 => ?_) (fun c44 => ?_)
    · replace hf := if_f c44 hf
      refine sm_iconst F dX3_debtsVoid_60 kc_i_0 ?_
      refine sm_iadd F dX3_debtsVoid_61 ?_
      refine sm_istore_n F [(0, .ref (a 0)), (2, .int x2), (3, .int (x3 + (0 : Int32))), (4, .int x4)] [1, 2, 0, 3] dX3_debtsVoid_62 rfl (by decide) rfl ?_
      refine sm_iinc F [(0, .ref (a 0)), (2, .int x2), (3, .int (x3 + (0 : Int32))), (4, .int (x4 + 1))] 3 [1, 2, 3, 0] dX3_debtsVoid_63 rfl kc_i_1 (by decide) rfl ?_
      refine sm_goto (tgt := 24) F dX3_debtsVoid_66 (by decide) ?_
      exact hk24 u x2 (x3 + (0 : Int32)) (x4 + 1) hf
    · replace hf := if_t c44 hf
      refine sm_aload_n F dX3_debtsVoid_47 rfl 0 rfl ?_
      refine sm_get (v := .ref (a 6)) F inX3 0 rfl rfl 0 (by decide) qw1_133 rfl rfl dX3_debtsVoid_48 ?_
      refine sm_get (v := .ref (a 9)) F inX8 6 rfl rfl 3 (by decide) qw1_88 rfl rfl dX3_debtsVoid_51 ?_
      refine sm_iload F dX3_debtsVoid_54 3 rfl ?_
      obtain ⟨h56, hf⟩ := ck_some hf
      refine sm_iald F 9 0 rfl rfl h56 dX3_debtsVoid_56 ?_
      refine sm_goto (tgt := 61) F dX3_debtsVoid_57 (by decide) ?_
      refine sm_iadd F dX3_debtsVoid_61 ?_
      refine sm_istore_n F [(0, .ref (a 0)), (2, .int x2), (3, .int (x3 + ((gV_owed (gM_now u)) (Int32.toNatClampNeg x4)))), (4, .int x4)] [1, 2, 0, 3] dX3_debtsVoid_62 rfl (by decide) rfl ?_
      refine sm_iinc F [(0, .ref (a 0)), (2, .int x2), (3, .int (x3 + ((gV_owed (gM_now u)) (Int32.toNatClampNeg x4)))), (4, .int (x4 + 1))] 3 [1, 2, 3, 0] dX3_debtsVoid_63 rfl kc_i_1 (by decide) rfl ?_
      refine sm_goto (tgt := 24) F dX3_debtsVoid_66 (by decide) ?_
      exact hk24 u x2 (x3 + ((gV_owed (gM_now u)) (Int32.toNatClampNeg x4))) (x4 + 1) hf
set_option maxRecDepth 100000 in
set_option maxHeartbeats 4000000 in
theorem s_X3_debtsVoid_24 {p : Program} {l : Launch} {e : Env} {s : State} {m : MethodId} {args : Array Value} {below : List Frame} {meth : Method} {c : Code} {A : Nat → Prop} {D : va_G} {cI cZ cO : ClassId} {a : Nat → Nat} {r : Int32} {o : MS} (F : smF p s m args meth c cX3_debtsVoid 5 (some .int) RX3 D (tyL cI cZ cO) A)   (n : Nat) (u : MS) (x2 : Int32) (x3 : Int32) (x4 : Int32) (hf : f_X3_debtsVoid_24   n u x2 x3 x4 = some (r, o)) : Sm p l e rmX3_debtsVoid s m args below meth c D A 5 0 0 (smQ below args s D A (some (.int r)) (wM cI cZ cO a o)) 24 [(0, .ref (a 0)), (2, .int x2), (3, .int x3), (4, .int x4)] [] (wM cI cZ cO a u) :=
  lq4_ind (P := fun (u : MS) (x2 : Int32) (x3 : Int32) (x4 : Int32) => Sm p l e rmX3_debtsVoid s m args below meth c D A 5 0 0 (smQ below args s D A (some (.int r)) (wM cI cZ cO a o)) 24 [(0, .ref (a 0)), (2, .int x2), (3, .int x3), (4, .int x4)] [] (wM cI cZ cO a u)) (fun k24 hk24 u x2 x3 x4 h9 => s_X3_debtsVoid_24_b F   k24 hk24 u x2 x3 x4 h9) n u x2 x3 x4 hf
set_option maxRecDepth 100000 in
set_option maxHeartbeats 4000000 in
theorem ct_X3_debtsVoid (l : Launch) (D : va_G) (cI cZ cO : ClassId) (a : Nat → Nat) {u : MS} {x1 : Int32} {r : Int32} {o : MS} (hf : f_X3_debtsVoid u x1 = some (r, o)) : Ct l yX3_debtsVoid (uw (Cond.code yX3_debtsVoid cX3_debtsVoid 5 (some .int))) rmX3_debtsVoid D (tyL cI cZ cO) E0 [.ref (a 0), .int x1] (wM cI cZ cO a u) (some (.int r)) (wM cI cZ cO a o) := by
  refine sm_start (cc := cX3_debtsVoid) (maxL := 5) (ret := (some .int)) (own := RX3) (by decide) rfl rfl (Nat.le_of_ble_eq_true rfl) (lv := [(0, .ref (a 0)), (1, .int x1)]) rfl ?_
  intro p e s m below meth c A F hE hA
  unfold f_X3_debtsVoid at hf
  refine sm_aload_n F dX3_debtsVoid_0 rfl 0 rfl ?_
  refine sm_get (v := .ref (a 6)) F inX3 0 rfl rfl 0 (by decide) qw1_133 rfl rfl dX3_debtsVoid_1 ?_
  obtain ⟨z4, hz4, hf⟩ := bd_some hf
  refine sm_callV (rest := []) F (ct_X8_hereBits l D cI cZ cO (fun i => a (pm_M_v6 i)) hz4) (cut_M_v6_ro cI cZ cO a u) rfl rfl rfl qw3_195 qw3_115 qw3_116 qw1_8 qw3_117 hvX8_hereBits ⟨Nat.le_of_ble_eq_true rfl, Nat.le_of_ble_eq_true rfl⟩ ⟨Nat.zero_le _, Nat.zero_le _⟩ 0 8 rfl rfl rfl rfl (Nat.le_of_ble_eq_true rfl) E0_b (fun _ _ _ _ _ _ => trivial) rfl dX3_debtsVoid_4 [.int z4] rfl ?_
  refine sm_aload_n F dX3_debtsVoid_7 rfl 0 rfl ?_
  refine sm_iload_n F dX3_debtsVoid_8 rfl 1 rfl ?_
  obtain ⟨z9, hz9, hf⟩ := bd_some hf
  refine sm_callV (rest := [.int z4]) F (ct_X3_after l D cI cZ cO a hz9) (cut_M_id cI cZ cO a u z9) rfl rfl rfl qw4_13 qw3_147 qw3_148 qw1_9 qw3_149 hvX3_after ⟨Nat.le_of_ble_eq_true rfl, Nat.le_of_ble_eq_true rfl⟩ ⟨Nat.zero_le _, Nat.zero_le _⟩ 0 3 rfl rfl rfl rfl (Nat.le_of_ble_eq_true rfl) E0_b (fun _ _ _ _ _ _ => trivial) rfl dX3_debtsVoid_9 [.ref (a 12), .int z4] rfl ?_
  obtain ⟨z12, hz12, hf⟩ := bd_some hf
  refine sm_callV (rest := [.int z4]) F (ct_X8_hereBits l D cI cZ cO (fun i => a (pm_M_v12 i)) hz12) (cut_M_v12_ro cI cZ cO a z9) rfl rfl rfl qw3_195 qw3_115 qw3_116 qw1_8 qw3_117 hvX8_hereBits ⟨Nat.le_of_ble_eq_true rfl, Nat.le_of_ble_eq_true rfl⟩ ⟨Nat.zero_le _, Nat.zero_le _⟩ 0 8 rfl rfl rfl rfl (Nat.le_of_ble_eq_true rfl) E0_b (fun _ _ _ _ _ _ => trivial) rfl dX3_debtsVoid_12 [.int z12, .int z4] rfl ?_
  refine sm_iconst F dX3_debtsVoid_15 kc_i_m1 ?_
  refine sm_ixor F dX3_debtsVoid_16 ?_
  refine sm_iand F dX3_debtsVoid_17 ?_
  refine sm_istore_n F [(0, .ref (a 0)), (2, .int (z4 &&& (z12 ^^^ ((-1) : Int32))))] [1, 0] dX3_debtsVoid_18 rfl (by decide) rfl ?_
  refine sm_iconst F dX3_debtsVoid_19 kc_i_0 ?_
  refine sm_istore_n F [(0, .ref (a 0)), (2, .int (z4 &&& (z12 ^^^ ((-1) : Int32)))), (3, .int (0 : Int32))] [1, 2, 0] dX3_debtsVoid_20 rfl (by decide) rfl ?_
  refine sm_iconst F dX3_debtsVoid_21 kc_i_0 ?_
  refine sm_istore F [(0, .ref (a 0)), (2, .int (z4 &&& (z12 ^^^ ((-1) : Int32)))), (3, .int (0 : Int32)), (4, .int (0 : Int32))] [1, 2, 3, 0] dX3_debtsVoid_22 (by decide) rfl ?_
  exact s_X3_debtsVoid_24 F  smN z9 (z4 &&& (z12 ^^^ ((-1) : Int32))) (0 : Int32) (0 : Int32) hf
/-! SoManyForgotten$Mind.weighPair(IIII)V -/
abbrev rmX3_weighPair : Room := { frames := 5, cells := 0, slots := 0, locals := 116 }
set_option maxRecDepth 100000 in
theorem hvX3_weighPair : yX3_weighPair.cls = RX3 ∧ yX3_weighPair.cls ≠ "java/lang/invoke/MethodHandle" ∧ yX3_weighPair.cls ≠ "java/lang/invoke/VarHandle" ∧ (parseMethodDescriptor yX3_weighPair.desc).map (fun d => d.parameters.length) = some 4 := by decide +kernel
set_option maxRecDepth 100000 in
set_option maxHeartbeats 4000000 in
theorem s_X3_weighPair_44 {p : Program} {l : Launch} {e : Env} {s : State} {m : MethodId} {args : Array Value} {below : List Frame} {meth : Method} {c : Code} {A : Nat → Prop} {D : va_G} {cI cZ cO : ClassId} {a : Nat → Nat} {o : MS} (F : smF p s m args meth c cX3_weighPair 7 none RX3 D (tyL cI cZ cO) A) (x1 : Int32) (x2 : Int32) (x3 : Int32) (x4 : Int32)  (u : MS) (x5 : Int32) (x6 : Int32) (hf : f_X3_weighPair_44 x1 x2 x3 x4   u x5 x6 = some o) : Sm p l e rmX3_weighPair s m args below meth c D A 7 0 0 (smQ below args s D A none (wM cI cZ cO a o)) 44 [(0, .ref (a 0)), (1, .int x1), (2, .int x2), (3, .int x3), (4, .int x4), (5, .int x5), (6, .int x6)] [] (wM cI cZ cO a u) := by
  unfold f_X3_weighPair_44 at hf
  refine sm_aload_n F dX3_weighPair_44 rfl 0 rfl ?_
  refine sm_get (v := .ref (a 12)) F inX3 0 rfl rfl 1 (by decide) qw1_134 rfl rfl dX3_weighPair_45 ?_
  refine sm_iload_n F dX3_weighPair_48 rfl 3 rfl ?_
  obtain ⟨z49, hz49, hf⟩ := bd_some hf
  refine sm_callV (rest := []) F (ct_X8_passWeeks l D cI cZ cO (fun i => a (pm_M_v12 i)) hz49) (cut_M_v12 cI cZ cO a u z49) rfl rfl rfl qw3_155 qw3_138 qw3_139 qw1_8 qw3_140 hvX8_passWeeks ⟨Nat.le_of_ble_eq_true rfl, Nat.le_of_ble_eq_true rfl⟩ ⟨Nat.zero_le _, Nat.zero_le _⟩ 0 8 rfl rfl rfl rfl (Nat.le_of_ble_eq_true rfl) E0_b (fun _ _ _ _ _ _ => trivial) rfl dX3_weighPair_49 [] rfl ?_
  refine sm_aload_n F dX3_weighPair_52 rfl 0 rfl ?_
  refine sm_get (v := .ref (a 2)) F inX3 0 rfl rfl 4 (by decide) qw1_137 rfl rfl dX3_weighPair_53 ?_
  refine sm_iload F dX3_weighPair_56 4 rfl ?_
  refine sm_aload_n F dX3_weighPair_58 rfl 0 rfl ?_
  refine sm_get (v := .ref (a 12)) F inX3 0 rfl rfl 1 (by decide) qw1_134 rfl rfl dX3_weighPair_59 ?_
  refine sm_iload_n F dX3_weighPair_62 rfl 1 rfl ?_
  obtain ⟨z63, hz63, hf⟩ := bd_some hf
  refine sm_callV (rest := [.int x4, .ref (a 2)]) F (ct_X8_knownOf l D cI cZ cO (fun i => a (pm_M_v12 i)) hz63) (cut_M_v12_ro cI cZ cO a (sM_then u z49)) rfl rfl rfl qw4_129 qw3_36 qw3_37 qw1_8 qw3_38 hvX8_knownOf ⟨Nat.le_of_ble_eq_true rfl, Nat.le_of_ble_eq_true rfl⟩ ⟨Nat.zero_le _, Nat.zero_le _⟩ 0 8 rfl rfl rfl rfl (Nat.le_of_ble_eq_true rfl) E0_b (fun _ _ _ _ _ _ => trivial) rfl dX3_weighPair_63 [.int z63, .int x4, .ref (a 2)] rfl ?_
  refine sm_bipush F dX3_weighPair_66 kc_b_30 ?_
  refine sm_iload F dX3_weighPair_68 5 rfl ?_
  refine sm_imul F dX3_weighPair_70 ?_
  refine sm_isub F dX3_weighPair_71 ?_
  obtain ⟨v72, hv72, hf⟩ := bd_some hf
  refine sm_topi (Option.some.inj hv72) ?_
  obtain ⟨h72, hf⟩ := ck_some hf
  refine sm_iast F 2 0 rfl rfl h72 (wM cI cZ cO a (sM_fg (sM_then u z49) (upd (gM_fg (sM_then u z49)) (Int32.toNatClampNeg x4) v72))) rfl dX3_weighPair_72 ?_
  refine sm_aload_n F dX3_weighPair_73 rfl 0 rfl ?_
  refine sm_get (v := .ref (a 3)) F inX3 0 rfl rfl 5 (by decide) qw1_138 rfl rfl dX3_weighPair_74 ?_
  refine sm_iload F dX3_weighPair_77 4 rfl ?_
  refine sm_aload_n F dX3_weighPair_79 rfl 0 rfl ?_
  refine sm_get (v := .ref (a 12)) F inX3 0 rfl rfl 1 (by decide) qw1_134 rfl rfl dX3_weighPair_80 ?_
  refine sm_iload_n F dX3_weighPair_83 rfl 2 rfl ?_
  obtain ⟨z84, hz84, hf⟩ := bd_some hf
  refine sm_callV (rest := [.int x4, .ref (a 3)]) F (ct_X8_knownOf l D cI cZ cO (fun i => a (pm_M_v12 i)) hz84) (cut_M_v12_ro cI cZ cO a (sM_fg (sM_then u z49) (upd (gM_fg (sM_then u z49)) (Int32.toNatClampNeg x4) v72))) rfl rfl rfl qw4_129 qw3_36 qw3_37 qw1_8 qw3_38 hvX8_knownOf ⟨Nat.le_of_ble_eq_true rfl, Nat.le_of_ble_eq_true rfl⟩ ⟨Nat.zero_le _, Nat.zero_le _⟩ 0 8 rfl rfl rfl rfl (Nat.le_of_ble_eq_true rfl) E0_b (fun _ _ _ _ _ _ => trivial) rfl dX3_weighPair_84 [.int z84, .int x4, .ref (a 3)] rfl ?_
  refine sm_bipush F dX3_weighPair_87 kc_b_30 ?_
  refine sm_iload F dX3_weighPair_89 6 rfl ?_
  refine sm_imul F dX3_weighPair_91 ?_
  refine sm_isub F dX3_weighPair_92 ?_
  obtain ⟨v93, hv93, hf⟩ := bd_some hf
  refine sm_topi (Option.some.inj hv93) ?_
  obtain ⟨h93, hf⟩ := ck_some hf
  refine sm_iast F 3 0 rfl rfl h93 (wM cI cZ cO a (sM_og (sM_fg (sM_then u z49) (upd (gM_fg (sM_then u z49)) (Int32.toNatClampNeg x4) v72)) (upd (gM_og (sM_fg (sM_then u z49) (upd (gM_fg (sM_then u z49)) (Int32.toNatClampNeg x4) v72))) (Int32.toNatClampNeg x4) v93))) rfl dX3_weighPair_93 ?_
  obtain ⟨u93, hu93, hf⟩ := bd_some hf
  refine sm_ws (ws' := (wM cI cZ cO a u93)) (congrArg (fun z => (wM cI cZ cO a z)) (Option.some.inj hu93)) ?_
  exact sm_vret F dX3_weighPair_94 (congrArg (fun z => (wM cI cZ cO a z)) (Option.some.inj hf))
set_option maxRecDepth 100000 in
set_option maxHeartbeats 4000000 in
theorem s_X3_weighPair_30 {p : Program} {l : Launch} {e : Env} {s : State} {m : MethodId} {args : Array Value} {below : List Frame} {meth : Method} {c : Code} {A : Nat → Prop} {D : va_G} {cI cZ cO : ClassId} {a : Nat → Nat} {o : MS} (F : smF p s m args meth c cX3_weighPair 7 none RX3 D (tyL cI cZ cO) A) (x1 : Int32) (x2 : Int32) (x3 : Int32) (x4 : Int32)  (u : MS) (x5 : Int32) (x6 : Int32) (hf : f_X3_weighPair_30 x1 x2 x3 x4   u x5 x6 = some o) : Sm p l e rmX3_weighPair s m args below meth c D A 7 0 0 (smQ below args s D A none (wM cI cZ cO a o)) 30 [(0, .ref (a 0)), (1, .int x1), (2, .int x2), (3, .int x3), (4, .int x4), (5, .int x5), (6, .int x6)] [] (wM cI cZ cO a u) := by
  unfold f_X3_weighPair_30 at hf
  refine sm_iload F dX3_weighPair_30 6 rfl ?_
  refine sm_iconst F dX3_weighPair_32 kc_i_1 ?_
  refine sm_icmp_ne (tgt := 44) F dX3_weighPair_33 (by decide) (fun c33 => ?_) (fun c33 => ?_)
  · replace hf := if_f c33 hf
    exact s_X3_weighPair_44 F x1 x2 x3 x4 u x5 x6 hf
  · replace hf := if_t c33 hf
    refine sm_aload_n F dX3_weighPair_36 rfl 0 rfl ?_
    refine sm_get (v := .ref (a 12)) F inX3 0 rfl rfl 1 (by decide) qw1_134 rfl rfl dX3_weighPair_37 ?_
    refine sm_iload_n F dX3_weighPair_40 rfl 2 rfl ?_
    obtain ⟨z41, hz41, hf⟩ := bd_some hf
    refine sm_callV (rest := []) F (ct_X8_talkToAll l D cI cZ cO (fun i => a (pm_M_v12 i)) hz41) (cut_M_v12 cI cZ cO a u z41) rfl rfl rfl qw4_124 qw4_125 qw4_126 qw1_8 qw4_127 hvX8_talkToAll ⟨Nat.le_of_ble_eq_true rfl, Nat.le_of_ble_eq_true rfl⟩ ⟨Nat.zero_le _, Nat.zero_le _⟩ 0 8 rfl rfl rfl rfl (Nat.le_of_ble_eq_true rfl) E0_b (fun _ _ _ _ _ _ => trivial) rfl dX3_weighPair_41 [] rfl ?_
    exact s_X3_weighPair_44 F x1 x2 x3 x4 (sM_then u z41) x5 x6 hf
set_option maxRecDepth 100000 in
set_option maxHeartbeats 4000000 in
theorem ct_X3_weighPair (l : Launch) (D : va_G) (cI cZ cO : ClassId) (a : Nat → Nat) {u : MS} {x1 : Int32} {x2 : Int32} {x3 : Int32} {x4 : Int32} {o : MS} (hf : f_X3_weighPair u x1 x2 x3 x4 = some o) : Ct l yX3_weighPair (uw (Cond.code yX3_weighPair cX3_weighPair 7 none)) rmX3_weighPair D (tyL cI cZ cO) E0 [.ref (a 0), .int x1, .int x2, .int x3, .int x4] (wM cI cZ cO a u) none (wM cI cZ cO a o) := by
  refine sm_start (cc := cX3_weighPair) (maxL := 7) (ret := none) (own := RX3) (by decide) rfl rfl (Nat.le_of_ble_eq_true rfl) (lv := [(0, .ref (a 0)), (1, .int x1), (2, .int x2), (3, .int x3), (4, .int x4)]) rfl ?_
  intro p e s m below meth c A F hE hA
  unfold f_X3_weighPair at hf
  refine sm_iload F dX3_weighPair_0 4 rfl ?_
  refine sm_iconst F dX3_weighPair_2 kc_i_1 ?_
  refine sm_ishr F dX3_weighPair_3 ?_
  refine sm_istore F [(0, .ref (a 0)), (1, .int x1), (2, .int x2), (3, .int x3), (4, .int x4), (5, .int (x4 >>> ((1 : Int32) &&& 31)))] [1, 2, 3, 4, 5, 0] dX3_weighPair_4 (by decide) rfl ?_
  refine sm_iload F dX3_weighPair_6 4 rfl ?_
  refine sm_iconst F dX3_weighPair_8 kc_i_1 ?_
  refine sm_iand F dX3_weighPair_9 ?_
  refine sm_istore F [(0, .ref (a 0)), (1, .int x1), (2, .int x2), (3, .int x3), (4, .int x4), (5, .int (x4 >>> ((1 : Int32) &&& 31))), (6, .int (x4 &&& (1 : Int32)))] [1, 2, 3, 4, 5, 6, 0] dX3_weighPair_10 (by decide) rfl ?_
  refine sm_aload_n F dX3_weighPair_12 rfl 0 rfl ?_
  obtain ⟨z13, hz13, hf⟩ := bd_some hf
  refine sm_callV (rest := []) F (ct_X3_startAgain l D cI cZ cO a hz13) (cut_M_id cI cZ cO a u z13) rfl rfl rfl qw3_150 qw3_152 qw0_18 qw1_9 qw3_153 hvX3_startAgain ⟨Nat.le_of_ble_eq_true rfl, Nat.le_of_ble_eq_true rfl⟩ ⟨Nat.zero_le _, Nat.zero_le _⟩ 0 3 rfl rfl rfl rfl (Nat.le_of_ble_eq_true rfl) E0_b (fun _ _ _ _ _ _ => trivial) rfl dX3_weighPair_13 [] rfl ?_
  refine sm_iload F dX3_weighPair_16 5 rfl ?_
  refine sm_iconst F dX3_weighPair_18 kc_i_1 ?_
  refine sm_icmp_ne (tgt := 30) F dX3_weighPair_19 (by decide) (fun c19 => ?_) (fun c19 => ?_)
  · replace hf := if_f c19 hf
    exact s_X3_weighPair_30 F x1 x2 x3 x4 z13 (x4 >>> ((1 : Int32) &&& 31)) (x4 &&& (1 : Int32)) hf
  · replace hf := if_t c19 hf
    refine sm_aload_n F dX3_weighPair_22 rfl 0 rfl ?_
    refine sm_get (v := .ref (a 12)) F inX3 0 rfl rfl 1 (by decide) qw1_134 rfl rfl dX3_weighPair_23 ?_
    refine sm_iload_n F dX3_weighPair_26 rfl 1 rfl ?_
    obtain ⟨z27, hz27, hf⟩ := bd_some hf
    refine sm_callV (rest := []) F (ct_X8_talkToAll l D cI cZ cO (fun i => a (pm_M_v12 i)) hz27) (cut_M_v12 cI cZ cO a z13 z27) rfl rfl rfl qw4_124 qw4_125 qw4_126 qw1_8 qw4_127 hvX8_talkToAll ⟨Nat.le_of_ble_eq_true rfl, Nat.le_of_ble_eq_true rfl⟩ ⟨Nat.zero_le _, Nat.zero_le _⟩ 0 8 rfl rfl rfl rfl (Nat.le_of_ble_eq_true rfl) E0_b (fun _ _ _ _ _ _ => trivial) rfl dX3_weighPair_27 [] rfl ?_
    exact s_X3_weighPair_30 F x1 x2 x3 x4 (sM_then z13 z27) (x4 >>> ((1 : Int32) &&& 31)) (x4 &&& (1 : Int32)) hf
/-! SoManyForgotten$Mind.settled(III)I -/
abbrev rmX3_settled : Room := { frames := 6, cells := 0, slots := 0, locals := 142 }
set_option maxRecDepth 100000 in
theorem hvX3_settled : yX3_settled.cls = RX3 ∧ yX3_settled.cls ≠ "java/lang/invoke/MethodHandle" ∧ yX3_settled.cls ≠ "java/lang/invoke/VarHandle" ∧ (parseMethodDescriptor yX3_settled.desc).map (fun d => d.parameters.length) = some 3 := by decide +kernel
set_option maxRecDepth 100000 in
set_option maxHeartbeats 4000000 in
theorem s_X3_settled_27_b {p : Program} {l : Launch} {e : Env} {s : State} {m : MethodId} {args : Array Value} {below : List Frame} {meth : Method} {c : Code} {A : Nat → Prop} {D : va_G} {cI cZ cO : ClassId} {a : Nat → Nat} {r : Int32} {o : MS} (F : smF p s m args meth c cX3_settled 5 (some .int) RX3 D (tyL cI cZ cO) A)  (k27 : MS → Int32 → Option (Int32 × (MS))) (hk27 : ∀ (u' : MS) (x4' : Int32), k27 u' x4' = some (r, o) → Sm p l e rmX3_settled s m args below meth c D A 5 0 0 (smQ below args s D A (some (.int r)) (wM cI cZ cO a o)) 27 [(0, .ref (a 0)), (4, .int x4')] [] (wM cI cZ cO a u')) (u : MS) (x4 : Int32) (hf : b_X3_settled_27   k27 u x4 = some (r, o)) : Sm p l e rmX3_settled s m args below meth c D A 5 0 0 (smQ below args s D A (some (.int r)) (wM cI cZ cO a o)) 27 [(0, .ref (a 0)), (4, .int x4)] [] (wM cI cZ cO a u) := by
  unfold b_X3_settled_27 at hf
  refine sm_iload F dX3_settled_27 1 rfl ?_
  refine sm_iconst F dX3_settled_29 kc_i_4 ?_
  refine sm_icmp_ge (tgt := 90) F dX3_settled_30 (by decide) (fun c30 => ?_) (fun c30 => ?_)
  · replace hf := if_t c30 hf
    refine sm_bipush F dX3_settled_90 kc_b_m9 ?_
    exact sm_iret F dX3_settled_92 (Prod.mk.inj (Option.some.inj hf)).1 (congrArg (fun z => (wM cI cZ cO a z)) (Prod.mk.inj (Option.some.inj hf)).2)
  · replace hf := if_f c30 hf
    refine sm_aload_n F dX3_settled_33 rfl 0 rfl ?_
    refine sm_get (v := .ref (a 2)) F inX3 0 rfl rfl 4 (by decide) qw1_137 rfl rfl dX3_settled_34 ?_
    refine sm_iload F dX3_settled_37 1 rfl ?_
    obtain ⟨h39, hf⟩ := ck_some hf
    refine sm_iald F 2 0 rfl rfl h39 dX3_settled_39 ?_
    refine sm_aload_n F dX3_settled_40 rfl 0 rfl ?_
    refine sm_get (v := .ref (a 2)) F inX3 0 rfl rfl 4 (by decide) qw1_137 rfl rfl dX3_settled_41 ?_
    refine sm_iload F dX3_settled_44 1 rfl ?_
    refine sm_iconst F dX3_settled_46 kc_i_2 ?_
    refine sm_ixor F dX3_settled_47 ?_
    obtain ⟨h48, hf⟩ := ck_some hf
    refine sm_iald F 2 0 rfl rfl h48 dX3_settled_48 ?_
    refine sm_icmp_lt (tgt := 84) F dX3_settled_49 (by decide) (fun c49 => ?_) (fun c49 => ?_)
    · replace hf := if_t c49 hf
      refine sm_iinc F [(0, .ref (a 0)), (4, .int (x4 + 1))] 1 [1, 0] dX3_settled_84 rfl kc_i_1 (by decide) rfl ?_
      refine sm_goto (tgt := 27) F dX3_settled_87 (by decide) ?_
      exact hk27 u (x4 + 1) hf
    · replace hf := if_f c49 hf
      refine sm_aload_n F dX3_settled_52 rfl 0 rfl ?_
      refine sm_get (v := .ref (a 3)) F inX3 0 rfl rfl 5 (by decide) qw1_138 rfl rfl dX3_settled_53 ?_
      refine sm_iload F dX3_settled_56 1 rfl ?_
      obtain ⟨h58, hf⟩ := ck_some hf
      refine sm_iald F 3 0 rfl rfl h58 dX3_settled_58 ?_
      refine sm_aload_n F dX3_settled_59 rfl 0 rfl ?_
      refine sm_get (v := .ref (a 3)) F inX3 0 rfl rfl 5 (by decide) qw1_138 rfl rfl dX3_settled_60 ?_
      refine sm_iload F dX3_settled_63 1 rfl ?_
      refine sm_iconst F dX3_settled_65 kc_i_1 ?_
      refine sm_ixor F dX3_settled_66 ?_
      obtain ⟨h67, hf⟩ := ck_some hf
      refine sm_iald F 3 0 rfl rfl h67 dX3_settled_67 ?_
      refine sm_icmp_lt (tgt := 84) F dX3_settled_68 (by decide) (fun c68 => ?_) (fun c68 => ?_)
      · replace hf := if_t c68 hf
        refine sm_iinc F [(0, .ref (a 0)), (4, .int (x4 + 1))] 1 [1, 0] dX3_settled_84 rfl kc_i_1 (by decide) rfl ?_
        refine sm_goto (tgt := 27) F dX3_settled_87 (by decide) ?_
        exact hk27 u (x4 + 1) hf
      · replace hf := if_f c68 hf
        refine sm_bipush F dX3_settled_71 kc_b_10 ?_
        refine sm_iload F dX3_settled_73 1 rfl ?_
        refine sm_iconst F dX3_settled_75 kc_i_1 ?_
        refine sm_ishr F dX3_settled_76 ?_
        refine sm_imul F dX3_settled_77 ?_
        refine sm_iload F dX3_settled_78 1 rfl ?_
        refine sm_iconst F dX3_settled_80 kc_i_1 ?_
        refine sm_iand F dX3_settled_81 ?_
        refine sm_iadd F dX3_settled_82 ?_
        exact sm_iret F dX3_settled_83 (Prod.mk.inj (Option.some.inj hf)).1 (congrArg (fun z => (wM cI cZ cO a z)) (Prod.mk.inj (Option.some.inj hf)).2)
set_option maxRecDepth 100000 in
set_option maxHeartbeats 4000000 in
theorem s_X3_settled_27 {p : Program} {l : Launch} {e : Env} {s : State} {m : MethodId} {args : Array Value} {below : List Frame} {meth : Method} {c : Code} {A : Nat → Prop} {D : va_G} {cI cZ cO : ClassId} {a : Nat → Nat} {r : Int32} {o : MS} (F : smF p s m args meth c cX3_settled 5 (some .int) RX3 D (tyL cI cZ cO) A)   (n : Nat) (u : MS) (x4 : Int32) (hf : f_X3_settled_27   n u x4 = some (r, o)) : Sm p l e rmX3_settled s m args below meth c D A 5 0 0 (smQ below args s D A (some (.int r)) (wM cI cZ cO a o)) 27 [(0, .ref (a 0)), (4, .int x4)] [] (wM cI cZ cO a u) :=
  lq2_ind (P := fun (u : MS) (x4 : Int32) => Sm p l e rmX3_settled s m args below meth c D A 5 0 0 (smQ below args s D A (some (.int r)) (wM cI cZ cO a o)) 27 [(0, .ref (a 0)), (4, .int x4)] [] (wM cI cZ cO a u)) (fun k27 hk27 u x4 h9 => s_X3_settled_27_b F   k27 hk27 u x4 h9) n u x4 hf
set_option maxRecDepth 100000 in
set_option maxHeartbeats 4000000 in
theorem s_X3_settled_3_b {p : Program} {l : Launch} {e : Env} {s : State} {m : MethodId} {args : Array Value} {below : List Frame} {meth : Method} {c : Code} {A : Nat → Prop} {D : va_G} {cI cZ cO : ClassId} {a : Nat → Nat} {r : Int32} {o : MS} (F : smF p s m args meth c cX3_settled 5 (some .int) RX3 D (tyL cI cZ cO) A) (x1 : Int32) (x2 : Int32) (x3 : Int32) (k3 : MS → Int32 → Option (Int32 × (MS))) (hk3 : ∀ (u' : MS) (x4' : Int32), k3 u' x4' = some (r, o) → Sm p l e rmX3_settled s m args below meth c D A 5 0 0 (smQ below args s D A (some (.int r)) (wM cI cZ cO a o)) 3 [(0, .ref (a 0)), (1, .int x1), (2, .int x2), (3, .int x3), (4, .int x4')] [] (wM cI cZ cO a u')) (u : MS) (x4 : Int32) (hf : b_X3_settled_3 x1 x2 x3  k3 u x4 = some (r, o)) : Sm p l e rmX3_settled s m args below meth c D A 5 0 0 (smQ below args s D A (some (.int r)) (wM cI cZ cO a o)) 3 [(0, .ref (a 0)), (1, .int x1), (2, .int x2), (3, .int x3), (4, .int x4)] [] (wM cI cZ cO a u) := by
  unfold b_X3_settled_3 at hf
  refine sm_iload F dX3_settled_3 4 rfl ?_
  refine sm_iconst F dX3_settled_5 kc_i_4 ?_
  refine sm_icmp_ge (tgt := 24) F dX3_settled_6 (by decide) (fun c6 => ?_) (fun c6 => ?_)
  · replace hf := if_t c6 hf
    refine sm_iconst F dX3_settled_24 kc_i_0 ?_
    refine sm_istore F [(0, .ref (a 0)), (4, .int (0 : Int32))] [1, 0] dX3_settled_25 (by decide) rfl ?_
    exact s_X3_settled_27 F  smN u (0 : Int32) hf
  · replace hf := if_f c6 hf
    refine sm_aload_n F dX3_settled_9 rfl 0 rfl ?_
    refine sm_iload_n F dX3_settled_10 rfl 1 rfl ?_
    refine sm_iload_n F dX3_settled_11 rfl 2 rfl ?_
    refine sm_iload_n F dX3_settled_12 rfl 3 rfl ?_
    refine sm_iload F dX3_settled_13 4 rfl ?_
    obtain ⟨z15, hz15, hf⟩ := bd_some hf
    refine sm_callV (rest := []) F (ct_X3_weighPair l D cI cZ cO a hz15) (cut_M_id cI cZ cO a u z15) rfl rfl rfl qw4_120 qw4_122 qw0_24 qw1_9 qw4_123 hvX3_weighPair ⟨Nat.le_of_ble_eq_true rfl, Nat.le_of_ble_eq_true rfl⟩ ⟨Nat.zero_le _, Nat.zero_le _⟩ 0 3 rfl rfl rfl rfl (Nat.le_of_ble_eq_true rfl) E0_b (fun _ _ _ _ _ _ => trivial) rfl dX3_settled_15 [] rfl ?_
    refine sm_iinc F [(0, .ref (a 0)), (1, .int x1), (2, .int x2), (3, .int x3), (4, .int (x4 + 1))] 4 [1, 2, 3, 4, 0] dX3_settled_18 rfl kc_i_1 (by decide) rfl ?_
    refine sm_goto (tgt := 3) F dX3_settled_21 (by decide) ?_
    exact hk3 z15 (x4 + 1) hf
set_option maxRecDepth 100000 in
set_option maxHeartbeats 4000000 in
theorem s_X3_settled_3 {p : Program} {l : Launch} {e : Env} {s : State} {m : MethodId} {args : Array Value} {below : List Frame} {meth : Method} {c : Code} {A : Nat → Prop} {D : va_G} {cI cZ cO : ClassId} {a : Nat → Nat} {r : Int32} {o : MS} (F : smF p s m args meth c cX3_settled 5 (some .int) RX3 D (tyL cI cZ cO) A) (x1 : Int32) (x2 : Int32) (x3 : Int32)  (n : Nat) (u : MS) (x4 : Int32) (hf : f_X3_settled_3 x1 x2 x3  n u x4 = some (r, o)) : Sm p l e rmX3_settled s m args below meth c D A 5 0 0 (smQ below args s D A (some (.int r)) (wM cI cZ cO a o)) 3 [(0, .ref (a 0)), (1, .int x1), (2, .int x2), (3, .int x3), (4, .int x4)] [] (wM cI cZ cO a u) :=
  lq2_ind (P := fun (u : MS) (x4 : Int32) => Sm p l e rmX3_settled s m args below meth c D A 5 0 0 (smQ below args s D A (some (.int r)) (wM cI cZ cO a o)) 3 [(0, .ref (a 0)), (1, .int x1), (2, .int x2), (3, .int x3), (4, .int x4)] [] (wM cI cZ cO a u)) (fun k3 hk3 u x4 h9 => s_X3_settled_3_b F x1 x2 x3  k3 hk3 u x4 h9) n u x4 hf
set_option maxRecDepth 100000 in
set_option maxHeartbeats 4000000 in
theorem ct_X3_settled (l : Launch) (D : va_G) (cI cZ cO : ClassId) (a : Nat → Nat) {u : MS} {x1 : Int32} {x2 : Int32} {x3 : Int32} {r : Int32} {o : MS} (hf : f_X3_settled u x1 x2 x3 = some (r, o)) : Ct l yX3_settled (uw (Cond.code yX3_settled cX3_settled 5 (some .int))) rmX3_settled D (tyL cI cZ cO) E0 [.ref (a 0), .int x1, .int x2, .int x3] (wM cI cZ cO a u) (some (.int r)) (wM cI cZ cO a o) := by
  refine sm_start (cc := cX3_settled) (maxL := 5) (ret := (some .int)) (own := RX3) (by decide) rfl rfl (Nat.le_of_ble_eq_true rfl) (lv := [(0, .ref (a 0)), (1, .int x1), (2, .int x2), (3, .int x3)]) rfl ?_
  intro p e s m below meth c A F hE hA
  unfold f_X3_settled at hf
  refine sm_iconst F dX3_settled_0 kc_i_0 ?_
  refine sm_istore F [(0, .ref (a 0)), (1, .int x1), (2, .int x2), (3, .int x3), (4, .int (0 : Int32))] [1, 2, 3, 4, 0] dX3_settled_1 (by decide) rfl ?_
  exact s_X3_settled_3 F x1 x2 x3 smN u (0 : Int32) hf
/-! SoManyForgotten$Mind.isHereBehind(III)Z -/
abbrev rmX3_isHereBehind : Room := { frames := 4, cells := 0, slots := 0, locals := 94 }
set_option maxRecDepth 100000 in
theorem hvX3_isHereBehind : yX3_isHereBehind.cls = RX3 ∧ yX3_isHereBehind.cls ≠ "java/lang/invoke/MethodHandle" ∧ yX3_isHereBehind.cls ≠ "java/lang/invoke/VarHandle" ∧ (parseMethodDescriptor yX3_isHereBehind.desc).map (fun d => d.parameters.length) = some 3 := by decide +kernel
set_option maxRecDepth 100000 in
set_option maxHeartbeats 4000000 in
theorem s_X3_isHereBehind_30 {p : Program} {l : Launch} {e : Env} {s : State} {m : MethodId} {args : Array Value} {below : List Frame} {meth : Method} {c : Code} {A : Nat → Prop} {D : va_G} {cI cZ cO : ClassId} {a : Nat → Nat} {r : Int32} {o : MS} (F : smF p s m args meth c cX3_isHereBehind 5 (some .boolean) RX3 D (tyL cI cZ cO) A) (x1 : Int32) (x2 : Int32) (x3 : Int32) (k7 : MS → Int32 → Option (Int32 × (MS))) (hk7 : ∀ (u' : MS) (x4' : Int32), k7 u' x4' = some (r, o) → Sm p l e rmX3_isHereBehind s m args below meth c D A 5 0 0 (smQ below args s D A (some (.int r)) (wM cI cZ cO a o)) 7 [(0, .ref (a 0)), (1, .int x1), (2, .int x2), (3, .int x3), (4, .int x4')] [] (wM cI cZ cO a u')) (u : MS) (x4 : Int32) (hf : f_X3_isHereBehind_30 x1 x2 x3 k7  u x4 = some (r, o)) : Sm p l e rmX3_isHereBehind s m args below meth c D A 5 0 0 (smQ below args s D A (some (.int r)) (wM cI cZ cO a o)) 30 [(0, .ref (a 0)), (1, .int x1), (2, .int x2), (3, .int x3), (4, .int x4)] [] (wM cI cZ cO a u) := by
  unfold f_X3_isHereBehind_30 at hf
  refine sm_aload_n F dX3_isHereBehind_30 rfl 0 rfl ?_
  refine sm_get (v := .ref (a 12)) F inX3 0 rfl rfl 1 (by decide) qw1_134 rfl rfl dX3_isHereBehind_31 ?_
  obtain ⟨z34, hz34, hf⟩ := bd_some hf
  refine sm_callV (rest := []) F (ct_X8_passWeek l D cI cZ cO (fun i => a (pm_M_v12 i)) hz34) (cut_M_v12 cI cZ cO a u z34) rfl rfl rfl qw3_196 qw2_223 qw2_224 qw1_8 qw2_225 hvX8_passWeek ⟨Nat.le_of_ble_eq_true rfl, Nat.le_of_ble_eq_true rfl⟩ ⟨Nat.zero_le _, Nat.zero_le _⟩ 0 8 rfl rfl rfl rfl (Nat.le_of_ble_eq_true rfl) E0_b (fun _ _ _ _ _ _ => trivial) rfl dX3_isHereBehind_34 [] rfl ?_
  refine sm_iinc F [(0, .ref (a 0)), (1, .int x1), (2, .int x2), (3, .int x3), (4, .int (x4 + 1))] 4 [1, 2, 3, 4, 0] dX3_isHereBehind_37 rfl kc_i_1 (by decide) rfl ?_
  refine sm_goto (tgt := 7) F dX3_isHereBehind_40 (by decide) ?_
  exact hk7 (sM_then u z34) (x4 + 1) hf
set_option maxRecDepth 100000 in
set_option maxHeartbeats 4000000 in
theorem s_X3_isHereBehind_7_b {p : Program} {l : Launch} {e : Env} {s : State} {m : MethodId} {args : Array Value} {below : List Frame} {meth : Method} {c : Code} {A : Nat → Prop} {D : va_G} {cI cZ cO : ClassId} {a : Nat → Nat} {r : Int32} {o : MS} (F : smF p s m args meth c cX3_isHereBehind 5 (some .boolean) RX3 D (tyL cI cZ cO) A) (x1 : Int32) (x2 : Int32) (x3 : Int32) (k7 : MS → Int32 → Option (Int32 × (MS))) (hk7 : ∀ (u' : MS) (x4' : Int32), k7 u' x4' = some (r, o) → Sm p l e rmX3_isHereBehind s m args below meth c D A 5 0 0 (smQ below args s D A (some (.int r)) (wM cI cZ cO a o)) 7 [(0, .ref (a 0)), (1, .int x1), (2, .int x2), (3, .int x3), (4, .int x4')] [] (wM cI cZ cO a u')) (u : MS) (x4 : Int32) (hf : b_X3_isHereBehind_7 x1 x2 x3  k7 u x4 = some (r, o)) : Sm p l e rmX3_isHereBehind s m args below meth c D A 5 0 0 (smQ below args s D A (some (.int r)) (wM cI cZ cO a o)) 7 [(0, .ref (a 0)), (1, .int x1), (2, .int x2), (3, .int x3), (4, .int x4)] [] (wM cI cZ cO a u) := by
  unfold b_X3_isHereBehind_7 at hf
  refine sm_iload F dX3_isHereBehind_7 4 rfl ?_
  refine sm_iload_n F dX3_isHereBehind_9 rfl 2 rfl ?_
  refine sm_icmp_ge (tgt := 43) F dX3_isHereBehind_10 (by decide) (fun c10 => ?_) (fun c10 => ?_)
  · replace hf := if_t c10 hf
    refine sm_aload_n F dX3_isHereBehind_43 rfl 0 rfl ?_
    refine sm_get (v := .ref (a 12)) F inX3 0 rfl rfl 1 (by decide) qw1_134 rfl rfl dX3_isHereBehind_44 ?_
    refine sm_get (v := .ref (a 16)) F inX8 12 rfl rfl 4 (by decide) qw1_91 rfl rfl dX3_isHereBehind_47 ?_
    refine sm_iload_n F dX3_isHereBehind_50 rfl 1 rfl ?_
    obtain ⟨h51, hf⟩ := ck_some hf
    refine sm_zald F 16 1 rfl rfl h51 dX3_isHereBehind_51 ?_
    obtain ⟨h52, hf⟩ := zr_some hf
    exact sm_zret F dX3_isHereBehind_52 h52 (Prod.mk.inj (Option.some.inj hf)).1 (congrArg (fun z => (wM cI cZ cO a z)) (Prod.mk.inj (Option.some.inj hf)).2)
  · replace hf := if_f c10 hf
    refine sm_iload_n F dX3_isHereBehind_13 rfl 3 rfl ?_
    refine sm_iload F dX3_isHereBehind_14 4 rfl ?_
    refine sm_ishr F dX3_isHereBehind_16 ?_
    refine sm_iconst F dX3_isHereBehind_17 kc_i_1 ?_
    refine sm_iand F dX3_isHereBehind_18 ?_
    refine sm_iconst F dX3_isHereBehind_19 kc_i_1 ?_
    refine sm_icmp_ne (tgt := 30) F dX3_isHereBehind_20 (by decide) (fun c20 => ?_) (fun c20 => ?_)
    · replace hf := if_f c20 hf
      exact s_X3_isHereBehind_30 F x1 x2 x3 k7 hk7 u x4 hf
    · replace hf := if_t c20 hf
      refine sm_aload_n F dX3_isHereBehind_23 rfl 0 rfl ?_
      refine sm_get (v := .ref (a 12)) F inX3 0 rfl rfl 1 (by decide) qw1_134 rfl rfl dX3_isHereBehind_24 ?_
      obtain ⟨z27, hz27, hf⟩ := bd_some hf
      refine sm_callV (rest := []) F (ct_X8_holdFeast l D cI cZ cO (fun i => a (pm_M_v12 i)) hz27) (cut_M_v12 cI cZ cO a u z27) rfl rfl rfl qw4_143 qw4_144 qw4_145 qw1_8 qw4_146 hvX8_holdFeast ⟨Nat.le_of_ble_eq_true rfl, Nat.le_of_ble_eq_true rfl⟩ ⟨Nat.zero_le _, Nat.zero_le _⟩ 0 8 rfl rfl rfl rfl (Nat.le_of_ble_eq_true rfl) E0_b (fun _ _ _ _ _ _ => trivial) rfl dX3_isHereBehind_27 [] rfl ?_
      exact s_X3_isHereBehind_30 F x1 x2 x3 k7 hk7 (sM_then u z27) x4 hf
set_option maxRecDepth 100000 in
set_option maxHeartbeats 4000000 in
theorem s_X3_isHereBehind_7 {p : Program} {l : Launch} {e : Env} {s : State} {m : MethodId} {args : Array Value} {below : List Frame} {meth : Method} {c : Code} {A : Nat → Prop} {D : va_G} {cI cZ cO : ClassId} {a : Nat → Nat} {r : Int32} {o : MS} (F : smF p s m args meth c cX3_isHereBehind 5 (some .boolean) RX3 D (tyL cI cZ cO) A) (x1 : Int32) (x2 : Int32) (x3 : Int32)  (n : Nat) (u : MS) (x4 : Int32) (hf : f_X3_isHereBehind_7 x1 x2 x3  n u x4 = some (r, o)) : Sm p l e rmX3_isHereBehind s m args below meth c D A 5 0 0 (smQ below args s D A (some (.int r)) (wM cI cZ cO a o)) 7 [(0, .ref (a 0)), (1, .int x1), (2, .int x2), (3, .int x3), (4, .int x4)] [] (wM cI cZ cO a u) :=
  lq2_ind (P := fun (u : MS) (x4 : Int32) => Sm p l e rmX3_isHereBehind s m args below meth c D A 5 0 0 (smQ below args s D A (some (.int r)) (wM cI cZ cO a o)) 7 [(0, .ref (a 0)), (1, .int x1), (2, .int x2), (3, .int x3), (4, .int x4)] [] (wM cI cZ cO a u)) (fun k7 hk7 u x4 h9 => s_X3_isHereBehind_7_b F x1 x2 x3  k7 hk7 u x4 h9) n u x4 hf
set_option maxRecDepth 100000 in
set_option maxHeartbeats 4000000 in
theorem ct_X3_isHereBehind (l : Launch) (D : va_G) (cI cZ cO : ClassId) (a : Nat → Nat) {u : MS} {x1 : Int32} {x2 : Int32} {x3 : Int32} {r : Int32} {o : MS} (hf : f_X3_isHereBehind u x1 x2 x3 = some (r, o)) : Ct l yX3_isHereBehind (uw (Cond.code yX3_isHereBehind cX3_isHereBehind 5 (some .boolean))) rmX3_isHereBehind D (tyL cI cZ cO) E0 [.ref (a 0), .int x1, .int x2, .int x3] (wM cI cZ cO a u) (some (.int r)) (wM cI cZ cO a o) := by
  refine sm_start (cc := cX3_isHereBehind) (maxL := 5) (ret := (some .boolean)) (own := RX3) (by decide) rfl rfl (Nat.le_of_ble_eq_true rfl) (lv := [(0, .ref (a 0)), (1, .int x1), (2, .int x2), (3, .int x3)]) rfl ?_
  intro p e s m below meth c A F hE hA
  unfold f_X3_isHereBehind at hf
  refine sm_aload_n F dX3_isHereBehind_0 rfl 0 rfl ?_
  obtain ⟨z1, hz1, hf⟩ := bd_some hf
  refine sm_callV (rest := []) F (ct_X3_startAgain l D cI cZ cO a hz1) (cut_M_id cI cZ cO a u z1) rfl rfl rfl qw3_150 qw3_152 qw0_18 qw1_9 qw3_153 hvX3_startAgain ⟨Nat.le_of_ble_eq_true rfl, Nat.le_of_ble_eq_true rfl⟩ ⟨Nat.zero_le _, Nat.zero_le _⟩ 0 3 rfl rfl rfl rfl (Nat.le_of_ble_eq_true rfl) E0_b (fun _ _ _ _ _ _ => trivial) rfl dX3_isHereBehind_1 [] rfl ?_
  refine sm_iconst F dX3_isHereBehind_4 kc_i_0 ?_
  refine sm_istore F [(0, .ref (a 0)), (1, .int x1), (2, .int x2), (3, .int x3), (4, .int (0 : Int32))] [1, 2, 3, 4, 0] dX3_isHereBehind_5 (by decide) rfl ?_
  exact s_X3_isHereBehind_7 F x1 x2 x3 smN z1 (0 : Int32) hf
/-! SoManyForgotten.raised(II)J -/
abbrev rmX10_raised : Room := { frames := 0, cells := 0, slots := 0, locals := 0 }
set_option maxRecDepth 100000 in
theorem hsX10_raised : yX10_raised.cls ≠ "java/lang/invoke/MethodHandle" ∧ yX10_raised.cls ≠ "java/lang/invoke/VarHandle" ∧ (parseMethodDescriptor yX10_raised.desc).map (fun d => d.parameters.length) = some 2 := by decide +kernel
set_option maxRecDepth 100000 in
set_option maxHeartbeats 4000000 in
theorem s_X10_raised_5_b {p : Program} {l : Launch} {e : Env} {s : State} {m : MethodId} {args : Array Value} {below : List Frame} {meth : Method} {c : Code} {A : Nat → Prop} {D : va_G} {tys : List (ClassId × FieldType)} {r : Int64} (F : smF p s m args meth c cX10_raised 5 (some .long) RX10 D tys A) (x0 : Int32) (x1 : Int32) (k5 : Int64 → Int32 → Option Int64) (hk5 : ∀ (x2' : Int64) (x4' : Int32), k5 x2' x4' = some r → Sm p l e rmX10_raised s m args below meth c D A 5 0 0 (smQ below args s D A (some (.long r)) []) 5 [(0, .int x0), (1, .int x1), (2, .long x2'), (4, .int x4')] [] []) (x2 : Int64) (x4 : Int32) (hf : b_X10_raised_5 x0 x1  k5 x2 x4 = some r) : Sm p l e rmX10_raised s m args below meth c D A 5 0 0 (smQ below args s D A (some (.long r)) []) 5 [(0, .int x0), (1, .int x1), (2, .long x2), (4, .int x4)] [] [] := by
  unfold b_X10_raised_5 at hf
  refine sm_iload F dX10_raised_5 3 rfl ?_
  refine sm_iload_n F dX10_raised_7 rfl 1 rfl ?_
  refine sm_icmp_ge (tgt := 22) F dX10_raised_8 (by decide) (fun c8 => ?_) (fun c8 => ?_)
  · replace hf := if_t c8 hf
    refine sm_lload_n F dX10_raised_22 rfl 2 rfl ?_
    exact sm_lret F dX10_raised_23 (Option.some.inj hf) rfl
  · replace hf := if_f c8 hf
    refine sm_lload_n F dX10_raised_11 rfl 2 rfl ?_
    refine sm_iload_n F dX10_raised_12 rfl 0 rfl ?_
    refine sm_i2l F dX10_raised_13 ?_
    refine sm_lmul F dX10_raised_14 ?_
    refine sm_lstore_n F [(0, .int x0), (1, .int x1), (2, .long (x2 * (Int32.toInt64 x0))), (4, .int x4)] [1, 2, 0, 3] dX10_raised_15 rfl (by decide) rfl ?_
    refine sm_iinc F [(0, .int x0), (1, .int x1), (2, .long (x2 * (Int32.toInt64 x0))), (4, .int (x4 + 1))] 3 [1, 2, 3, 0] dX10_raised_16 rfl kc_i_1 (by decide) rfl ?_
    refine sm_goto (tgt := 5) F dX10_raised_19 (by decide) ?_
    exact hk5 (x2 * (Int32.toInt64 x0)) (x4 + 1) hf
set_option maxRecDepth 100000 in
set_option maxHeartbeats 4000000 in
theorem s_X10_raised_5 {p : Program} {l : Launch} {e : Env} {s : State} {m : MethodId} {args : Array Value} {below : List Frame} {meth : Method} {c : Code} {A : Nat → Prop} {D : va_G} {tys : List (ClassId × FieldType)} {r : Int64} (F : smF p s m args meth c cX10_raised 5 (some .long) RX10 D tys A) (x0 : Int32) (x1 : Int32)  (n : Nat) (x2 : Int64) (x4 : Int32) (hf : f_X10_raised_5 x0 x1  n x2 x4 = some r) : Sm p l e rmX10_raised s m args below meth c D A 5 0 0 (smQ below args s D A (some (.long r)) []) 5 [(0, .int x0), (1, .int x1), (2, .long x2), (4, .int x4)] [] [] :=
  lq2_ind (P := fun (x2 : Int64) (x4 : Int32) => Sm p l e rmX10_raised s m args below meth c D A 5 0 0 (smQ below args s D A (some (.long r)) []) 5 [(0, .int x0), (1, .int x1), (2, .long x2), (4, .int x4)] [] []) (fun k5 hk5 x2 x4 h9 => s_X10_raised_5_b F x0 x1  k5 hk5 x2 x4 h9) n x2 x4 hf
set_option maxRecDepth 100000 in
set_option maxHeartbeats 4000000 in
theorem ct_X10_raised (l : Launch) (D : va_G) (tys : List (ClassId × FieldType)) {x0 : Int32} {x1 : Int32} {r : Int64} (hf : f_X10_raised x0 x1 = some r) : Ct l yX10_raised (uw (Cond.code yX10_raised cX10_raised 5 (some .long))) rmX10_raised D tys E0 [.int x0, .int x1] [] (some (.long r)) [] := by
  refine sm_start (cc := cX10_raised) (maxL := 5) (ret := (some .long)) (own := RX10) (by decide) rfl rfl (Nat.le_of_ble_eq_true rfl) (lv := [(0, .int x0), (1, .int x1)]) rfl ?_
  intro p e s m below meth c A F hE hA
  unfold f_X10_raised at hf
  refine sm_lconst F dX10_raised_0 kc_l_1 ?_
  refine sm_lstore_n F [(0, .int x0), (1, .int x1), (2, .long (1 : Int64))] [1, 2, 0] dX10_raised_1 rfl (by decide) rfl ?_
  refine sm_iconst F dX10_raised_2 kc_i_0 ?_
  refine sm_istore F [(0, .int x0), (1, .int x1), (2, .long (1 : Int64)), (4, .int (0 : Int32))] [1, 2, 3, 0] dX10_raised_3 (by decide) rfl ?_
  exact s_X10_raised_5 F x0 x1 smN (1 : Int64) (0 : Int32) hf
/-! SoManyForgotten$Mind.isMemoryAsTold(IILSoManyForgotten$Row;)Z -/
abbrev rmX3_isMemoryAsTold : Room := { frames := 4, cells := 0, slots := 0, locals := 94 }
set_option maxRecDepth 100000 in
theorem hvX3_isMemoryAsTold : yX3_isMemoryAsTold.cls = RX3 ∧ yX3_isMemoryAsTold.cls ≠ "java/lang/invoke/MethodHandle" ∧ yX3_isMemoryAsTold.cls ≠ "java/lang/invoke/VarHandle" ∧ (parseMethodDescriptor yX3_isMemoryAsTold.desc).map (fun d => d.parameters.length) = some 3 := by decide +kernel
set_option maxRecDepth 100000 in
set_option maxHeartbeats 4000000 in
theorem s_X3_isMemoryAsTold_3_b {p : Program} {l : Launch} {e : Env} {s : State} {m : MethodId} {args : Array Value} {below : List Frame} {meth : Method} {c : Code} {A : Nat → Prop} {D : va_G} {cI cZ cO : ClassId} {a : Nat → Nat} {r : Int32} {o : MS} (F : smF p s m args meth c cX3_isMemoryAsTold 5 (some .boolean) RX3 D (tyL cI cZ cO) A) (x1 : Int32) (x2 : Int32) (k3 : MS → Int32 → Option (Int32 × (MS))) (hk3 : ∀ (u' : MS) (x4' : Int32), k3 u' x4' = some (r, o) → Sm p l e rmX3_isMemoryAsTold s m args below meth c D A 5 0 0 (smQ below args s D A (some (.int r)) (wM cI cZ cO a o)) 3 [(0, .ref (a 0)), (1, .int x1), (2, .int x2), (3, .ref (a 4)), (4, .int x4')] [] (wM cI cZ cO a u')) (u : MS) (x4 : Int32) (hf : b_X3_isMemoryAsTold_3 x1 x2  k3 u x4 = some (r, o)) : Sm p l e rmX3_isMemoryAsTold s m args below meth c D A 5 0 0 (smQ below args s D A (some (.int r)) (wM cI cZ cO a o)) 3 [(0, .ref (a 0)), (1, .int x1), (2, .int x2), (3, .ref (a 4)), (4, .int x4)] [] (wM cI cZ cO a u) := by
  unfold b_X3_isMemoryAsTold_3 at hf
  refine sm_iload F dX3_isMemoryAsTold_3 4 rfl ?_
  refine sm_aload_n F dX3_isMemoryAsTold_5 rfl 3 rfl ?_
  refine sm_get (v := .int (gR_size (gM_row u))) F inX6 4 rfl rfl 1 (by decide) qw1_178 rfl rfl dX3_isMemoryAsTold_6 ?_
  refine sm_icmp_ge (tgt := 46) F dX3_isMemoryAsTold_9 (by decide) (fun c9 => ?_) (fun c9 => ?_)
  · replace hf := if_t c9 hf
    refine sm_iconst F dX3_isMemoryAsTold_46 kc_i_1 ?_
    exact sm_zret F dX3_isMemoryAsTold_47 rfl (Prod.mk.inj (Option.some.inj hf)).1 (congrArg (fun z => (wM cI cZ cO a z)) (Prod.mk.inj (Option.some.inj hf)).2)
  · replace hf := if_f c9 hf
    refine sm_aload_n F dX3_isMemoryAsTold_12 rfl 0 rfl ?_
    refine sm_get (v := .ref (a 12)) F inX3 0 rfl rfl 1 (by decide) qw1_134 rfl rfl dX3_isMemoryAsTold_13 ?_
    refine sm_iload_n F dX3_isMemoryAsTold_16 rfl 2 rfl ?_
    refine sm_iload_n F dX3_isMemoryAsTold_17 rfl 1 rfl ?_
    obtain ⟨z18, hz18, hf⟩ := bd_some hf
    refine sm_callV (rest := []) F (ct_X8_memoryOf l D cI cZ cO (fun i => a (pm_M_v12 i)) hz18) (cut_M_v12_ro cI cZ cO a u) rfl rfl rfl qw4_178 qw3_79 qw3_80 qw1_8 qw3_81 hvX8_memoryOf ⟨Nat.le_of_ble_eq_true rfl, Nat.le_of_ble_eq_true rfl⟩ ⟨Nat.zero_le _, Nat.zero_le _⟩ 0 8 rfl rfl rfl rfl (Nat.le_of_ble_eq_true rfl) E0_b (fun _ _ _ _ _ _ => trivial) rfl dX3_isMemoryAsTold_18 [.int z18] rfl ?_
    refine sm_aload_n F dX3_isMemoryAsTold_21 rfl 3 rfl ?_
    refine sm_get (v := .ref (a 5)) F inX6 4 rfl rfl 0 (by decide) qw1_176 rfl rfl dX3_isMemoryAsTold_22 ?_
    refine sm_iload F dX3_isMemoryAsTold_25 4 rfl ?_
    obtain ⟨h27, hf⟩ := ck_some hf
    refine sm_iald F 5 0 rfl rfl h27 dX3_isMemoryAsTold_27 ?_
    refine sm_icmp_eq (tgt := 33) F dX3_isMemoryAsTold_28 (by decide) (fun c28 => ?_) (fun c28 => ?_)
    · replace hf := if_t c28 hf
      refine sm_aload_n F dX3_isMemoryAsTold_33 rfl 0 rfl ?_
      refine sm_get (v := .ref (a 12)) F inX3 0 rfl rfl 1 (by decide) qw1_134 rfl rfl dX3_isMemoryAsTold_34 ?_
      obtain ⟨z37, hz37, hf⟩ := bd_some hf
      refine sm_callV (rest := []) F (ct_X8_passWeek l D cI cZ cO (fun i => a (pm_M_v12 i)) hz37) (cut_M_v12 cI cZ cO a u z37) rfl rfl rfl qw3_196 qw2_223 qw2_224 qw1_8 qw2_225 hvX8_passWeek ⟨Nat.le_of_ble_eq_true rfl, Nat.le_of_ble_eq_true rfl⟩ ⟨Nat.zero_le _, Nat.zero_le _⟩ 0 8 rfl rfl rfl rfl (Nat.le_of_ble_eq_true rfl) E0_b (fun _ _ _ _ _ _ => trivial) rfl dX3_isMemoryAsTold_37 [] rfl ?_
      refine sm_iinc F [(0, .ref (a 0)), (1, .int x1), (2, .int x2), (3, .ref (a 4)), (4, .int (x4 + 1))] 4 [1, 2, 3, 4, 0] dX3_isMemoryAsTold_40 rfl kc_i_1 (by decide) rfl ?_
      refine sm_goto (tgt := 3) F dX3_isMemoryAsTold_43 (by decide) ?_
      exact hk3 (sM_then u z37) (x4 + 1) hf
    · replace hf := if_f c28 hf
      refine sm_iconst F dX3_isMemoryAsTold_31 kc_i_0 ?_
      exact sm_zret F dX3_isMemoryAsTold_32 rfl (Prod.mk.inj (Option.some.inj hf)).1 (congrArg (fun z => (wM cI cZ cO a z)) (Prod.mk.inj (Option.some.inj hf)).2)
set_option maxRecDepth 100000 in
set_option maxHeartbeats 4000000 in
theorem s_X3_isMemoryAsTold_3 {p : Program} {l : Launch} {e : Env} {s : State} {m : MethodId} {args : Array Value} {below : List Frame} {meth : Method} {c : Code} {A : Nat → Prop} {D : va_G} {cI cZ cO : ClassId} {a : Nat → Nat} {r : Int32} {o : MS} (F : smF p s m args meth c cX3_isMemoryAsTold 5 (some .boolean) RX3 D (tyL cI cZ cO) A) (x1 : Int32) (x2 : Int32)  (n : Nat) (u : MS) (x4 : Int32) (hf : f_X3_isMemoryAsTold_3 x1 x2  n u x4 = some (r, o)) : Sm p l e rmX3_isMemoryAsTold s m args below meth c D A 5 0 0 (smQ below args s D A (some (.int r)) (wM cI cZ cO a o)) 3 [(0, .ref (a 0)), (1, .int x1), (2, .int x2), (3, .ref (a 4)), (4, .int x4)] [] (wM cI cZ cO a u) :=
  lq2_ind (P := fun (u : MS) (x4 : Int32) => Sm p l e rmX3_isMemoryAsTold s m args below meth c D A 5 0 0 (smQ below args s D A (some (.int r)) (wM cI cZ cO a o)) 3 [(0, .ref (a 0)), (1, .int x1), (2, .int x2), (3, .ref (a 4)), (4, .int x4)] [] (wM cI cZ cO a u)) (fun k3 hk3 u x4 h9 => s_X3_isMemoryAsTold_3_b F x1 x2  k3 hk3 u x4 h9) n u x4 hf
set_option maxRecDepth 100000 in
set_option maxHeartbeats 4000000 in
theorem ct_X3_isMemoryAsTold (l : Launch) (D : va_G) (cI cZ cO : ClassId) (a : Nat → Nat) {u : MS} {x1 : Int32} {x2 : Int32} {r : Int32} {o : MS} (hf : f_X3_isMemoryAsTold u x1 x2 = some (r, o)) : Ct l yX3_isMemoryAsTold (uw (Cond.code yX3_isMemoryAsTold cX3_isMemoryAsTold 5 (some .boolean))) rmX3_isMemoryAsTold D (tyL cI cZ cO) E0 [.ref (a 0), .int x1, .int x2, .ref (a 4)] (wM cI cZ cO a u) (some (.int r)) (wM cI cZ cO a o) := by
  refine sm_start (cc := cX3_isMemoryAsTold) (maxL := 5) (ret := (some .boolean)) (own := RX3) (by decide) rfl rfl (Nat.le_of_ble_eq_true rfl) (lv := [(0, .ref (a 0)), (1, .int x1), (2, .int x2), (3, .ref (a 4))]) rfl ?_
  intro p e s m below meth c A F hE hA
  unfold f_X3_isMemoryAsTold at hf
  refine sm_iconst F dX3_isMemoryAsTold_0 kc_i_0 ?_
  refine sm_istore F [(0, .ref (a 0)), (1, .int x1), (2, .int x2), (3, .ref (a 4)), (4, .int (0 : Int32))] [1, 2, 3, 4, 0] dX3_isMemoryAsTold_1 (by decide) rfl ?_
  exact s_X3_isMemoryAsTold_3 F x1 x2 smN u (0 : Int32) hf
/-! SoManyForgotten$Mind.kindsThatFit(IILSoManyForgotten$Row;)I -/
abbrev rmX3_kindsThatFit : Room := { frames := 5, cells := 0, slots := 0, locals := 118 }
set_option maxRecDepth 100000 in
theorem hvX3_kindsThatFit : yX3_kindsThatFit.cls = RX3 ∧ yX3_kindsThatFit.cls ≠ "java/lang/invoke/MethodHandle" ∧ yX3_kindsThatFit.cls ≠ "java/lang/invoke/VarHandle" ∧ (parseMethodDescriptor yX3_kindsThatFit.desc).map (fun d => d.parameters.length) = some 3 := by decide +kernel
set_option maxRecDepth 100000 in
set_option maxHeartbeats 4000000 in
theorem s_X3_kindsThatFit_6_b {p : Program} {l : Launch} {e : Env} {s : State} {m : MethodId} {args : Array Value} {below : List Frame} {meth : Method} {c : Code} {A : Nat → Prop} {D : va_G} {cI cZ cO : ClassId} {a : Nat → Nat} {r : Int32} {o : MS} (F : smF p s m args meth c cX3_kindsThatFit 6 (some .int) RX3 D (tyL cI cZ cO) A) (x1 : Int32) (x2 : Int32) (k6 : MS → Int32 → Int32 → Option (Int32 × (MS))) (hk6 : ∀ (u' : MS) (x4' : Int32) (x5' : Int32), k6 u' x4' x5' = some (r, o) → Sm p l e rmX3_kindsThatFit s m args below meth c D A 6 0 0 (smQ below args s D A (some (.int r)) (wM cI cZ cO a o)) 6 [(0, .ref (a 0)), (1, .int x1), (2, .int x2), (3, .ref (a 4)), (4, .int x4'), (5, .int x5')] [] (wM cI cZ cO a u')) (u : MS) (x4 : Int32) (x5 : Int32) (hf : b_X3_kindsThatFit_6 x1 x2  k6 u x4 x5 = some (r, o)) : Sm p l e rmX3_kindsThatFit s m args below meth c D A 6 0 0 (smQ below args s D A (some (.int r)) (wM cI cZ cO a o)) 6 [(0, .ref (a 0)), (1, .int x1), (2, .int x2), (3, .ref (a 4)), (4, .int x4), (5, .int x5)] [] (wM cI cZ cO a u) := by
  unfold b_X3_kindsThatFit_6 at hf
  refine sm_iload F dX3_kindsThatFit_6 5 rfl ?_
  refine sm_bipush F dX3_kindsThatFit_8 kc_b_6 ?_
  refine sm_icmp_ge (tgt := 57) F dX3_kindsThatFit_10 (by decide) (fun c10 => ?_) (fun c10 => ?_)
  · replace hf := if_t c10 hf
    refine sm_iload F dX3_kindsThatFit_57 4 rfl ?_
    exact sm_iret F dX3_kindsThatFit_59 (Prod.mk.inj (Option.some.inj hf)).1 (congrArg (fun z => (wM cI cZ cO a z)) (Prod.mk.inj (Option.some.inj hf)).2)
  · replace hf := if_f c10 hf
    refine sm_aload_n F dX3_kindsThatFit_13 rfl 0 rfl ?_
    obtain ⟨z14, hz14, hf⟩ := bd_some hf
    refine sm_callV (rest := []) F (ct_X3_startAgain l D cI cZ cO a hz14) (cut_M_id cI cZ cO a u z14) rfl rfl rfl qw3_150 qw3_152 qw0_18 qw1_9 qw3_153 hvX3_startAgain ⟨Nat.le_of_ble_eq_true rfl, Nat.le_of_ble_eq_true rfl⟩ ⟨Nat.zero_le _, Nat.zero_le _⟩ 0 3 rfl rfl rfl rfl (Nat.le_of_ble_eq_true rfl) E0_b (fun _ _ _ _ _ _ => trivial) rfl dX3_kindsThatFit_14 [] rfl ?_
    refine sm_aload_n F dX3_kindsThatFit_17 rfl 0 rfl ?_
    refine sm_get (v := .ref (a 12)) F inX3 0 rfl rfl 1 (by decide) qw1_134 rfl rfl dX3_kindsThatFit_18 ?_
    refine sm_get (v := .ref (a 13)) F inX8 12 rfl rfl 1 (by decide) qw1_81 rfl rfl dX3_kindsThatFit_21 ?_
    refine sm_iload_n F dX3_kindsThatFit_24 rfl 1 rfl ?_
    refine sm_iload F dX3_kindsThatFit_25 5 rfl ?_
    obtain ⟨h27, hf⟩ := ck_some hf
    refine sm_iast F 13 0 rfl rfl h27 (wM cI cZ cO a (sM_then z14 (sV_kind (gM_then z14) (upd (gV_kind (gM_then z14)) (Int32.toNatClampNeg x1) x5)))) rfl dX3_kindsThatFit_27 ?_
    refine sm_iload F dX3_kindsThatFit_28 4 rfl ?_
    refine sm_aload_n F dX3_kindsThatFit_30 rfl 0 rfl ?_
    refine sm_iload_n F dX3_kindsThatFit_31 rfl 1 rfl ?_
    refine sm_iload_n F dX3_kindsThatFit_32 rfl 2 rfl ?_
    refine sm_aload_n F dX3_kindsThatFit_33 rfl 3 rfl ?_
    obtain ⟨z34, hz34, hf⟩ := bd_some hf
    refine sm_callV (rest := [.int x4]) F (ct_X3_isMemoryAsTold l D cI cZ cO a hz34) (cut_M_id cI cZ cO a (sM_then z14 (sV_kind (gM_then z14) (upd (gV_kind (gM_then z14)) (Int32.toNatClampNeg x1) x5))) z34.2) rfl rfl rfl qw4_174 qw4_176 qw0_26 qw1_9 qw4_177 hvX3_isMemoryAsTold ⟨Nat.le_of_ble_eq_true rfl, Nat.le_of_ble_eq_true rfl⟩ ⟨Nat.zero_le _, Nat.zero_le _⟩ 0 3 rfl rfl rfl rfl (Nat.le_of_ble_eq_true rfl) E0_b (fun _ _ _ _ _ _ => trivial) rfl dX3_kindsThatFit_34 [.int z34.1, .int x4] rfl ?_
    refine sm_if_eq (tgt := 47) F dX3_kindsThatFit_37 (by decide) (fun c37 => ?_) (fun c37 => ?_)
    · replace hf := if_t c37 hf
      refine sm_iconst F dX3_kindsThatFit_47 kc_i_0 ?_
      refine sm_ior F dX3_kindsThatFit_48 ?_
      refine sm_istore F [(0, .ref (a 0)), (1, .int x1), (2, .int x2), (3, .ref (a 4)), (4, .int (x4 ||| (0 : Int32))), (5, .int x5)] [1, 2, 3, 4, 0, 5] dX3_kindsThatFit_49 (by decide) rfl ?_
      refine sm_iinc F [(0, .ref (a 0)), (1, .int x1), (2, .int x2), (3, .ref (a 4)), (4, .int (x4 ||| (0 : Int32))), (5, .int (x5 + 1))] 5 [1, 2, 3, 4, 5, 0] dX3_kindsThatFit_51 rfl kc_i_1 (by decide) rfl ?_
      refine sm_goto (tgt := 6) F dX3_kindsThatFit_54 (by decide) ?_
      exact hk6 z34.2 (x4 ||| (0 : Int32)) (x5 + 1) hf
    · replace hf := if_f c37 hf
      refine sm_iconst F dX3_kindsThatFit_40 kc_i_1 ?_
      refine sm_iload F dX3_kindsThatFit_41 5 rfl ?_
      refine sm_ishl F dX3_kindsThatFit_43 ?_
      refine sm_goto (tgt := 48) F dX3_kindsThatFit_44 (by decide) ?_
      refine sm_ior F dX3_kindsThatFit_48 ?_
      refine sm_istore F [(0, .ref (a 0)), (1, .int x1), (2, .int x2), (3, .ref (a 4)), (4, .int (x4 ||| ((1 : Int32) <<< (x5 &&& 31)))), (5, .int x5)] [1, 2, 3, 4, 0, 5] dX3_kindsThatFit_49 (by decide) rfl ?_
      refine sm_iinc F [(0, .ref (a 0)), (1, .int x1), (2, .int x2), (3, .ref (a 4)), (4, .int (x4 ||| ((1 : Int32) <<< (x5 &&& 31)))), (5, .int (x5 + 1))] 5 [1, 2, 3, 4, 5, 0] dX3_kindsThatFit_51 rfl kc_i_1 (by decide) rfl ?_
      refine sm_goto (tgt := 6) F dX3_kindsThatFit_54 (by decide) ?_
      exact hk6 z34.2 (x4 ||| ((1 : Int32) <<< (x5 &&& 31))) (x5 + 1) hf
set_option maxRecDepth 100000 in
set_option maxHeartbeats 4000000 in
theorem s_X3_kindsThatFit_6 {p : Program} {l : Launch} {e : Env} {s : State} {m : MethodId} {args : Array Value} {below : List Frame} {meth : Method} {c : Code} {A : Nat → Prop} {D : va_G} {cI cZ cO : ClassId} {a : Nat → Nat} {r : Int32} {o : MS} (F : smF p s m args meth c cX3_kindsThatFit 6 (some .int) RX3 D (tyL cI cZ cO) A) (x1 : Int32) (x2 : Int32)  (n : Nat) (u : MS) (x4 : Int32) (x5 : Int32) (hf : f_X3_kindsThatFit_6 x1 x2  n u x4 x5 = some (r, o)) : Sm p l e rmX3_kindsThatFit s m args below meth c D A 6 0 0 (smQ below args s D A (some (.int r)) (wM cI cZ cO a o)) 6 [(0, .ref (a 0)), (1, .int x1), (2, .int x2), (3, .ref (a 4)), (4, .int x4), (5, .int x5)] [] (wM cI cZ cO a u) :=
  lq3_ind (P := fun (u : MS) (x4 : Int32) (x5 : Int32) => Sm p l e rmX3_kindsThatFit s m args below meth c D A 6 0 0 (smQ below args s D A (some (.int r)) (wM cI cZ cO a o)) 6 [(0, .ref (a 0)), (1, .int x1), (2, .int x2), (3, .ref (a 4)), (4, .int x4), (5, .int x5)] [] (wM cI cZ cO a u)) (fun k6 hk6 u x4 x5 h9 => s_X3_kindsThatFit_6_b F x1 x2  k6 hk6 u x4 x5 h9) n u x4 x5 hf
set_option maxRecDepth 100000 in
set_option maxHeartbeats 4000000 in
theorem ct_X3_kindsThatFit (l : Launch) (D : va_G) (cI cZ cO : ClassId) (a : Nat → Nat) {u : MS} {x1 : Int32} {x2 : Int32} {r : Int32} {o : MS} (hf : f_X3_kindsThatFit u x1 x2 = some (r, o)) : Ct l yX3_kindsThatFit (uw (Cond.code yX3_kindsThatFit cX3_kindsThatFit 6 (some .int))) rmX3_kindsThatFit D (tyL cI cZ cO) E0 [.ref (a 0), .int x1, .int x2, .ref (a 4)] (wM cI cZ cO a u) (some (.int r)) (wM cI cZ cO a o) := by
  refine sm_start (cc := cX3_kindsThatFit) (maxL := 6) (ret := (some .int)) (own := RX3) (by decide) rfl rfl (Nat.le_of_ble_eq_true rfl) (lv := [(0, .ref (a 0)), (1, .int x1), (2, .int x2), (3, .ref (a 4))]) rfl ?_
  intro p e s m below meth c A F hE hA
  unfold f_X3_kindsThatFit at hf
  refine sm_iconst F dX3_kindsThatFit_0 kc_i_0 ?_
  refine sm_istore F [(0, .ref (a 0)), (1, .int x1), (2, .int x2), (3, .ref (a 4)), (4, .int (0 : Int32))] [1, 2, 3, 4, 0] dX3_kindsThatFit_1 (by decide) rfl ?_
  refine sm_iconst F dX3_kindsThatFit_3 kc_i_0 ?_
  refine sm_istore F [(0, .ref (a 0)), (1, .int x1), (2, .int x2), (3, .ref (a 4)), (4, .int (0 : Int32)), (5, .int (0 : Int32))] [1, 2, 3, 4, 5, 0] dX3_kindsThatFit_4 (by decide) rfl ?_
  exact s_X3_kindsThatFit_6 F x1 x2 smN u (0 : Int32) (0 : Int32) hf
/-! SoManyForgotten$Mind.figuresThatFit(IILSoManyForgotten$Row;)I -/
abbrev rmX3_figuresThatFit : Room := { frames := 5, cells := 0, slots := 0, locals := 118 }
set_option maxRecDepth 100000 in
theorem hvX3_figuresThatFit : yX3_figuresThatFit.cls = RX3 ∧ yX3_figuresThatFit.cls ≠ "java/lang/invoke/MethodHandle" ∧ yX3_figuresThatFit.cls ≠ "java/lang/invoke/VarHandle" ∧ (parseMethodDescriptor yX3_figuresThatFit.desc).map (fun d => d.parameters.length) = some 3 := by decide +kernel
set_option maxRecDepth 100000 in
set_option maxHeartbeats 4000000 in
theorem s_X3_figuresThatFit_6_b {p : Program} {l : Launch} {e : Env} {s : State} {m : MethodId} {args : Array Value} {below : List Frame} {meth : Method} {c : Code} {A : Nat → Prop} {D : va_G} {cI cZ cO : ClassId} {a : Nat → Nat} {r : Int32} {o : MS} (F : smF p s m args meth c cX3_figuresThatFit 6 (some .int) RX3 D (tyL cI cZ cO) A) (x1 : Int32) (x2 : Int32) (k6 : MS → Int32 → Int32 → Option (Int32 × (MS))) (hk6 : ∀ (u' : MS) (x4' : Int32) (x5' : Int32), k6 u' x4' x5' = some (r, o) → Sm p l e rmX3_figuresThatFit s m args below meth c D A 6 0 0 (smQ below args s D A (some (.int r)) (wM cI cZ cO a o)) 6 [(0, .ref (a 0)), (1, .int x1), (2, .int x2), (3, .ref (a 4)), (4, .int x4'), (5, .int x5')] [] (wM cI cZ cO a u')) (u : MS) (x4 : Int32) (x5 : Int32) (hf : b_X3_figuresThatFit_6 x1 x2  k6 u x4 x5 = some (r, o)) : Sm p l e rmX3_figuresThatFit s m args below meth c D A 6 0 0 (smQ below args s D A (some (.int r)) (wM cI cZ cO a o)) 6 [(0, .ref (a 0)), (1, .int x1), (2, .int x2), (3, .ref (a 4)), (4, .int x4), (5, .int x5)] [] (wM cI cZ cO a u) := by
  unfold b_X3_figuresThatFit_6 at hf
  refine sm_iload F dX3_figuresThatFit_6 5 rfl ?_
  refine sm_bipush F dX3_figuresThatFit_8 kc_b_9 ?_
  refine sm_icmp_gt (tgt := 57) F dX3_figuresThatFit_10 (by decide) (fun c10 => ?_) (fun c10 => ?_)
  · replace hf := if_t c10 hf
    refine sm_iload F dX3_figuresThatFit_57 4 rfl ?_
    exact sm_iret F dX3_figuresThatFit_59 (Prod.mk.inj (Option.some.inj hf)).1 (congrArg (fun z => (wM cI cZ cO a z)) (Prod.mk.inj (Option.some.inj hf)).2)
  · replace hf := if_f c10 hf
    refine sm_aload_n F dX3_figuresThatFit_13 rfl 0 rfl ?_
    obtain ⟨z14, hz14, hf⟩ := bd_some hf
    refine sm_callV (rest := []) F (ct_X3_startAgain l D cI cZ cO a hz14) (cut_M_id cI cZ cO a u z14) rfl rfl rfl qw3_150 qw3_152 qw0_18 qw1_9 qw3_153 hvX3_startAgain ⟨Nat.le_of_ble_eq_true rfl, Nat.le_of_ble_eq_true rfl⟩ ⟨Nat.zero_le _, Nat.zero_le _⟩ 0 3 rfl rfl rfl rfl (Nat.le_of_ble_eq_true rfl) E0_b (fun _ _ _ _ _ _ => trivial) rfl dX3_figuresThatFit_14 [] rfl ?_
    refine sm_aload_n F dX3_figuresThatFit_17 rfl 0 rfl ?_
    refine sm_get (v := .ref (a 12)) F inX3 0 rfl rfl 1 (by decide) qw1_134 rfl rfl dX3_figuresThatFit_18 ?_
    refine sm_get (v := .ref (a 14)) F inX8 12 rfl rfl 2 (by decide) qw1_84 rfl rfl dX3_figuresThatFit_21 ?_
    refine sm_iload_n F dX3_figuresThatFit_24 rfl 1 rfl ?_
    refine sm_iload F dX3_figuresThatFit_25 5 rfl ?_
    obtain ⟨h27, hf⟩ := ck_some hf
    refine sm_iast F 14 0 rfl rfl h27 (wM cI cZ cO a (sM_then z14 (sV_fig (gM_then z14) (upd (gV_fig (gM_then z14)) (Int32.toNatClampNeg x1) x5)))) rfl dX3_figuresThatFit_27 ?_
    refine sm_iload F dX3_figuresThatFit_28 4 rfl ?_
    refine sm_aload_n F dX3_figuresThatFit_30 rfl 0 rfl ?_
    refine sm_iload_n F dX3_figuresThatFit_31 rfl 1 rfl ?_
    refine sm_iload_n F dX3_figuresThatFit_32 rfl 2 rfl ?_
    refine sm_aload_n F dX3_figuresThatFit_33 rfl 3 rfl ?_
    obtain ⟨z34, hz34, hf⟩ := bd_some hf
    refine sm_callV (rest := [.int x4]) F (ct_X3_isMemoryAsTold l D cI cZ cO a hz34) (cut_M_id cI cZ cO a (sM_then z14 (sV_fig (gM_then z14) (upd (gV_fig (gM_then z14)) (Int32.toNatClampNeg x1) x5))) z34.2) rfl rfl rfl qw4_174 qw4_176 qw0_26 qw1_9 qw4_177 hvX3_isMemoryAsTold ⟨Nat.le_of_ble_eq_true rfl, Nat.le_of_ble_eq_true rfl⟩ ⟨Nat.zero_le _, Nat.zero_le _⟩ 0 3 rfl rfl rfl rfl (Nat.le_of_ble_eq_true rfl) E0_b (fun _ _ _ _ _ _ => trivial) rfl dX3_figuresThatFit_34 [.int z34.1, .int x4] rfl ?_
    refine sm_if_eq (tgt := 47) F dX3_figuresThatFit_37 (by decide) (fun c37 => ?_) (fun c37 => ?_)
    · replace hf := if_t c37 hf
      refine sm_iconst F dX3_figuresThatFit_47 kc_i_0 ?_
      refine sm_ior F dX3_figuresThatFit_48 ?_
      refine sm_istore F [(0, .ref (a 0)), (1, .int x1), (2, .int x2), (3, .ref (a 4)), (4, .int (x4 ||| (0 : Int32))), (5, .int x5)] [1, 2, 3, 4, 0, 5] dX3_figuresThatFit_49 (by decide) rfl ?_
      refine sm_iinc F [(0, .ref (a 0)), (1, .int x1), (2, .int x2), (3, .ref (a 4)), (4, .int (x4 ||| (0 : Int32))), (5, .int (x5 + 1))] 5 [1, 2, 3, 4, 5, 0] dX3_figuresThatFit_51 rfl kc_i_1 (by decide) rfl ?_
      refine sm_goto (tgt := 6) F dX3_figuresThatFit_54 (by decide) ?_
      exact hk6 z34.2 (x4 ||| (0 : Int32)) (x5 + 1) hf
    · replace hf := if_f c37 hf
      refine sm_iconst F dX3_figuresThatFit_40 kc_i_1 ?_
      refine sm_iload F dX3_figuresThatFit_41 5 rfl ?_
      refine sm_ishl F dX3_figuresThatFit_43 ?_
      refine sm_goto (tgt := 48) F dX3_figuresThatFit_44 (by decide) ?_
      refine sm_ior F dX3_figuresThatFit_48 ?_
      refine sm_istore F [(0, .ref (a 0)), (1, .int x1), (2, .int x2), (3, .ref (a 4)), (4, .int (x4 ||| ((1 : Int32) <<< (x5 &&& 31)))), (5, .int x5)] [1, 2, 3, 4, 0, 5] dX3_figuresThatFit_49 (by decide) rfl ?_
      refine sm_iinc F [(0, .ref (a 0)), (1, .int x1), (2, .int x2), (3, .ref (a 4)), (4, .int (x4 ||| ((1 : Int32) <<< (x5 &&& 31)))), (5, .int (x5 + 1))] 5 [1, 2, 3, 4, 5, 0] dX3_figuresThatFit_51 rfl kc_i_1 (by decide) rfl ?_
      refine sm_goto (tgt := 6) F dX3_figuresThatFit_54 (by decide) ?_
      exact hk6 z34.2 (x4 ||| ((1 : Int32) <<< (x5 &&& 31))) (x5 + 1) hf
set_option maxRecDepth 100000 in
set_option maxHeartbeats 4000000 in
theorem s_X3_figuresThatFit_6 {p : Program} {l : Launch} {e : Env} {s : State} {m : MethodId} {args : Array Value} {below : List Frame} {meth : Method} {c : Code} {A : Nat → Prop} {D : va_G} {cI cZ cO : ClassId} {a : Nat → Nat} {r : Int32} {o : MS} (F : smF p s m args meth c cX3_figuresThatFit 6 (some .int) RX3 D (tyL cI cZ cO) A) (x1 : Int32) (x2 : Int32)  (n : Nat) (u : MS) (x4 : Int32) (x5 : Int32) (hf : f_X3_figuresThatFit_6 x1 x2  n u x4 x5 = some (r, o)) : Sm p l e rmX3_figuresThatFit s m args below meth c D A 6 0 0 (smQ below args s D A (some (.int r)) (wM cI cZ cO a o)) 6 [(0, .ref (a 0)), (1, .int x1), (2, .int x2), (3, .ref (a 4)), (4, .int x4), (5, .int x5)] [] (wM cI cZ cO a u) :=
  lq3_ind (P := fun (u : MS) (x4 : Int32) (x5 : Int32) => Sm p l e rmX3_figuresThatFit s m args below meth c D A 6 0 0 (smQ below args s D A (some (.int r)) (wM cI cZ cO a o)) 6 [(0, .ref (a 0)), (1, .int x1), (2, .int x2), (3, .ref (a 4)), (4, .int x4), (5, .int x5)] [] (wM cI cZ cO a u)) (fun k6 hk6 u x4 x5 h9 => s_X3_figuresThatFit_6_b F x1 x2  k6 hk6 u x4 x5 h9) n u x4 x5 hf
set_option maxRecDepth 100000 in
set_option maxHeartbeats 4000000 in
theorem ct_X3_figuresThatFit (l : Launch) (D : va_G) (cI cZ cO : ClassId) (a : Nat → Nat) {u : MS} {x1 : Int32} {x2 : Int32} {r : Int32} {o : MS} (hf : f_X3_figuresThatFit u x1 x2 = some (r, o)) : Ct l yX3_figuresThatFit (uw (Cond.code yX3_figuresThatFit cX3_figuresThatFit 6 (some .int))) rmX3_figuresThatFit D (tyL cI cZ cO) E0 [.ref (a 0), .int x1, .int x2, .ref (a 4)] (wM cI cZ cO a u) (some (.int r)) (wM cI cZ cO a o) := by
  refine sm_start (cc := cX3_figuresThatFit) (maxL := 6) (ret := (some .int)) (own := RX3) (by decide) rfl rfl (Nat.le_of_ble_eq_true rfl) (lv := [(0, .ref (a 0)), (1, .int x1), (2, .int x2), (3, .ref (a 4))]) rfl ?_
  intro p e s m below meth c A F hE hA
  unfold f_X3_figuresThatFit at hf
  refine sm_iconst F dX3_figuresThatFit_0 kc_i_0 ?_
  refine sm_istore F [(0, .ref (a 0)), (1, .int x1), (2, .int x2), (3, .ref (a 4)), (4, .int (0 : Int32))] [1, 2, 3, 4, 0] dX3_figuresThatFit_1 (by decide) rfl ?_
  refine sm_iconst F dX3_figuresThatFit_3 kc_i_0 ?_
  refine sm_istore F [(0, .ref (a 0)), (1, .int x1), (2, .int x2), (3, .ref (a 4)), (4, .int (0 : Int32)), (5, .int (0 : Int32))] [1, 2, 3, 4, 5, 0] dX3_figuresThatFit_4 (by decide) rfl ?_
  exact s_X3_figuresThatFit_6 F x1 x2 smN u (0 : Int32) (0 : Int32) hf
/-! SoManyForgotten$Mind.firstNotSo(LSoManyForgotten$Row;)I -/
abbrev rmX3_firstNotSo : Room := { frames := 4, cells := 0, slots := 0, locals := 94 }
set_option maxRecDepth 100000 in
theorem hvX3_firstNotSo : yX3_firstNotSo.cls = RX3 ∧ yX3_firstNotSo.cls ≠ "java/lang/invoke/MethodHandle" ∧ yX3_firstNotSo.cls ≠ "java/lang/invoke/VarHandle" ∧ (parseMethodDescriptor yX3_firstNotSo.desc).map (fun d => d.parameters.length) = some 1 := by decide +kernel
set_option maxRecDepth 100000 in
set_option maxHeartbeats 4000000 in
theorem s_X3_firstNotSo_6_b {p : Program} {l : Launch} {e : Env} {s : State} {m : MethodId} {args : Array Value} {below : List Frame} {meth : Method} {c : Code} {A : Nat → Prop} {D : va_G} {cI cZ cO : ClassId} {a : Nat → Nat} {r : Int32} {o : MS} (F : smF p s m args meth c cX3_firstNotSo 3 (some .int) RX3 D (tyL cI cZ cO) A)  (k6 : MS → Int32 → Option (Int32 × (MS))) (hk6 : ∀ (u' : MS) (x2' : Int32), k6 u' x2' = some (r, o) → Sm p l e rmX3_firstNotSo s m args below meth c D A 3 0 0 (smQ below args s D A (some (.int r)) (wM cI cZ cO a o)) 6 [(0, .ref (a 0)), (1, .ref (a 4)), (2, .int x2')] [] (wM cI cZ cO a u')) (u : MS) (x2 : Int32) (hf : b_X3_firstNotSo_6   k6 u x2 = some (r, o)) : Sm p l e rmX3_firstNotSo s m args below meth c D A 3 0 0 (smQ below args s D A (some (.int r)) (wM cI cZ cO a o)) 6 [(0, .ref (a 0)), (1, .ref (a 4)), (2, .int x2)] [] (wM cI cZ cO a u) := by
  unfold b_X3_firstNotSo_6 at hf
  refine sm_iload_n F dX3_firstNotSo_6 rfl 2 rfl ?_
  refine sm_aload_n F dX3_firstNotSo_7 rfl 1 rfl ?_
  refine sm_get (v := .int (gR_size (gM_row u))) F inX6 4 rfl rfl 1 (by decide) qw1_178 rfl rfl dX3_firstNotSo_8 ?_
  refine sm_icmp_ge (tgt := 45) F dX3_firstNotSo_11 (by decide) (fun c11 => ?_) (fun c11 => ?_)
  · replace hf := if_t c11 hf
    refine sm_bipush F dX3_firstNotSo_45 kc_b_m9 ?_
    exact sm_iret F dX3_firstNotSo_47 (Prod.mk.inj (Option.some.inj hf)).1 (congrArg (fun z => (wM cI cZ cO a z)) (Prod.mk.inj (Option.some.inj hf)).2)
  · replace hf := if_f c11 hf
    refine sm_aload_n F dX3_firstNotSo_14 rfl 0 rfl ?_
    refine sm_get (v := .ref (a 12)) F inX3 0 rfl rfl 1 (by decide) qw1_134 rfl rfl dX3_firstNotSo_15 ?_
    obtain ⟨z18, hz18, hf⟩ := bd_some hf
    refine sm_callV (rest := []) F (ct_X8_countHere l D cI cZ cO (fun i => a (pm_M_v12 i)) hz18) (cut_M_v12_ro cI cZ cO a u) rfl rfl rfl qw4_14 qw3_111 qw3_112 qw1_8 qw3_113 hvX8_countHere ⟨Nat.le_of_ble_eq_true rfl, Nat.le_of_ble_eq_true rfl⟩ ⟨Nat.zero_le _, Nat.zero_le _⟩ 0 8 rfl rfl rfl rfl (Nat.le_of_ble_eq_true rfl) E0_b (fun _ _ _ _ _ _ => trivial) rfl dX3_firstNotSo_18 [.int z18] rfl ?_
    refine sm_aload_n F dX3_firstNotSo_21 rfl 1 rfl ?_
    refine sm_get (v := .ref (a 5)) F inX6 4 rfl rfl 0 (by decide) qw1_176 rfl rfl dX3_firstNotSo_22 ?_
    refine sm_iload_n F dX3_firstNotSo_25 rfl 2 rfl ?_
    obtain ⟨h26, hf⟩ := ck_some hf
    refine sm_iald F 5 0 rfl rfl h26 dX3_firstNotSo_26 ?_
    refine sm_icmp_eq (tgt := 32) F dX3_firstNotSo_27 (by decide) (fun c27 => ?_) (fun c27 => ?_)
    · replace hf := if_t c27 hf
      refine sm_aload_n F dX3_firstNotSo_32 rfl 0 rfl ?_
      refine sm_get (v := .ref (a 12)) F inX3 0 rfl rfl 1 (by decide) qw1_134 rfl rfl dX3_firstNotSo_33 ?_
      obtain ⟨z36, hz36, hf⟩ := bd_some hf
      refine sm_callV (rest := []) F (ct_X8_passWeek l D cI cZ cO (fun i => a (pm_M_v12 i)) hz36) (cut_M_v12 cI cZ cO a u z36) rfl rfl rfl qw3_196 qw2_223 qw2_224 qw1_8 qw2_225 hvX8_passWeek ⟨Nat.le_of_ble_eq_true rfl, Nat.le_of_ble_eq_true rfl⟩ ⟨Nat.zero_le _, Nat.zero_le _⟩ 0 8 rfl rfl rfl rfl (Nat.le_of_ble_eq_true rfl) E0_b (fun _ _ _ _ _ _ => trivial) rfl dX3_firstNotSo_36 [] rfl ?_
      refine sm_iinc F [(0, .ref (a 0)), (1, .ref (a 4)), (2, .int (x2 + 1))] 2 [1, 2, 0] dX3_firstNotSo_39 rfl kc_i_1 (by decide) rfl ?_
      refine sm_goto (tgt := 6) F dX3_firstNotSo_42 (by decide) ?_
      exact hk6 (sM_then u z36) (x2 + 1) hf
    · replace hf := if_f c27 hf
      refine sm_iload_n F dX3_firstNotSo_30 rfl 2 rfl ?_
      exact sm_iret F dX3_firstNotSo_31 (Prod.mk.inj (Option.some.inj hf)).1 (congrArg (fun z => (wM cI cZ cO a z)) (Prod.mk.inj (Option.some.inj hf)).2)
set_option maxRecDepth 100000 in
set_option maxHeartbeats 4000000 in
theorem s_X3_firstNotSo_6 {p : Program} {l : Launch} {e : Env} {s : State} {m : MethodId} {args : Array Value} {below : List Frame} {meth : Method} {c : Code} {A : Nat → Prop} {D : va_G} {cI cZ cO : ClassId} {a : Nat → Nat} {r : Int32} {o : MS} (F : smF p s m args meth c cX3_firstNotSo 3 (some .int) RX3 D (tyL cI cZ cO) A)   (n : Nat) (u : MS) (x2 : Int32) (hf : f_X3_firstNotSo_6   n u x2 = some (r, o)) : Sm p l e rmX3_firstNotSo s m args below meth c D A 3 0 0 (smQ below args s D A (some (.int r)) (wM cI cZ cO a o)) 6 [(0, .ref (a 0)), (1, .ref (a 4)), (2, .int x2)] [] (wM cI cZ cO a u) :=
  lq2_ind (P := fun (u : MS) (x2 : Int32) => Sm p l e rmX3_firstNotSo s m args below meth c D A 3 0 0 (smQ below args s D A (some (.int r)) (wM cI cZ cO a o)) 6 [(0, .ref (a 0)), (1, .ref (a 4)), (2, .int x2)] [] (wM cI cZ cO a u)) (fun k6 hk6 u x2 h9 => s_X3_firstNotSo_6_b F   k6 hk6 u x2 h9) n u x2 hf
set_option maxRecDepth 100000 in
set_option maxHeartbeats 4000000 in
theorem ct_X3_firstNotSo (l : Launch) (D : va_G) (cI cZ cO : ClassId) (a : Nat → Nat) {u : MS} {r : Int32} {o : MS} (hf : f_X3_firstNotSo u = some (r, o)) : Ct l yX3_firstNotSo (uw (Cond.code yX3_firstNotSo cX3_firstNotSo 3 (some .int))) rmX3_firstNotSo D (tyL cI cZ cO) E0 [.ref (a 0), .ref (a 4)] (wM cI cZ cO a u) (some (.int r)) (wM cI cZ cO a o) := by
  refine sm_start (cc := cX3_firstNotSo) (maxL := 3) (ret := (some .int)) (own := RX3) (by decide) rfl rfl (Nat.le_of_ble_eq_true rfl) (lv := [(0, .ref (a 0)), (1, .ref (a 4))]) rfl ?_
  intro p e s m below meth c A F hE hA
  unfold f_X3_firstNotSo at hf
  refine sm_aload_n F dX3_firstNotSo_0 rfl 0 rfl ?_
  obtain ⟨z1, hz1, hf⟩ := bd_some hf
  refine sm_callV (rest := []) F (ct_X3_startAgain l D cI cZ cO a hz1) (cut_M_id cI cZ cO a u z1) rfl rfl rfl qw3_150 qw3_152 qw0_18 qw1_9 qw3_153 hvX3_startAgain ⟨Nat.le_of_ble_eq_true rfl, Nat.le_of_ble_eq_true rfl⟩ ⟨Nat.zero_le _, Nat.zero_le _⟩ 0 3 rfl rfl rfl rfl (Nat.le_of_ble_eq_true rfl) E0_b (fun _ _ _ _ _ _ => trivial) rfl dX3_firstNotSo_1 [] rfl ?_
  refine sm_iconst F dX3_firstNotSo_4 kc_i_0 ?_
  refine sm_istore_n F [(0, .ref (a 0)), (1, .ref (a 4)), (2, .int (0 : Int32))] [1, 2, 0] dX3_firstNotSo_5 rfl (by decide) rfl ?_
  exact s_X3_firstNotSo_6 F  smN z1 (0 : Int32) hf
/-! SoManyForgotten$Mind.drawBelowHundred()I -/
abbrev rmX3_drawBelowHundred : Room := { frames := 0, cells := 0, slots := 0, locals := 0 }
set_option maxRecDepth 100000 in
theorem hvX3_drawBelowHundred : yX3_drawBelowHundred.cls = RX3 ∧ yX3_drawBelowHundred.cls ≠ "java/lang/invoke/MethodHandle" ∧ yX3_drawBelowHundred.cls ≠ "java/lang/invoke/VarHandle" ∧ (parseMethodDescriptor yX3_drawBelowHundred.desc).map (fun d => d.parameters.length) = some 0 := by decide +kernel
set_option maxRecDepth 100000 in
set_option maxHeartbeats 4000000 in
theorem ct_X3_drawBelowHundred (l : Launch) (D : va_G) (cI cZ cO : ClassId) (a : Nat → Nat) {u : MS} {r : Int32} {o : MS} (hf : f_X3_drawBelowHundred u = some (r, o)) : Ct l yX3_drawBelowHundred (uw (Cond.code yX3_drawBelowHundred cX3_drawBelowHundred 1 (some .int))) rmX3_drawBelowHundred D (tyL cI cZ cO) E0 [.ref (a 0)] (wM cI cZ cO a u) (some (.int r)) (wM cI cZ cO a o) := by
  refine sm_start (cc := cX3_drawBelowHundred) (maxL := 1) (ret := (some .int)) (own := RX3) (by decide) rfl rfl (Nat.le_of_ble_eq_true rfl) (lv := [(0, .ref (a 0))]) rfl ?_
  intro p e s m below meth c A F hE hA
  unfold f_X3_drawBelowHundred at hf
  refine sm_aload_n F dX3_drawBelowHundred_0 rfl 0 rfl ?_
  refine sm_aload_n F dX3_drawBelowHundred_1 rfl 0 rfl ?_
  refine sm_get (v := .int (gM_z u)) F inX3 0 rfl rfl 6 (by decide) qw1_139 rfl rfl dX3_drawBelowHundred_2 ?_
  refine sm_ldc (v := 1664525) F qw4_227 dX3_drawBelowHundred_5 ?_
  refine sm_imul F dX3_drawBelowHundred_7 ?_
  refine sm_ldc (v := 1013904223) F qw4_228 dX3_drawBelowHundred_8 ?_
  refine sm_iadd F dX3_drawBelowHundred_10 ?_
  obtain ⟨v11, hv11, hf⟩ := bd_some hf
  refine sm_topi (Option.some.inj hv11) ?_
  refine sm_put F inX3 tyX3 tyX3_ok nmX3 0 rfl rfl 6 (by decide) qw1_139 rfl rfl rfl rfl (Nat.le_of_ble_eq_true rfl) (wM cI cZ cO a (sM_z u v11)) rfl dX3_drawBelowHundred_11 ?_
  refine sm_aload_n F dX3_drawBelowHundred_14 rfl 0 rfl ?_
  refine sm_get (v := .int (gM_z (sM_z u v11))) F inX3 0 rfl rfl 6 (by decide) qw1_139 rfl rfl dX3_drawBelowHundred_15 ?_
  refine sm_ldc (v := 2147483647) F qw4_229 dX3_drawBelowHundred_18 ?_
  refine sm_iand F dX3_drawBelowHundred_20 ?_
  refine sm_sipush F dX3_drawBelowHundred_21 kc_s_256 ?_
  refine sm_idiv F dX3_drawBelowHundred_24 (by decide) ?_
  refine sm_bipush F dX3_drawBelowHundred_25 kc_b_100 ?_
  refine sm_irem F dX3_drawBelowHundred_27 (by decide) ?_
  exact sm_iret F dX3_drawBelowHundred_28 (Prod.mk.inj (Option.some.inj hf)).1 (congrArg (fun z => (wM cI cZ cO a z)) (Prod.mk.inj (Option.some.inj hf)).2)
/-! SoManyForgotten$Mind.drawMemories()V -/
abbrev rmX3_drawMemories : Room := { frames := 1, cells := 0, slots := 0, locals := 23 }
set_option maxRecDepth 100000 in
theorem hvX3_drawMemories : yX3_drawMemories.cls = RX3 ∧ yX3_drawMemories.cls ≠ "java/lang/invoke/MethodHandle" ∧ yX3_drawMemories.cls ≠ "java/lang/invoke/VarHandle" ∧ (parseMethodDescriptor yX3_drawMemories.desc).map (fun d => d.parameters.length) = some 0 := by decide +kernel
set_option maxRecDepth 100000 in
set_option maxHeartbeats 4000000 in
theorem s_X3_drawMemories_15_b {p : Program} {l : Launch} {e : Env} {s : State} {m : MethodId} {args : Array Value} {below : List Frame} {meth : Method} {c : Code} {A : Nat → Prop} {D : va_G} {cI cZ cO : ClassId} {a : Nat → Nat} {o : MS} (F : smF p s m args meth c cX3_drawMemories 3 none RX3 D (tyL cI cZ cO) A)  (k2 : MS → Int32 → Option (MS)) (hk2 : ∀ (u' : MS) (x1' : Int32), k2 u' x1' = some o → Sm p l e rmX3_drawMemories s m args below meth c D A 3 0 0 (smQ below args s D A none (wM cI cZ cO a o)) 2 [(0, .ref (a 0)), (1, .int x1')] [] (wM cI cZ cO a u')) (k15 : MS → Int32 → Int32 → Option (MS)) (hk15 : ∀ (u' : MS) (x1' : Int32) (x2' : Int32), k15 u' x1' x2' = some o → Sm p l e rmX3_drawMemories s m args below meth c D A 3 0 0 (smQ below args s D A none (wM cI cZ cO a o)) 15 [(0, .ref (a 0)), (1, .int x1'), (2, .int x2')] [] (wM cI cZ cO a u')) (u : MS) (x1 : Int32) (x2 : Int32) (hf : b_X3_drawMemories_15  k2 k15 u x1 x2 = some o) : Sm p l e rmX3_drawMemories s m args below meth c D A 3 0 0 (smQ below args s D A none (wM cI cZ cO a o)) 15 [(0, .ref (a 0)), (1, .int x1), (2, .int x2)] [] (wM cI cZ cO a u) := by
  unfold b_X3_drawMemories_15 at hf
  refine sm_iload_n F dX3_drawMemories_15 rfl 2 rfl ?_
  refine sm_aload_n F dX3_drawMemories_16 rfl 0 rfl ?_
  refine sm_get (v := .ref (a 12)) F inX3 0 rfl rfl 1 (by decide) qw1_134 rfl rfl dX3_drawMemories_17 ?_
  refine sm_get (v := .int (gV_people (gM_then u))) F inX8 12 rfl rfl 6 (by decide) qw1_95 rfl rfl dX3_drawMemories_20 ?_
  refine sm_icmp_ge (tgt := 50) F dX3_drawMemories_23 (by decide) (fun c23 => ?_) (fun c23 => ?_)
  · replace hf := if_t c23 hf
    refine sm_iinc F [(0, .ref (a 0)), (1, .int (x1 + 1)), (2, .int x2)] 1 [1, 0, 2] dX3_drawMemories_50 rfl kc_i_1 (by decide) rfl ?_
    refine sm_goto (tgt := 2) F dX3_drawMemories_53 (by decide) ?_
    refine sm_sub (lv' := [(0, .ref (a 0)), (1, .int (x1 + 1))]) [0, 1] rfl ?_
    exact hk2 u (x1 + 1) hf
  · replace hf := if_f c23 hf
    refine sm_iload_n F dX3_drawMemories_26 rfl 1 rfl ?_
    refine sm_iload_n F dX3_drawMemories_27 rfl 2 rfl ?_
    refine sm_icmp_eq (tgt := 44) F dX3_drawMemories_28 (by decide) (fun c28 => ?_) (fun c28 => ?_)
    · replace hf := if_t c28 hf
      refine sm_iinc F [(0, .ref (a 0)), (1, .int x1), (2, .int (x2 + 1))] 2 [1, 2, 0] dX3_drawMemories_44 rfl kc_i_1 (by decide) rfl ?_
      refine sm_goto (tgt := 15) F dX3_drawMemories_47 (by decide) ?_
      exact hk15 u x1 (x2 + 1) hf
    · replace hf := if_f c28 hf
      refine sm_aload_n F dX3_drawMemories_31 rfl 0 rfl ?_
      refine sm_get (v := .ref (a 12)) F inX3 0 rfl rfl 1 (by decide) qw1_134 rfl rfl dX3_drawMemories_32 ?_
      refine sm_iload_n F dX3_drawMemories_35 rfl 1 rfl ?_
      refine sm_iload_n F dX3_drawMemories_36 rfl 2 rfl ?_
      refine sm_aload_n F dX3_drawMemories_37 rfl 0 rfl ?_
      obtain ⟨z38, hz38, hf⟩ := bd_some hf
      refine sm_callV (rest := [.int x2, .int x1, .ref (a 12)]) F (ct_X3_drawBelowHundred l D cI cZ cO a hz38) (cut_M_id cI cZ cO a u z38.2) rfl rfl rfl qw4_223 qw4_225 qw0_28 qw1_9 qw4_226 hvX3_drawBelowHundred ⟨Nat.le_of_ble_eq_true rfl, Nat.le_of_ble_eq_true rfl⟩ ⟨Nat.zero_le _, Nat.zero_le _⟩ 0 3 rfl rfl rfl rfl (Nat.le_of_ble_eq_true rfl) E0_b (fun _ _ _ _ _ _ => trivial) rfl dX3_drawMemories_38 [.int z38.1, .int x2, .int x1, .ref (a 12)] rfl ?_
      obtain ⟨z41, hz41, hf⟩ := bd_some hf
      refine sm_callV (rest := []) F (ct_X8_setMemory l D cI cZ cO (fun i => a (pm_M_v12 i)) hz41) (cut_M_v12 cI cZ cO a z38.2 z41) rfl rfl rfl qw4_230 qw2_162 qw2_163 qw1_8 qw2_164 hvX8_setMemory ⟨Nat.le_of_ble_eq_true rfl, Nat.le_of_ble_eq_true rfl⟩ ⟨Nat.zero_le _, Nat.zero_le _⟩ 0 8 rfl rfl rfl rfl (Nat.le_of_ble_eq_true rfl) E0_b (fun _ _ _ _ _ _ => trivial) rfl dX3_drawMemories_41 [] rfl ?_
      refine sm_iinc F [(0, .ref (a 0)), (1, .int x1), (2, .int (x2 + 1))] 2 [1, 2, 0] dX3_drawMemories_44 rfl kc_i_1 (by decide) rfl ?_
      refine sm_goto (tgt := 15) F dX3_drawMemories_47 (by decide) ?_
      exact hk15 (sM_then z38.2 z41) x1 (x2 + 1) hf
set_option maxRecDepth 100000 in
set_option maxHeartbeats 4000000 in
theorem s_X3_drawMemories_15 {p : Program} {l : Launch} {e : Env} {s : State} {m : MethodId} {args : Array Value} {below : List Frame} {meth : Method} {c : Code} {A : Nat → Prop} {D : va_G} {cI cZ cO : ClassId} {a : Nat → Nat} {o : MS} (F : smF p s m args meth c cX3_drawMemories 3 none RX3 D (tyL cI cZ cO) A)  (k2 : MS → Int32 → Option (MS)) (hk2 : ∀ (u' : MS) (x1' : Int32), k2 u' x1' = some o → Sm p l e rmX3_drawMemories s m args below meth c D A 3 0 0 (smQ below args s D A none (wM cI cZ cO a o)) 2 [(0, .ref (a 0)), (1, .int x1')] [] (wM cI cZ cO a u')) (n : Nat) (u : MS) (x1 : Int32) (x2 : Int32) (hf : f_X3_drawMemories_15  k2 n u x1 x2 = some o) : Sm p l e rmX3_drawMemories s m args below meth c D A 3 0 0 (smQ below args s D A none (wM cI cZ cO a o)) 15 [(0, .ref (a 0)), (1, .int x1), (2, .int x2)] [] (wM cI cZ cO a u) :=
  lq3_ind (P := fun (u : MS) (x1 : Int32) (x2 : Int32) => Sm p l e rmX3_drawMemories s m args below meth c D A 3 0 0 (smQ below args s D A none (wM cI cZ cO a o)) 15 [(0, .ref (a 0)), (1, .int x1), (2, .int x2)] [] (wM cI cZ cO a u)) (fun k15 hk15 u x1 x2 h9 => s_X3_drawMemories_15_b F  k2 hk2 k15 hk15 u x1 x2 h9) n u x1 x2 hf
set_option maxRecDepth 100000 in
set_option maxHeartbeats 4000000 in
theorem s_X3_drawMemories_2_b {p : Program} {l : Launch} {e : Env} {s : State} {m : MethodId} {args : Array Value} {below : List Frame} {meth : Method} {c : Code} {A : Nat → Prop} {D : va_G} {cI cZ cO : ClassId} {a : Nat → Nat} {o : MS} (F : smF p s m args meth c cX3_drawMemories 3 none RX3 D (tyL cI cZ cO) A)  (k2 : MS → Int32 → Option (MS)) (hk2 : ∀ (u' : MS) (x1' : Int32), k2 u' x1' = some o → Sm p l e rmX3_drawMemories s m args below meth c D A 3 0 0 (smQ below args s D A none (wM cI cZ cO a o)) 2 [(0, .ref (a 0)), (1, .int x1')] [] (wM cI cZ cO a u')) (u : MS) (x1 : Int32) (hf : b_X3_drawMemories_2   k2 u x1 = some o) : Sm p l e rmX3_drawMemories s m args below meth c D A 3 0 0 (smQ below args s D A none (wM cI cZ cO a o)) 2 [(0, .ref (a 0)), (1, .int x1)] [] (wM cI cZ cO a u) := by
  unfold b_X3_drawMemories_2 at hf
  refine sm_iload_n F dX3_drawMemories_2 rfl 1 rfl ?_
  refine sm_aload_n F dX3_drawMemories_3 rfl 0 rfl ?_
  refine sm_get (v := .ref (a 12)) F inX3 0 rfl rfl 1 (by decide) qw1_134 rfl rfl dX3_drawMemories_4 ?_
  refine sm_get (v := .int (gV_people (gM_then u))) F inX8 12 rfl rfl 6 (by decide) qw1_95 rfl rfl dX3_drawMemories_7 ?_
  refine sm_icmp_ge (tgt := 56) F dX3_drawMemories_10 (by decide) (fun c10 => ?_) (fun c10 => ?_)
  · replace hf := if_t c10 hf
    exact sm_vret F dX3_drawMemories_56 (congrArg (fun z => (wM cI cZ cO a z)) (Option.some.inj hf))
  · replace hf := if_f c10 hf
    refine sm_iconst F dX3_drawMemories_13 kc_i_0 ?_
    refine sm_istore_n F [(0, .ref (a 0)), (1, .int x1), (2, .int (0 : Int32))] [1, 2, 0] dX3_drawMemories_14 rfl (by decide) rfl ?_
    exact s_X3_drawMemories_15 F k2 hk2 smN u x1 (0 : Int32) hf
set_option maxRecDepth 100000 in
set_option maxHeartbeats 4000000 in
theorem s_X3_drawMemories_2 {p : Program} {l : Launch} {e : Env} {s : State} {m : MethodId} {args : Array Value} {below : List Frame} {meth : Method} {c : Code} {A : Nat → Prop} {D : va_G} {cI cZ cO : ClassId} {a : Nat → Nat} {o : MS} (F : smF p s m args meth c cX3_drawMemories 3 none RX3 D (tyL cI cZ cO) A)   (n : Nat) (u : MS) (x1 : Int32) (hf : f_X3_drawMemories_2   n u x1 = some o) : Sm p l e rmX3_drawMemories s m args below meth c D A 3 0 0 (smQ below args s D A none (wM cI cZ cO a o)) 2 [(0, .ref (a 0)), (1, .int x1)] [] (wM cI cZ cO a u) :=
  lq2_ind (P := fun (u : MS) (x1 : Int32) => Sm p l e rmX3_drawMemories s m args below meth c D A 3 0 0 (smQ below args s D A none (wM cI cZ cO a o)) 2 [(0, .ref (a 0)), (1, .int x1)] [] (wM cI cZ cO a u)) (fun k2 hk2 u x1 h9 => s_X3_drawMemories_2_b F   k2 hk2 u x1 h9) n u x1 hf
set_option maxRecDepth 100000 in
set_option maxHeartbeats 4000000 in
theorem ct_X3_drawMemories (l : Launch) (D : va_G) (cI cZ cO : ClassId) (a : Nat → Nat) {u : MS} {o : MS} (hf : f_X3_drawMemories u = some o) : Ct l yX3_drawMemories (uw (Cond.code yX3_drawMemories cX3_drawMemories 3 none)) rmX3_drawMemories D (tyL cI cZ cO) E0 [.ref (a 0)] (wM cI cZ cO a u) none (wM cI cZ cO a o) := by
  refine sm_start (cc := cX3_drawMemories) (maxL := 3) (ret := none) (own := RX3) (by decide) rfl rfl (Nat.le_of_ble_eq_true rfl) (lv := [(0, .ref (a 0))]) rfl ?_
  intro p e s m below meth c A F hE hA
  unfold f_X3_drawMemories at hf
  refine sm_iconst F dX3_drawMemories_0 kc_i_0 ?_
  refine sm_istore_n F [(0, .ref (a 0)), (1, .int (0 : Int32))] [1, 0] dX3_drawMemories_1 rfl (by decide) rfl ?_
  exact s_X3_drawMemories_2 F  smN u (0 : Int32) hf
/-! SoManyForgotten$Mind.byLot(IIZ)I -/
abbrev rmX3_byLot : Room := { frames := 5, cells := 0, slots := 0, locals := 116 }
set_option maxRecDepth 100000 in
theorem hvX3_byLot : yX3_byLot.cls = RX3 ∧ yX3_byLot.cls ≠ "java/lang/invoke/MethodHandle" ∧ yX3_byLot.cls ≠ "java/lang/invoke/VarHandle" ∧ (parseMethodDescriptor yX3_byLot.desc).map (fun d => d.parameters.length) = some 3 := by decide +kernel
set_option maxRecDepth 100000 in
set_option maxHeartbeats 4000000 in
theorem s_X3_byLot_11_b {p : Program} {l : Launch} {e : Env} {s : State} {m : MethodId} {args : Array Value} {below : List Frame} {meth : Method} {c : Code} {A : Nat → Prop} {D : va_G} {cI cZ cO : ClassId} {a : Nat → Nat} {r : Int32} {o : MS} (F : smF p s m args meth c cX3_byLot 6 (some .int) RX3 D (tyL cI cZ cO) A) (x1 : Int32) (x3 : Int32) (k11 : MS → Int32 → Int32 → Option (Int32 × (MS))) (hk11 : ∀ (u' : MS) (x4' : Int32) (x5' : Int32), k11 u' x4' x5' = some (r, o) → Sm p l e rmX3_byLot s m args below meth c D A 6 0 0 (smQ below args s D A (some (.int r)) (wM cI cZ cO a o)) 11 [(0, .ref (a 0)), (1, .int x1), (3, .int x3), (4, .int x4'), (5, .int x5')] [] (wM cI cZ cO a u')) (u : MS) (x4 : Int32) (x5 : Int32) (hf : b_X3_byLot_11 x1 x3  k11 u x4 x5 = some (r, o)) : Sm p l e rmX3_byLot s m args below meth c D A 6 0 0 (smQ below args s D A (some (.int r)) (wM cI cZ cO a o)) 11 [(0, .ref (a 0)), (1, .int x1), (3, .int x3), (4, .int x4), (5, .int x5)] [] (wM cI cZ cO a u) := by
  unfold b_X3_byLot_11 at hf
  refine sm_iload F dX3_byLot_11 4 rfl ?_
  refine sm_iload_n F dX3_byLot_13 rfl 1 rfl ?_
  refine sm_icmp_ge (tgt := 66) F dX3_byLot_14 (by decide) (fun c14 => ?_) (fun c14 => ?_)
  · replace hf := if_t c14 hf
    refine sm_iload F dX3_byLot_66 3 rfl ?_
    exact sm_iret F dX3_byLot_68 (Prod.mk.inj (Option.some.inj hf)).1 (congrArg (fun z => (wM cI cZ cO a z)) (Prod.mk.inj (Option.some.inj hf)).2)
  · replace hf := if_f c14 hf
    refine sm_aload_n F dX3_byLot_17 rfl 0 rfl ?_
    obtain ⟨z18, hz18, hf⟩ := bd_some hf
    refine sm_callV (rest := []) F (ct_X3_startAgain l D cI cZ cO a hz18) (cut_M_id cI cZ cO a u z18) rfl rfl rfl qw3_150 qw3_152 qw0_18 qw1_9 qw3_153 hvX3_startAgain ⟨Nat.le_of_ble_eq_true rfl, Nat.le_of_ble_eq_true rfl⟩ ⟨Nat.zero_le _, Nat.zero_le _⟩ 0 3 rfl rfl rfl rfl (Nat.le_of_ble_eq_true rfl) E0_b (fun _ _ _ _ _ _ => trivial) rfl dX3_byLot_18 [] rfl ?_
    refine sm_aload_n F dX3_byLot_21 rfl 0 rfl ?_
    obtain ⟨z22, hz22, hf⟩ := bd_some hf
    refine sm_callV (rest := []) F (ct_X3_drawMemories l D cI cZ cO a hz22) (cut_M_id cI cZ cO a z18 z22) rfl rfl rfl qw4_219 qw4_221 qw0_27 qw1_9 qw4_222 hvX3_drawMemories ⟨Nat.le_of_ble_eq_true rfl, Nat.le_of_ble_eq_true rfl⟩ ⟨Nat.zero_le _, Nat.zero_le _⟩ 0 3 rfl rfl rfl rfl (Nat.le_of_ble_eq_true rfl) E0_b (fun _ _ _ _ _ _ => trivial) rfl dX3_byLot_22 [] rfl ?_
    refine sm_aload_n F dX3_byLot_25 rfl 0 rfl ?_
    refine sm_get (v := .ref (a 12)) F inX3 0 rfl rfl 1 (by decide) qw1_134 rfl rfl dX3_byLot_26 ?_
    refine sm_bipush F dX3_byLot_29 kc_b_20 ?_
    obtain ⟨z31, hz31, hf⟩ := bd_some hf
    refine sm_callV (rest := []) F (ct_X8_passWeeks l D cI cZ cO (fun i => a (pm_M_v12 i)) hz31) (cut_M_v12 cI cZ cO a z22 z31) rfl rfl rfl qw3_155 qw3_138 qw3_139 qw1_8 qw3_140 hvX8_passWeeks ⟨Nat.le_of_ble_eq_true rfl, Nat.le_of_ble_eq_true rfl⟩ ⟨Nat.zero_le _, Nat.zero_le _⟩ 0 8 rfl rfl rfl rfl (Nat.le_of_ble_eq_true rfl) E0_b (fun _ _ _ _ _ _ => trivial) rfl dX3_byLot_31 [] rfl ?_
    refine sm_iload F dX3_byLot_34 3 rfl ?_
    refine sm_iload_n F dX3_byLot_36 rfl 2 rfl ?_
    refine sm_if_eq (tgt := 50) F dX3_byLot_37 (by decide) (fun c37 => ?_) (fun c37 => ?_)
    · replace hf := if_t c37 hf
      refine sm_aload_n F dX3_byLot_50 rfl 0 rfl ?_
      refine sm_get (v := .ref (a 12)) F inX3 0 rfl rfl 1 (by decide) qw1_134 rfl rfl dX3_byLot_51 ?_
      obtain ⟨z54, hz54, hf⟩ := bd_some hf
      refine sm_callV (rest := [.int x4]) F (ct_X8_countHere l D cI cZ cO (fun i => a (pm_M_v12 i)) hz54) (cut_M_v12_ro cI cZ cO a (sM_then z22 z31)) rfl rfl rfl qw4_14 qw3_111 qw3_112 qw1_8 qw3_113 hvX8_countHere ⟨Nat.le_of_ble_eq_true rfl, Nat.le_of_ble_eq_true rfl⟩ ⟨Nat.zero_le _, Nat.zero_le _⟩ 0 8 rfl rfl rfl rfl (Nat.le_of_ble_eq_true rfl) E0_b (fun _ _ _ _ _ _ => trivial) rfl dX3_byLot_54 [.int z54, .int x4] rfl ?_
      refine sm_iadd F dX3_byLot_57 ?_
      refine sm_istore F [(0, .ref (a 0)), (1, .int x1), (3, .int x3), (4, .int (x4 + z54)), (5, .int x5)] [1, 2, 3, 0, 4] dX3_byLot_58 (by decide) rfl ?_
      refine sm_iinc F [(0, .ref (a 0)), (1, .int x1), (3, .int x3), (4, .int (x4 + z54)), (5, .int (x5 + 1))] 4 [1, 2, 3, 4, 0] dX3_byLot_60 rfl kc_i_1 (by decide) rfl ?_
      refine sm_goto (tgt := 11) F dX3_byLot_63 (by decide) ?_
      exact hk11 (sM_then z22 z31) (x4 + z54) (x5 + 1) hf
    · replace hf := if_f c37 hf
      refine sm_aload_n F dX3_byLot_40 rfl 0 rfl ?_
      refine sm_get (v := .ref (a 12)) F inX3 0 rfl rfl 1 (by decide) qw1_134 rfl rfl dX3_byLot_41 ?_
      obtain ⟨z44, hz44, hf⟩ := bd_some hf
      refine sm_callV (rest := [.int x4]) F (ct_X8_knownTogether l D cI cZ cO (fun i => a (pm_M_v12 i)) hz44) (cut_M_v12_ro cI cZ cO a (sM_then z22 z31)) rfl rfl rfl qw4_231 qw4_162 qw4_163 qw1_8 qw4_164 hvX8_knownTogether ⟨Nat.le_of_ble_eq_true rfl, Nat.le_of_ble_eq_true rfl⟩ ⟨Nat.zero_le _, Nat.zero_le _⟩ 0 8 rfl rfl rfl rfl (Nat.le_of_ble_eq_true rfl) E0_b (fun _ _ _ _ _ _ => trivial) rfl dX3_byLot_44 [.int z44, .int x4] rfl ?_
      refine sm_goto (tgt := 57) F dX3_byLot_47 (by decide) ?_
      refine sm_iadd F dX3_byLot_57 ?_
      refine sm_istore F [(0, .ref (a 0)), (1, .int x1), (3, .int x3), (4, .int (x4 + z44)), (5, .int x5)] [1, 2, 3, 0, 4] dX3_byLot_58 (by decide) rfl ?_
      refine sm_iinc F [(0, .ref (a 0)), (1, .int x1), (3, .int x3), (4, .int (x4 + z44)), (5, .int (x5 + 1))] 4 [1, 2, 3, 4, 0] dX3_byLot_60 rfl kc_i_1 (by decide) rfl ?_
      refine sm_goto (tgt := 11) F dX3_byLot_63 (by decide) ?_
      exact hk11 (sM_then z22 z31) (x4 + z44) (x5 + 1) hf
set_option maxRecDepth 100000 in
set_option maxHeartbeats 4000000 in
theorem s_X3_byLot_11 {p : Program} {l : Launch} {e : Env} {s : State} {m : MethodId} {args : Array Value} {below : List Frame} {meth : Method} {c : Code} {A : Nat → Prop} {D : va_G} {cI cZ cO : ClassId} {a : Nat → Nat} {r : Int32} {o : MS} (F : smF p s m args meth c cX3_byLot 6 (some .int) RX3 D (tyL cI cZ cO) A) (x1 : Int32) (x3 : Int32)  (n : Nat) (u : MS) (x4 : Int32) (x5 : Int32) (hf : f_X3_byLot_11 x1 x3  n u x4 x5 = some (r, o)) : Sm p l e rmX3_byLot s m args below meth c D A 6 0 0 (smQ below args s D A (some (.int r)) (wM cI cZ cO a o)) 11 [(0, .ref (a 0)), (1, .int x1), (3, .int x3), (4, .int x4), (5, .int x5)] [] (wM cI cZ cO a u) :=
  lq3_ind (P := fun (u : MS) (x4 : Int32) (x5 : Int32) => Sm p l e rmX3_byLot s m args below meth c D A 6 0 0 (smQ below args s D A (some (.int r)) (wM cI cZ cO a o)) 11 [(0, .ref (a 0)), (1, .int x1), (3, .int x3), (4, .int x4), (5, .int x5)] [] (wM cI cZ cO a u)) (fun k11 hk11 u x4 x5 h9 => s_X3_byLot_11_b F x1 x3  k11 hk11 u x4 x5 h9) n u x4 x5 hf
set_option maxRecDepth 100000 in
set_option maxHeartbeats 4000000 in
theorem ct_X3_byLot (l : Launch) (D : va_G) (cI cZ cO : ClassId) (a : Nat → Nat) {u : MS} {x1 : Int32} {x2 : Int32} {x3 : Int32} {r : Int32} {o : MS} (hf : f_X3_byLot u x1 x2 x3 = some (r, o)) : Ct l yX3_byLot (uw (Cond.code yX3_byLot cX3_byLot 6 (some .int))) rmX3_byLot D (tyL cI cZ cO) E0 [.ref (a 0), .int x1, .int x2, .int x3] (wM cI cZ cO a u) (some (.int r)) (wM cI cZ cO a o) := by
  refine sm_start (cc := cX3_byLot) (maxL := 6) (ret := (some .int)) (own := RX3) (by decide) rfl rfl (Nat.le_of_ble_eq_true rfl) (lv := [(0, .ref (a 0)), (1, .int x1), (2, .int x2), (3, .int x3)]) rfl ?_
  intro p e s m below meth c A F hE hA
  unfold f_X3_byLot at hf
  refine sm_aload_n F dX3_byLot_0 rfl 0 rfl ?_
  refine sm_iload_n F dX3_byLot_1 rfl 2 rfl ?_
  refine sm_put F inX3 tyX3 tyX3_ok nmX3 0 rfl rfl 6 (by decide) qw1_139 rfl rfl rfl rfl (Nat.le_of_ble_eq_true rfl) (wM cI cZ cO a (sM_z u x2)) rfl dX3_byLot_2 ?_
  refine sm_iconst F dX3_byLot_5 kc_i_0 ?_
  refine sm_istore F [(0, .ref (a 0)), (1, .int x1), (3, .int x3), (4, .int (0 : Int32))] [1, 2, 4, 0] dX3_byLot_6 (by decide) rfl ?_
  refine sm_iconst F dX3_byLot_8 kc_i_0 ?_
  refine sm_istore F [(0, .ref (a 0)), (1, .int x1), (3, .int x3), (4, .int (0 : Int32)), (5, .int (0 : Int32))] [1, 2, 3, 4, 0] dX3_byLot_9 (by decide) rfl ?_
  exact s_X3_byLot_11 F x1 x3 smN (sM_z u x2) (0 : Int32) (0 : Int32) hf
/-! SoManyForgotten.outside(III)I -/
abbrev rmX10_outside : Room := { frames := 0, cells := 0, slots := 0, locals := 0 }
set_option maxRecDepth 100000 in
theorem hsX10_outside : yX10_outside.cls ≠ "java/lang/invoke/MethodHandle" ∧ yX10_outside.cls ≠ "java/lang/invoke/VarHandle" ∧ (parseMethodDescriptor yX10_outside.desc).map (fun d => d.parameters.length) = some 3 := by decide +kernel
set_option maxRecDepth 100000 in
set_option maxHeartbeats 4000000 in
theorem ct_X10_outside (l : Launch) (D : va_G) (tys : List (ClassId × FieldType)) {x0 : Int32} {x1 : Int32} {x2 : Int32} {r : Int32} (hf : f_X10_outside x0 x1 x2 = some r) : Ct l yX10_outside (uw (Cond.code yX10_outside cX10_outside 3 (some .int))) rmX10_outside D tys E0 [.int x0, .int x1, .int x2] [] (some (.int r)) [] := by
  refine sm_start (cc := cX10_outside) (maxL := 3) (ret := (some .int)) (own := RX10) (by decide) rfl rfl (Nat.le_of_ble_eq_true rfl) (lv := [(0, .int x0), (1, .int x1), (2, .int x2)]) rfl ?_
  intro p e s m below meth c A F hE hA
  unfold f_X10_outside at hf
  refine sm_iload_n F dX10_outside_0 rfl 0 rfl ?_
  refine sm_iload_n F dX10_outside_1 rfl 1 rfl ?_
  refine sm_icmp_ge (tgt := 8) F dX10_outside_2 (by decide) (fun c2 => ?_) (fun c2 => ?_)
  · replace hf := if_t c2 hf
    refine sm_iload_n F dX10_outside_8 rfl 0 rfl ?_
    refine sm_iload_n F dX10_outside_9 rfl 2 rfl ?_
    refine sm_icmp_le (tgt := 18) F dX10_outside_10 (by decide) (fun c10 => ?_) (fun c10 => ?_)
    · replace hf := if_t c10 hf
      refine sm_iconst F dX10_outside_18 kc_i_0 ?_
      exact sm_iret F dX10_outside_19 (Option.some.inj hf) rfl
    · replace hf := if_f c10 hf
      refine sm_bipush F dX10_outside_13 kc_b_m6 ?_
      refine sm_goto (tgt := 19) F dX10_outside_15 (by decide) ?_
      exact sm_iret F dX10_outside_19 (Option.some.inj hf) rfl
  · replace hf := if_f c2 hf
    refine sm_bipush F dX10_outside_5 kc_b_m4 ?_
    exact sm_iret F dX10_outside_7 (Option.some.inj hf) rfl
/-! SoManyForgotten.firstThatFits(II)I -/
abbrev rmX10_firstThatFits : Room := { frames := 0, cells := 0, slots := 0, locals := 0 }
set_option maxRecDepth 100000 in
theorem hsX10_firstThatFits : yX10_firstThatFits.cls ≠ "java/lang/invoke/MethodHandle" ∧ yX10_firstThatFits.cls ≠ "java/lang/invoke/VarHandle" ∧ (parseMethodDescriptor yX10_firstThatFits.desc).map (fun d => d.parameters.length) = some 2 := by decide +kernel
set_option maxRecDepth 100000 in
set_option maxHeartbeats 4000000 in
theorem ct_X10_firstThatFits (l : Launch) (D : va_G) (tys : List (ClassId × FieldType)) {x0 : Int32} {x1 : Int32} {r : Int32} (hf : f_X10_firstThatFits x0 x1 = some r) : Ct l yX10_firstThatFits (uw (Cond.code yX10_firstThatFits cX10_firstThatFits 2 (some .int))) rmX10_firstThatFits D tys E0 [.int x0, .int x1] [] (some (.int r)) [] := by
  refine sm_start (cc := cX10_firstThatFits) (maxL := 2) (ret := (some .int)) (own := RX10) (by decide) rfl rfl (Nat.le_of_ble_eq_true rfl) (lv := [(0, .int x0), (1, .int x1)]) rfl ?_
  intro p e s m below meth c A F hE hA
  unfold f_X10_firstThatFits at hf
  refine sm_iload_n F dX10_firstThatFits_0 rfl 0 rfl ?_
  refine sm_if_eq (tgt := 8) F dX10_firstThatFits_1 (by decide) (fun c1 => ?_) (fun c1 => ?_)
  · replace hf := if_t c1 hf
    refine sm_iload_n F dX10_firstThatFits_8 rfl 1 rfl ?_
    exact sm_iret F dX10_firstThatFits_9 (Option.some.inj hf) rfl
  · replace hf := if_f c1 hf
    refine sm_iload_n F dX10_firstThatFits_4 rfl 0 rfl ?_
    refine sm_goto (tgt := 9) F dX10_firstThatFits_5 (by decide) ?_
    exact sm_iret F dX10_firstThatFits_9 (Option.some.inj hf) rfl
/-! SoManyForgotten.wrongWhat(II)I -/
abbrev rmX10_wrongWhat : Room := { frames := 0, cells := 0, slots := 0, locals := 0 }
set_option maxRecDepth 100000 in
theorem hsX10_wrongWhat : yX10_wrongWhat.cls ≠ "java/lang/invoke/MethodHandle" ∧ yX10_wrongWhat.cls ≠ "java/lang/invoke/VarHandle" ∧ (parseMethodDescriptor yX10_wrongWhat.desc).map (fun d => d.parameters.length) = some 2 := by decide +kernel
set_option maxRecDepth 100000 in
set_option maxHeartbeats 4000000 in
theorem ct_X10_wrongWhat (l : Launch) (D : va_G) (tys : List (ClassId × FieldType)) {x0 : Int32} {x1 : Int32} {r : Int32} (hf : f_X10_wrongWhat x0 x1 = some r) : Ct l yX10_wrongWhat (uw (Cond.code yX10_wrongWhat cX10_wrongWhat 2 (some .int))) rmX10_wrongWhat D tys E0 [.int x0, .int x1] [] (some (.int r)) [] := by
  refine sm_start (cc := cX10_wrongWhat) (maxL := 2) (ret := (some .int)) (own := RX10) (by decide) rfl rfl (Nat.le_of_ble_eq_true rfl) (lv := [(0, .int x0), (1, .int x1)]) rfl ?_
  intro p e s m below meth c A F hE hA
  unfold f_X10_wrongWhat at hf
  refine sm_iload_n F dX10_wrongWhat_0 rfl 0 rfl ?_
  refine sm_if_lt (tgt := 9) F dX10_wrongWhat_1 (by decide) (fun c1 => ?_) (fun c1 => ?_)
  · replace hf := if_t c1 hf
    refine sm_bipush F dX10_wrongWhat_9 kc_b_m2 ?_
    refine sm_goto (tgt := 15) F dX10_wrongWhat_11 (by decide) ?_
    exact sm_iret F dX10_wrongWhat_15 (Option.some.inj hf) rfl
  · replace hf := if_f c1 hf
    refine sm_iload_n F dX10_wrongWhat_4 rfl 0 rfl ?_
    refine sm_iload_n F dX10_wrongWhat_5 rfl 1 rfl ?_
    refine sm_icmp_le (tgt := 14) F dX10_wrongWhat_6 (by decide) (fun c6 => ?_) (fun c6 => ?_)
    · replace hf := if_t c6 hf
      refine sm_iconst F dX10_wrongWhat_14 kc_i_0 ?_
      exact sm_iret F dX10_wrongWhat_15 (Option.some.inj hf) rfl
    · replace hf := if_f c6 hf
      refine sm_bipush F dX10_wrongWhat_9 kc_b_m2 ?_
      refine sm_goto (tgt := 15) F dX10_wrongWhat_11 (by decide) ?_
      exact sm_iret F dX10_wrongWhat_15 (Option.some.inj hf) rfl
/-! SoManyForgotten.noneIfNever(I)I -/
abbrev rmX10_noneIfNever : Room := { frames := 0, cells := 0, slots := 0, locals := 0 }
set_option maxRecDepth 100000 in
theorem hsX10_noneIfNever : yX10_noneIfNever.cls ≠ "java/lang/invoke/MethodHandle" ∧ yX10_noneIfNever.cls ≠ "java/lang/invoke/VarHandle" ∧ (parseMethodDescriptor yX10_noneIfNever.desc).map (fun d => d.parameters.length) = some 1 := by decide +kernel
set_option maxRecDepth 100000 in
set_option maxHeartbeats 4000000 in
theorem ct_X10_noneIfNever (l : Launch) (D : va_G) (tys : List (ClassId × FieldType)) {x0 : Int32} {r : Int32} (hf : f_X10_noneIfNever x0 = some r) : Ct l yX10_noneIfNever (uw (Cond.code yX10_noneIfNever cX10_noneIfNever 1 (some .int))) rmX10_noneIfNever D tys E0 [.int x0] [] (some (.int r)) [] := by
  refine sm_start (cc := cX10_noneIfNever) (maxL := 1) (ret := (some .int)) (own := RX10) (by decide) rfl rfl (Nat.le_of_ble_eq_true rfl) (lv := [(0, .int x0)]) rfl ?_
  intro p e s m below meth c A F hE hA
  unfold f_X10_noneIfNever at hf
  refine sm_iload_n F dX10_noneIfNever_0 rfl 0 rfl ?_
  refine sm_bipush F dX10_noneIfNever_1 kc_b_100 ?_
  refine sm_icmp_ne (tgt := 11) F dX10_noneIfNever_3 (by decide) (fun c3 => ?_) (fun c3 => ?_)
  · replace hf := if_f c3 hf
    refine sm_iload_n F dX10_noneIfNever_11 rfl 0 rfl ?_
    exact sm_iret F dX10_noneIfNever_12 (Option.some.inj hf) rfl
  · replace hf := if_t c3 hf
    refine sm_bipush F dX10_noneIfNever_6 kc_b_m9 ?_
    refine sm_goto (tgt := 12) F dX10_noneIfNever_8 (by decide) ?_
    exact sm_iret F dX10_noneIfNever_12 (Option.some.inj hf) rfl
/-! SoManyForgotten.greatestDivisor(JJ)J -/
abbrev rmX10_greatestDivisor : Room := { frames := 0, cells := 0, slots := 0, locals := 0 }
set_option maxRecDepth 100000 in
theorem hsX10_greatestDivisor : yX10_greatestDivisor.cls ≠ "java/lang/invoke/MethodHandle" ∧ yX10_greatestDivisor.cls ≠ "java/lang/invoke/VarHandle" ∧ (parseMethodDescriptor yX10_greatestDivisor.desc).map (fun d => d.parameters.length) = some 2 := by decide +kernel
set_option maxRecDepth 100000 in
set_option maxHeartbeats 4000000 in
theorem s_X10_greatestDivisor_9_b {p : Program} {l : Launch} {e : Env} {s : State} {m : MethodId} {args : Array Value} {below : List Frame} {meth : Method} {c : Code} {A : Nat → Prop} {D : va_G} {tys : List (ClassId × FieldType)} {r : Int64} (F : smF p s m args meth c cX10_greatestDivisor 11 (some .long) RX10 D tys A)  (k9 : Int64 → Int64 → Int32 → Option Int64) (hk9 : ∀ (x4' : Int64) (x6' : Int64) (x8' : Int32), k9 x4' x6' x8' = some r → Sm p l e rmX10_greatestDivisor s m args below meth c D A 11 0 0 (smQ below args s D A (some (.long r)) []) 9 [(4, .long x4'), (6, .long x6'), (8, .int x8')] [] []) (x4 : Int64) (x6 : Int64) (x8 : Int32) (hf : b_X10_greatestDivisor_9   k9 x4 x6 x8 = some r) : Sm p l e rmX10_greatestDivisor s m args below meth c D A 11 0 0 (smQ below args s D A (some (.long r)) []) 9 [(4, .long x4), (6, .long x6), (8, .int x8)] [] [] := by
  unfold b_X10_greatestDivisor_9 at hf
  refine sm_iload F dX10_greatestDivisor_9 2 rfl ?_
  refine sm_bipush F dX10_greatestDivisor_11 kc_b_100 ?_
  refine sm_icmp_ge (tgt := 44) F dX10_greatestDivisor_13 (by decide) (fun c13 => ?_) (fun c13 => ?_)
  · replace hf := if_t c13 hf
    refine sm_lload F dX10_greatestDivisor_44 0 rfl ?_
    exact sm_lret F dX10_greatestDivisor_46 (Option.some.inj hf) rfl
  · replace hf := if_f c13 hf
    refine sm_lload F dX10_greatestDivisor_16 1 rfl ?_
    refine sm_lconst F dX10_greatestDivisor_18 kc_l_0 ?_
    refine sm_lcmp F dX10_greatestDivisor_19 ?_
    refine sm_if_eq (tgt := 44) F dX10_greatestDivisor_20 (by decide) (fun c20 => ?_) (fun c20 => ?_)
    · replace hf := if_t c20 hf
      refine sm_lload F dX10_greatestDivisor_44 0 rfl ?_
      exact sm_lret F dX10_greatestDivisor_46 (Option.some.inj hf) rfl
    · replace hf := if_f c20 hf
      refine sm_lload F dX10_greatestDivisor_23 0 rfl ?_
      refine sm_lload F dX10_greatestDivisor_25 1 rfl ?_
      obtain ⟨h27, hf⟩ := dzl_some hf
      refine sm_lrem F dX10_greatestDivisor_27 h27 ?_
      refine sm_lstore F [(6, .long x6), (8, .int x8), (9, .long (x4 - x4 / x6 * x6))] [2, 3, 0] dX10_greatestDivisor_28 (by decide) rfl ?_
      refine sm_lload F dX10_greatestDivisor_30 0 rfl ?_
      refine sm_lstore F [(4, .long x6), (8, .int x8), (9, .long (x4 - x4 / x6 * x6))] [0, 2, 3] dX10_greatestDivisor_32 (by decide) rfl ?_
      refine sm_lload F dX10_greatestDivisor_34 2 rfl ?_
      refine sm_lstore F [(4, .long x6), (6, .long (x4 - x4 / x6 * x6)), (8, .int x8)] [1, 0, 2] dX10_greatestDivisor_36 (by decide) rfl ?_
      refine sm_iinc F [(4, .long x6), (6, .long (x4 - x4 / x6 * x6)), (8, .int (x8 + 1))] 2 [1, 2, 0] dX10_greatestDivisor_38 rfl kc_i_1 (by decide) rfl ?_
      refine sm_goto (tgt := 9) F dX10_greatestDivisor_41 (by decide) ?_
      exact hk9 x6 (x4 - x4 / x6 * x6) (x8 + 1) hf
set_option maxRecDepth 100000 in
set_option maxHeartbeats 4000000 in
theorem s_X10_greatestDivisor_9 {p : Program} {l : Launch} {e : Env} {s : State} {m : MethodId} {args : Array Value} {below : List Frame} {meth : Method} {c : Code} {A : Nat → Prop} {D : va_G} {tys : List (ClassId × FieldType)} {r : Int64} (F : smF p s m args meth c cX10_greatestDivisor 11 (some .long) RX10 D tys A)   (n : Nat) (x4 : Int64) (x6 : Int64) (x8 : Int32) (hf : f_X10_greatestDivisor_9   n x4 x6 x8 = some r) : Sm p l e rmX10_greatestDivisor s m args below meth c D A 11 0 0 (smQ below args s D A (some (.long r)) []) 9 [(4, .long x4), (6, .long x6), (8, .int x8)] [] [] :=
  lq3_ind (P := fun (x4 : Int64) (x6 : Int64) (x8 : Int32) => Sm p l e rmX10_greatestDivisor s m args below meth c D A 11 0 0 (smQ below args s D A (some (.long r)) []) 9 [(4, .long x4), (6, .long x6), (8, .int x8)] [] []) (fun k9 hk9 x4 x6 x8 h9 => s_X10_greatestDivisor_9_b F   k9 hk9 x4 x6 x8 h9) n x4 x6 x8 hf
set_option maxRecDepth 100000 in
set_option maxHeartbeats 4000000 in
theorem ct_X10_greatestDivisor (l : Launch) (D : va_G) (tys : List (ClassId × FieldType)) {x0 : Int64} {x2 : Int64} {r : Int64} (hf : f_X10_greatestDivisor x0 x2 = some r) : Ct l yX10_greatestDivisor (uw (Cond.code yX10_greatestDivisor cX10_greatestDivisor 11 (some .long))) rmX10_greatestDivisor D tys E0 [.long x0, .long x2] [] (some (.long r)) [] := by
  refine sm_start (cc := cX10_greatestDivisor) (maxL := 11) (ret := (some .long)) (own := RX10) (by decide) rfl rfl (Nat.le_of_ble_eq_true rfl) (lv := [(0, .long x0), (2, .long x2)]) rfl ?_
  intro p e s m below meth c A F hE hA
  unfold f_X10_greatestDivisor at hf
  refine sm_lload_n F dX10_greatestDivisor_0 rfl 0 rfl ?_
  refine sm_lstore F [(2, .long x2), (4, .long x0)] [2, 0] dX10_greatestDivisor_1 (by decide) rfl ?_
  refine sm_lload_n F dX10_greatestDivisor_3 rfl 0 rfl ?_
  refine sm_lstore F [(4, .long x0), (6, .long x2)] [2, 0] dX10_greatestDivisor_4 (by decide) rfl ?_
  refine sm_iconst F dX10_greatestDivisor_6 kc_i_0 ?_
  refine sm_istore F [(4, .long x0), (6, .long x2), (8, .int (0 : Int32))] [1, 2, 0] dX10_greatestDivisor_7 (by decide) rfl ?_
  exact s_X10_greatestDivisor_9 F  smN x0 x2 (0 : Int32) hf
/-! SoManyForgotten.partOf(JJI)J -/
abbrev rmX10_partOf : Room := { frames := 1, cells := 0, slots := 0, locals := 30 }
set_option maxRecDepth 100000 in
theorem hsX10_partOf : yX10_partOf.cls ≠ "java/lang/invoke/MethodHandle" ∧ yX10_partOf.cls ≠ "java/lang/invoke/VarHandle" ∧ (parseMethodDescriptor yX10_partOf.desc).map (fun d => d.parameters.length) = some 3 := by decide +kernel
set_option maxRecDepth 100000 in
set_option maxHeartbeats 4000000 in
theorem ct_X10_partOf (l : Launch) (D : va_G) (tys : List (ClassId × FieldType)) {x0 : Int64} {x2 : Int64} {x4 : Int32} {r : Int64} (hf : f_X10_partOf x0 x2 x4 = some r) : Ct l yX10_partOf (uw (Cond.code yX10_partOf cX10_partOf 7 (some .long))) rmX10_partOf D tys E0 [.long x0, .long x2, .int x4] [] (some (.long r)) [] := by
  refine sm_start (cc := cX10_partOf) (maxL := 7) (ret := (some .long)) (own := RX10) (by decide) rfl rfl (Nat.le_of_ble_eq_true rfl) (lv := [(0, .long x0), (2, .long x2), (4, .int x4)]) rfl ?_
  intro p e s m below meth c A F hE hA
  unfold f_X10_partOf at hf
  refine sm_lload_n F dX10_partOf_0 rfl 0 rfl ?_
  refine sm_lload_n F dX10_partOf_1 rfl 1 rfl ?_
  obtain ⟨z2, hz2, hf⟩ := bd_some hf
  refine sm_callS (rest := []) F (ct_X10_greatestDivisor l D tys hz2) cut_N_none rfl rfl rfl qw4_154 qw4_155 qw1_1 qw4_156 hsX10_greatestDivisor ⟨Nat.le_of_ble_eq_true rfl, Nat.le_of_ble_eq_true rfl⟩ ⟨Nat.zero_le _, Nat.zero_le _⟩ rfl (Nat.le_of_ble_eq_true rfl) E0_b (fun _ _ _ _ _ _ => trivial) rfl dX10_partOf_2 [.long z2] rfl ?_
  refine sm_lstore F [(0, .long x0), (2, .long x2), (4, .int x4), (5, .long z2)] [1, 2, 3, 0] dX10_partOf_5 (by decide) rfl ?_
  refine sm_lload F dX10_partOf_7 3 rfl ?_
  refine sm_lconst F dX10_partOf_9 kc_l_1 ?_
  refine sm_lcmp F dX10_partOf_10 ?_
  refine sm_if_ge (tgt := 18) F dX10_partOf_11 (by decide) (fun c11 => ?_) (fun c11 => ?_)
  · replace hf := if_t c11 hf
    refine sm_iload F dX10_partOf_18 2 rfl ?_
    refine sm_if_ne (tgt := 27) F dX10_partOf_20 (by decide) (fun c20 => ?_) (fun c20 => ?_)
    · replace hf := if_f c20 hf
      refine sm_lload_n F dX10_partOf_27 rfl 1 rfl ?_
      refine sm_lload F dX10_partOf_28 3 rfl ?_
      obtain ⟨h30, hf⟩ := dzl_some hf
      refine sm_ldiv F dX10_partOf_30 h30 ?_
      exact sm_lret F dX10_partOf_31 (Option.some.inj hf) rfl
    · replace hf := if_t c20 hf
      refine sm_lload_n F dX10_partOf_23 rfl 0 rfl ?_
      refine sm_goto (tgt := 28) F dX10_partOf_24 (by decide) ?_
      refine sm_lload F dX10_partOf_28 3 rfl ?_
      obtain ⟨h30, hf⟩ := dzl_some hf
      refine sm_ldiv F dX10_partOf_30 h30 ?_
      exact sm_lret F dX10_partOf_31 (Option.some.inj hf) rfl
  · replace hf := if_f c11 hf
    refine sm_iload F dX10_partOf_14 2 rfl ?_
    refine sm_i2l F dX10_partOf_16 ?_
    exact sm_lret F dX10_partOf_17 (Option.some.inj hf) rfl
