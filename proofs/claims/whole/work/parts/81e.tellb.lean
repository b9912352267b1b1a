set_option maxRecDepth 100000 in
theorem qw0_2 : Cond.selects RX7 yX7_firstWrongLetter yX7_firstWrongLetter ∈ LW := lwm (tb0 (List.mem_of_getElem? (i := 2) (by decide +kernel))) rfl
set_option maxRecDepth 100000 in
theorem qw0_3 : Cond.selects RX7 yX7_isStart yX7_isStart ∈ LW := lwm (tb0 (List.mem_of_getElem? (i := 3) (by decide +kernel))) rfl
set_option maxRecDepth 100000 in
theorem qw0_4 : Cond.selects RX7 yX7_carryOut yX7_carryOut ∈ LW := lwm (tb0 (List.mem_of_getElem? (i := 4) (by decide +kernel))) rfl
set_option maxRecDepth 100000 in
theorem qw0_5 : Cond.selects RX7 yX7_carryOutPerson yX7_carryOutPerson ∈ LW := lwm (tb0 (List.mem_of_getElem? (i := 5) (by decide +kernel))) rfl
set_option maxRecDepth 100000 in
theorem qw2_10 : Cond.code yX7_tell cX7_tell 5 (some .int) ∈ LW := lwm (tb2 (List.mem_of_getElem? (i := 10) (by decide +kernel))) rfl
set_option maxRecDepth 100000 in
theorem qw2_11 : Cond.methodLink RX7 19 yX7_firstWrongLetter ∈ LW := lwm (tb2 (List.mem_of_getElem? (i := 11) (by decide +kernel))) rfl
set_option maxRecDepth 100000 in
theorem qw2_13 : Cond.instanceMethod yX7_firstWrongLetter ∈ LW := lwm (tb2 (List.mem_of_getElem? (i := 13) (by decide +kernel))) rfl
set_option maxRecDepth 100000 in
theorem qw2_14 : Cond.code yX7_firstWrongLetter cX7_firstWrongLetter 4 (some .int) ∈ LW := lwm (tb2 (List.mem_of_getElem? (i := 14) (by decide +kernel))) rfl
set_option maxRecDepth 100000 in
theorem qw2_141 : Cond.methodLink RX7 23 yX7_isStart ∈ LW := lwm (tb2 (List.mem_of_getElem? (i := 141) (by decide +kernel))) rfl
set_option maxRecDepth 100000 in
theorem qw2_143 : Cond.instanceMethod yX7_isStart ∈ LW := lwm (tb2 (List.mem_of_getElem? (i := 143) (by decide +kernel))) rfl
set_option maxRecDepth 100000 in
theorem qw2_144 : Cond.code yX7_isStart cX7_isStart 2 (some .boolean) ∈ LW := lwm (tb2 (List.mem_of_getElem? (i := 144) (by decide +kernel))) rfl
set_option maxRecDepth 100000 in
theorem qw2_145 : Cond.methodLink RX7 27 yX7_carryOut ∈ LW := lwm (tb2 (List.mem_of_getElem? (i := 145) (by decide +kernel))) rfl
set_option maxRecDepth 100000 in
theorem qw2_147 : Cond.instanceMethod yX7_carryOut ∈ LW := lwm (tb2 (List.mem_of_getElem? (i := 147) (by decide +kernel))) rfl
set_option maxRecDepth 100000 in
theorem qw2_148 : Cond.code yX7_carryOut cX7_carryOut 3 (some .boolean) ∈ LW := lwm (tb2 (List.mem_of_getElem? (i := 148) (by decide +kernel))) rfl
set_option maxRecDepth 100000 in
theorem qw2_149 : Cond.methodLink RX7 77 yX7_carryOutPerson ∈ LW := lwm (tb2 (List.mem_of_getElem? (i := 149) (by decide +kernel))) rfl
set_option maxRecDepth 100000 in
theorem qw2_151 : Cond.instanceMethod yX7_carryOutPerson ∈ LW := lwm (tb2 (List.mem_of_getElem? (i := 151) (by decide +kernel))) rfl
set_option maxRecDepth 100000 in
theorem qw2_152 : Cond.code yX7_carryOutPerson cX7_carryOutPerson 4 (some .boolean) ∈ LW := lwm (tb2 (List.mem_of_getElem? (i := 152) (by decide +kernel))) rfl
set_option maxRecDepth 100000 in
theorem qw2_169 : Cond.methodLink RX7 83 yX7_carryOutRecalls ∈ LW := lwm (tb2 (List.mem_of_getElem? (i := 169) (by decide +kernel))) rfl
set_option maxRecDepth 100000 in
theorem qw2_170 : Cond.static yX7_carryOutRecalls ∈ LW := lwm (tb2 (List.mem_of_getElem? (i := 170) (by decide +kernel))) rfl
set_option maxRecDepth 100000 in
theorem qw2_171 : Cond.code yX7_carryOutRecalls cX7_carryOutRecalls 4 (some .boolean) ∈ LW := lwm (tb2 (List.mem_of_getElem? (i := 171) (by decide +kernel))) rfl
set_option maxRecDepth 100000 in
theorem qw2_185 : Cond.methodLink RX7 91 yX7_carryOutSpeaks ∈ LW := lwm (tb2 (List.mem_of_getElem? (i := 185) (by decide +kernel))) rfl
set_option maxRecDepth 100000 in
theorem qw2_186 : Cond.static yX7_carryOutSpeaks ∈ LW := lwm (tb2 (List.mem_of_getElem? (i := 186) (by decide +kernel))) rfl
set_option maxRecDepth 100000 in
theorem qw2_187 : Cond.code yX7_carryOutSpeaks cX7_carryOutSpeaks 3 (some .boolean) ∈ LW := lwm (tb2 (List.mem_of_getElem? (i := 187) (by decide +kernel))) rfl
set_option maxRecDepth 100000 in
theorem qw2_219 : Cond.methodLink RX7 100 yX7_carryOutWeeks ∈ LW := lwm (tb2 (List.mem_of_getElem? (i := 219) (by decide +kernel))) rfl
set_option maxRecDepth 100000 in
theorem qw2_220 : Cond.static yX7_carryOutWeeks ∈ LW := lwm (tb2 (List.mem_of_getElem? (i := 220) (by decide +kernel))) rfl
set_option maxRecDepth 100000 in
theorem qw2_221 : Cond.code yX7_carryOutWeeks cX7_carryOutWeeks 3 (some .boolean) ∈ LW := lwm (tb2 (List.mem_of_getElem? (i := 221) (by decide +kernel))) rfl
set_option maxRecDepth 100000 in
theorem qw2_7 : Cond.methodLink RX10 93 yX7_tell ∈ LW := lwm (tb2 (List.mem_of_getElem? (i := 7) (by decide +kernel))) rfl
set_option maxRecDepth 100000 in
theorem qw2_8 : Cond.instanceMethod yX7_tell ∈ LW := lwm (tb2 (List.mem_of_getElem? (i := 8) (by decide +kernel))) rfl
set_option maxRecDepth 100000 in
theorem qw2_9 : Cond.selects RX7 yX7_tell yX7_tell ∈ LW := lwm (tb2 (List.mem_of_getElem? (i := 9) (by decide +kernel))) rfl
set_option maxRecDepth 100000 in
theorem qw3_43 : Cond.methodLink RX10 97 yX7_forgetLetters ∈ LW := lwm (tb3 (List.mem_of_getElem? (i := 43) (by decide +kernel))) rfl
set_option maxRecDepth 100000 in
theorem qw3_44 : Cond.instanceMethod yX7_forgetLetters ∈ LW := lwm (tb3 (List.mem_of_getElem? (i := 44) (by decide +kernel))) rfl
set_option maxRecDepth 100000 in
theorem qw3_45 : Cond.selects RX7 yX7_forgetLetters yX7_forgetLetters ∈ LW := lwm (tb3 (List.mem_of_getElem? (i := 45) (by decide +kernel))) rfl
set_option maxRecDepth 100000 in
theorem qw3_46 : Cond.code yX7_forgetLetters cX7_forgetLetters 1 none ∈ LW := lwm (tb3 (List.mem_of_getElem? (i := 46) (by decide +kernel))) rfl
set_option maxRecDepth 100000 in
theorem cut_TV_id (cI cZ cO : ClassId) (a : Nat → Nat) (u t : TS × VS) : smCut (wTV cI cZ cO a u) (wTV cI cZ cO a u) (wTV cI cZ cO a t) (wTV cI cZ cO a t) := ⟨[0, 1, 2, 3, 4, 5, 6, 7, 8, 9, 10, 11, 12, 13, 14], [], [0, 1, 2, 3, 4, 5, 6, 7, 8, 9, 10, 11, 12, 13, 14], [], rfl, by decide, rfl, rfl, fun _ h => (by cases h), rfl, by decide⟩
def pm_X_tv (i : Nat) : Nat := [2, 3, 10, 11, 12, 13, 14, 15, 40, 41, 42, 43, 44, 45, 46].getD i 0
set_option maxRecDepth 100000 in
theorem cut_X_tv (cI cZ cO : ClassId) (a : Nat → Nat) (u : XS) (t : TS × VS) : smCut (wX cI cZ cO a u) (wTV cI cZ cO (fun i => a (pm_X_tv i)) (gX_tell u, gX_told u)) (wTV cI cZ cO (fun i => a (pm_X_tv i)) t) (wX cI cZ cO a (sX_told (sX_tell u t.1) t.2)) := ⟨[2, 3, 10, 11, 12, 13, 14, 15, 40, 41, 42, 43, 44, 45, 46], [0, 1, 4, 5, 6, 7, 8, 9, 16, 17, 18, 19, 20, 21, 22, 23, 24, 25, 26, 27, 28, 29, 30, 31, 32, 33, 34, 35, 36, 37, 38, 39], [0, 1, 32, 33, 2, 3, 4, 5, 6, 7, 34, 35, 36, 37, 38, 39, 8, 9, 10, 11, 12, 13, 14, 15, 16, 17, 18, 19, 20, 21, 22, 23, 24, 25, 26, 27, 28, 29, 30, 31, 40, 41, 42, 43, 44, 45, 46], ([0, 1, 4, 5, 6, 7, 8, 9, 16, 17, 18, 19, 20, 21, 22, 23, 24, 25, 26, 27, 28, 29, 30, 31, 32, 33, 34, 35, 36, 37, 38, 39].filterMap (fun i => (wX cI cZ cO a u)[i]?)), rfl, by decide, rfl, by decide, by decide, rfl, by decide⟩
set_option maxRecDepth 100000 in
theorem cut_X_tv_ro (cI cZ cO : ClassId) (a : Nat → Nat) (u : XS) : smCut (wX cI cZ cO a u) (wTV cI cZ cO (fun i => a (pm_X_tv i)) (gX_tell u, gX_told u)) (wTV cI cZ cO (fun i => a (pm_X_tv i)) (gX_tell u, gX_told u)) (wX cI cZ cO a u) := ⟨[2, 3, 10, 11, 12, 13, 14, 15, 40, 41, 42, 43, 44, 45, 46], [0, 1, 4, 5, 6, 7, 8, 9, 16, 17, 18, 19, 20, 21, 22, 23, 24, 25, 26, 27, 28, 29, 30, 31, 32, 33, 34, 35, 36, 37, 38, 39], [0, 1, 32, 33, 2, 3, 4, 5, 6, 7, 34, 35, 36, 37, 38, 39, 8, 9, 10, 11, 12, 13, 14, 15, 16, 17, 18, 19, 20, 21, 22, 23, 24, 25, 26, 27, 28, 29, 30, 31, 40, 41, 42, 43, 44, 45, 46], ([0, 1, 4, 5, 6, 7, 8, 9, 16, 17, 18, 19, 20, 21, 22, 23, 24, 25, 26, 27, 28, 29, 30, 31, 32, 33, 34, 35, 36, 37, 38, 39].filterMap (fun i => (wX cI cZ cO a u)[i]?)), rfl, by decide, rfl, by decide, by decide, rfl, by decide⟩
def pm_X_vv22_10 (i : Nat) : Nat := [22, 23, 24, 25, 26, 27, 10, 11, 12, 13, 14, 15, 40].getD i 0
set_option maxRecDepth 100000 in
theorem cut_X_vv22_10 (cI cZ cO : ClassId) (a : Nat → Nat) (u : XS) (t : VS × VS) : smCut (wX cI cZ cO a u) (wVV cI cZ cO (fun i => a (pm_X_vv22_10 i)) ((gM_now (gX_mind u)), (gX_told u))) (wVV cI cZ cO (fun i => a (pm_X_vv22_10 i)) t) (wX cI cZ cO a (sX_told (sX_mind u (sM_now (gX_mind u) t.1)) t.2)) := ⟨[22, 23, 24, 25, 26, 27, 10, 11, 12, 13, 14, 15], [0, 1, 2, 3, 4, 5, 6, 7, 8, 9, 16, 17, 18, 19, 20, 21, 28, 29, 30, 31, 32, 33, 34, 35, 36, 37, 38, 39, 40, 41, 42, 43, 44, 45, 46], [0, 1, 2, 3, 4, 5, 6, 7, 8, 9, 41, 42, 43, 44, 45, 46, 10, 11, 12, 13, 14, 15, 35, 36, 37, 38, 39, 40, 16, 17, 18, 19, 20, 21, 22, 23, 24, 25, 26, 27, 28, 29, 30, 31, 32, 33, 34], ([0, 1, 2, 3, 4, 5, 6, 7, 8, 9, 16, 17, 18, 19, 20, 21, 28, 29, 30, 31, 32, 33, 34, 35, 36, 37, 38, 39, 40, 41, 42, 43, 44, 45, 46].filterMap (fun i => (wX cI cZ cO a u)[i]?)), rfl, by decide, rfl, by decide, by decide, rfl, by decide⟩
set_option maxRecDepth 100000 in
theorem cut_X_vv22_10_ro (cI cZ cO : ClassId) (a : Nat → Nat) (u : XS) : smCut (wX cI cZ cO a u) (wVV cI cZ cO (fun i => a (pm_X_vv22_10 i)) ((gM_now (gX_mind u)), (gX_told u))) (wVV cI cZ cO (fun i => a (pm_X_vv22_10 i)) ((gM_now (gX_mind u)), (gX_told u))) (wX cI cZ cO a u) := ⟨[22, 23, 24, 25, 26, 27, 10, 11, 12, 13, 14, 15], [0, 1, 2, 3, 4, 5, 6, 7, 8, 9, 16, 17, 18, 19, 20, 21, 28, 29, 30, 31, 32, 33, 34, 35, 36, 37, 38, 39, 40, 41, 42, 43, 44, 45, 46], [0, 1, 2, 3, 4, 5, 6, 7, 8, 9, 41, 42, 43, 44, 45, 46, 10, 11, 12, 13, 14, 15, 35, 36, 37, 38, 39, 40, 16, 17, 18, 19, 20, 21, 22, 23, 24, 25, 26, 27, 28, 29, 30, 31, 32, 33, 34], ([0, 1, 2, 3, 4, 5, 6, 7, 8, 9, 16, 17, 18, 19, 20, 21, 28, 29, 30, 31, 32, 33, 34, 35, 36, 37, 38, 39, 40, 41, 42, 43, 44, 45, 46].filterMap (fun i => (wX cI cZ cO a u)[i]?)), rfl, by decide, rfl, by decide, by decide, rfl, by decide⟩
theorem X_tv_sub (cI cZ cO : ClassId) (a : Nat → Nat) (u : TS × VS) : ∀ (k q : Nat) (e : va_E), (wTV cI cZ cO (fun i => a (pm_X_tv i)) u)[k]? = some (q, e) → ∃ i, i < 47 ∧ q = a i := fun k q e h => by
  obtain ⟨h1, h2⟩ := TV_ad cI cZ cO _ u k q e h
  refine ⟨pm_X_tv k, ?_, h2⟩
  have key : ∀ k, k < 15 → pm_X_tv k < 47 := by decide
  exact key k h1
/-! SoManyForgotten$Telling.carryOut(LSoManyForgotten$Valley;I)Z -/
abbrev rmX7_carryOut : Room := { frames := 8, cells := 0, slots := 0, locals := 253 }
set_option maxRecDepth 100000 in
theorem hvX7_carryOut : yX7_carryOut.cls = RX7 ∧ yX7_carryOut.cls ≠ "java/lang/invoke/MethodHandle" ∧ yX7_carryOut.cls ≠ "java/lang/invoke/VarHandle" ∧ (parseMethodDescriptor yX7_carryOut.desc).map (fun d => d.parameters.length) = some 2 := by decide +kernel
set_option maxRecDepth 100000 in
set_option maxHeartbeats 4000000 in
theorem ct_X7_carryOut (l : Launch) (D : va_G) (cI cZ cO : ClassId) (a : Nat → Nat) (adK adV : Nat → Nat) (zf : Option Nat) {u : TS × VS} {x2 : Int32} {r : Int32} {o : TS × VS} (hf : f_X7_carryOut u x2 = some (r, o)) : Ct l yX7_carryOut (uw (Cond.code yX7_carryOut cX7_carryOut 3 (some .boolean))) rmX7_carryOut D (tyL cI cZ cO) (ES adK adV zf (wTV cI cZ cO a u)) [.ref (a 0), .ref (a 2), .int x2] (wTV cI cZ cO a u) (some (.int r)) (wTV cI cZ cO a o) := by
  refine sm_start (cc := cX7_carryOut) (maxL := 3) (ret := (some .boolean)) (own := RX7) (by decide) rfl rfl (Nat.le_of_ble_eq_true rfl) (lv := [(0, .ref (a 0)), (1, .ref (a 2)), (2, .int x2)]) rfl ?_
  intro p e s m below meth c A F hE hA
  have hE := TV_EA hE hA
  unfold f_X7_carryOut at hf
  refine sm_aload_n F dX7_carryOut_0 rfl 0 rfl ?_
  refine sm_get (v := .ref (a 1)) F inX7 0 rfl rfl 0 (by decide) qw1_161 rfl rfl dX7_carryOut_1 ?_
  refine sm_iload_n F dX7_carryOut_4 rfl 2 rfl ?_
  obtain ⟨h5, hf⟩ := ck_some hf
  refine sm_iald F 1 0 rfl rfl h5 dX7_carryOut_5 ?_
  by_cases w6_98 : ((gT_let u.1) (Int32.toNatClampNeg x2)) = 98
  · replace hf := if_t w6_98 hf
    refine sm_tableIn (off := 157) (tgt := 163) F dX7_carryOut_6 (by rw [w6_98]; decide) (by rw [w6_98]; decide) (by rw [w6_98]; rfl) (by decide) ?_
    refine sm_aload_n F dX7_carryOut_163 rfl 1 rfl ?_
    refine sm_aload_n F dX7_carryOut_164 rfl 0 rfl ?_
    refine sm_iload_n F dX7_carryOut_165 rfl 2 rfl ?_
    refine sm_iconst F dX7_carryOut_166 kc_i_1 ?_
    refine sm_iadd F dX7_carryOut_167 ?_
    obtain ⟨z168, hz168, hf⟩ := bd_some hf
    refine sm_callV (rest := [.ref (a 2)]) F (ct_X7_digit l D cI cZ cO (fun i => a (pm_TV_t i)) hz168) (cut_TV_t_ro cI cZ cO a u) rfl rfl rfl qw2_153 qw2_155 qw0_6 qw1_10 qw2_156 hvX7_digit ⟨Nat.le_of_ble_eq_true rfl, Nat.le_of_ble_eq_true rfl⟩ ⟨Nat.zero_le _, Nat.zero_le _⟩ 0 7 rfl rfl rfl rfl (Nat.le_of_ble_eq_true rfl) E0_b (fun _ _ _ _ _ _ => trivial) rfl dX7_carryOut_168 [.int z168, .ref (a 2)] rfl ?_
    obtain ⟨z171, hz171, hf⟩ := bd_some hf
    refine sm_callS (rest := []) F (ct_X7_carryOutBack l D cI cZ cO (fun i => a (pm_TV_v2 i)) hz171) (cut_TV_v2 cI cZ cO a u z171.2) rfl rfl rfl qw2_205 qw2_206 qw1_10 qw2_207 hsX7_carryOutBack ⟨Nat.le_of_ble_eq_true rfl, Nat.le_of_ble_eq_true rfl⟩ ⟨Nat.zero_le _, Nat.zero_le _⟩ rfl (Nat.le_of_ble_eq_true rfl) E0_b (fun _ _ _ _ _ _ => trivial) rfl dX7_carryOut_171 [.int z171.1] rfl ?_
    obtain ⟨h174, hf⟩ := zr_some hf
    exact sm_zret F dX7_carryOut_174 h174 (Prod.mk.inj (Option.some.inj hf)).1 (congrArg (fun z => (wTV cI cZ cO a z)) (Prod.mk.inj (Option.some.inj hf)).2)
  replace hf := if_f w6_98 hf
  by_cases w6_110 : ((gT_let u.1) (Int32.toNatClampNeg x2)) = 110
  · replace hf := if_t w6_110 hf
    refine sm_tableIn (off := 169) (tgt := 175) F dX7_carryOut_6 (by rw [w6_110]; decide) (by rw [w6_110]; decide) (by rw [w6_110]; rfl) (by decide) ?_
    refine sm_aload_n F dX7_carryOut_175 rfl 1 rfl ?_
    refine sm_aload_n F dX7_carryOut_176 rfl 0 rfl ?_
    refine sm_iload_n F dX7_carryOut_177 rfl 2 rfl ?_
    refine sm_iconst F dX7_carryOut_178 kc_i_1 ?_
    refine sm_iadd F dX7_carryOut_179 ?_
    obtain ⟨z180, hz180, hf⟩ := bd_some hf
    refine sm_callV (rest := [.ref (a 2)]) F (ct_X7_digit l D cI cZ cO (fun i => a (pm_TV_t i)) hz180) (cut_TV_t_ro cI cZ cO a u) rfl rfl rfl qw2_153 qw2_155 qw0_6 qw1_10 qw2_156 hvX7_digit ⟨Nat.le_of_ble_eq_true rfl, Nat.le_of_ble_eq_true rfl⟩ ⟨Nat.zero_le _, Nat.zero_le _⟩ 0 7 rfl rfl rfl rfl (Nat.le_of_ble_eq_true rfl) E0_b (fun _ _ _ _ _ _ => trivial) rfl dX7_carryOut_180 [.int z180, .ref (a 2)] rfl ?_
    obtain ⟨z183, hz183, hf⟩ := bd_some hf
    refine sm_callS (rest := []) F (ct_X7_carryOutNames l D cI cZ cO (fun i => a (pm_TV_v2 i)) hz183) (cut_TV_v2 cI cZ cO a u z183.2) rfl rfl rfl qw2_216 qw2_217 qw1_10 qw2_218 hsX7_carryOutNames ⟨Nat.le_of_ble_eq_true rfl, Nat.le_of_ble_eq_true rfl⟩ ⟨Nat.zero_le _, Nat.zero_le _⟩ rfl (Nat.le_of_ble_eq_true rfl) E0_b (fun _ _ _ _ _ _ => trivial) rfl dX7_carryOut_183 [.int z183.1] rfl ?_
    obtain ⟨h186, hf⟩ := zr_some hf
    exact sm_zret F dX7_carryOut_186 h186 (Prod.mk.inj (Option.some.inj hf)).1 (congrArg (fun z => (wTV cI cZ cO a z)) (Prod.mk.inj (Option.some.inj hf)).2)
  replace hf := if_f w6_110 hf
  by_cases w6_111 : ((gT_let u.1) (Int32.toNatClampNeg x2)) = 111
  · replace hf := if_t w6_111 hf
    refine sm_tableIn (off := 119) (tgt := 125) F dX7_carryOut_6 (by rw [w6_111]; decide) (by rw [w6_111]; decide) (by rw [w6_111]; rfl) (by decide) ?_
    refine sm_aload_n F dX7_carryOut_125 rfl 1 rfl ?_
    refine sm_aload_n F dX7_carryOut_126 rfl 0 rfl ?_
    refine sm_iload_n F dX7_carryOut_127 rfl 2 rfl ?_
    refine sm_iconst F dX7_carryOut_128 kc_i_1 ?_
    refine sm_iadd F dX7_carryOut_129 ?_
    obtain ⟨z130, hz130, hf⟩ := bd_some hf
    refine sm_callV (rest := [.ref (a 2)]) F (ct_X7_digit l D cI cZ cO (fun i => a (pm_TV_t i)) hz130) (cut_TV_t_ro cI cZ cO a u) rfl rfl rfl qw2_153 qw2_155 qw0_6 qw1_10 qw2_156 hvX7_digit ⟨Nat.le_of_ble_eq_true rfl, Nat.le_of_ble_eq_true rfl⟩ ⟨Nat.zero_le _, Nat.zero_le _⟩ 0 7 rfl rfl rfl rfl (Nat.le_of_ble_eq_true rfl) E0_b (fun _ _ _ _ _ _ => trivial) rfl dX7_carryOut_130 [.int z130, .ref (a 2)] rfl ?_
    refine sm_aload_n F dX7_carryOut_133 rfl 0 rfl ?_
    refine sm_iload_n F dX7_carryOut_134 rfl 2 rfl ?_
    refine sm_iconst F dX7_carryOut_135 kc_i_2 ?_
    refine sm_iadd F dX7_carryOut_136 ?_
    obtain ⟨z137, hz137, hf⟩ := bd_some hf
    refine sm_callV (rest := [.int z130, .ref (a 2)]) F (ct_X7_number l D cI cZ cO (fun i => a (pm_TV_t i)) hz137) (cut_TV_t_ro cI cZ cO a u) rfl rfl rfl qw2_165 qw2_167 qw0_7 qw1_10 qw2_168 hvX7_number ⟨Nat.le_of_ble_eq_true rfl, Nat.le_of_ble_eq_true rfl⟩ ⟨Nat.zero_le _, Nat.zero_le _⟩ 0 7 rfl rfl rfl rfl (Nat.le_of_ble_eq_true rfl) E0_b (fun _ _ _ _ _ _ => trivial) rfl dX7_carryOut_137 [.int z137, .int z130, .ref (a 2)] rfl ?_
    obtain ⟨z140, hz140, hf⟩ := bd_some hf
    refine sm_callS (rest := []) F (ct_X7_carryOutOwes l D cI cZ cO (fun i => a (pm_TV_v2 i)) hz140) (cut_TV_v2 cI cZ cO a u z140.2) rfl rfl rfl qw2_181 qw2_182 qw1_10 qw2_183 hsX7_carryOutOwes ⟨Nat.le_of_ble_eq_true rfl, Nat.le_of_ble_eq_true rfl⟩ ⟨Nat.zero_le _, Nat.zero_le _⟩ rfl (Nat.le_of_ble_eq_true rfl) E0_b (fun _ _ _ _ _ _ => trivial) rfl dX7_carryOut_140 [.int z140.1] rfl ?_
    obtain ⟨h143, hf⟩ := zr_some hf
    exact sm_zret F dX7_carryOut_143 h143 (Prod.mk.inj (Option.some.inj hf)).1 (congrArg (fun z => (wTV cI cZ cO a z)) (Prod.mk.inj (Option.some.inj hf)).2)
  replace hf := if_f w6_111 hf
  by_cases w6_112 : ((gT_let u.1) (Int32.toNatClampNeg x2)) = 112
  · replace hf := if_t w6_112 hf
    refine sm_tableIn (off := 86) (tgt := 92) F dX7_carryOut_6 (by rw [w6_112]; decide) (by rw [w6_112]; decide) (by rw [w6_112]; rfl) (by decide) ?_
    refine sm_aload_n F dX7_carryOut_92 rfl 0 rfl ?_
    refine sm_aload_n F dX7_carryOut_93 rfl 1 rfl ?_
    refine sm_iload_n F dX7_carryOut_94 rfl 2 rfl ?_
    obtain ⟨z95, hz95, hf⟩ := bd_some hf
    refine sm_callV (rest := []) F (ct_X7_carryOutPerson l D cI cZ cO a adK adV zf hz95) (cut_TV_id cI cZ cO a u z95.2) rfl rfl rfl qw2_149 qw2_151 qw0_5 qw1_10 qw2_152 hvX7_carryOutPerson ⟨Nat.le_of_ble_eq_true rfl, Nat.le_of_ble_eq_true rfl⟩ ⟨Nat.zero_le _, Nat.zero_le _⟩ 0 7 rfl rfl rfl rfl (Nat.le_of_ble_eq_true rfl) ES_b (EA_w hE F.2.2.1 (TV_sub cI cZ cO a _)) rfl dX7_carryOut_95 [.int z95.1] rfl ?_
    obtain ⟨h98, hf⟩ := zr_some hf
    exact sm_zret F dX7_carryOut_98 h98 (Prod.mk.inj (Option.some.inj hf)).1 (congrArg (fun z => (wTV cI cZ cO a z)) (Prod.mk.inj (Option.some.inj hf)).2)
  replace hf := if_f w6_112 hf
  by_cases w6_114 : ((gT_let u.1) (Int32.toNatClampNeg x2)) = 114
  · replace hf := if_t w6_114 hf
    refine sm_tableIn (off := 93) (tgt := 99) F dX7_carryOut_6 (by rw [w6_114]; decide) (by rw [w6_114]; decide) (by rw [w6_114]; rfl) (by decide) ?_
    refine sm_aload_n F dX7_carryOut_99 rfl 1 rfl ?_
    refine sm_aload_n F dX7_carryOut_100 rfl 0 rfl ?_
    refine sm_iload_n F dX7_carryOut_101 rfl 2 rfl ?_
    refine sm_iconst F dX7_carryOut_102 kc_i_1 ?_
    refine sm_iadd F dX7_carryOut_103 ?_
    obtain ⟨z104, hz104, hf⟩ := bd_some hf
    refine sm_callV (rest := [.ref (a 2)]) F (ct_X7_digit l D cI cZ cO (fun i => a (pm_TV_t i)) hz104) (cut_TV_t_ro cI cZ cO a u) rfl rfl rfl qw2_153 qw2_155 qw0_6 qw1_10 qw2_156 hvX7_digit ⟨Nat.le_of_ble_eq_true rfl, Nat.le_of_ble_eq_true rfl⟩ ⟨Nat.zero_le _, Nat.zero_le _⟩ 0 7 rfl rfl rfl rfl (Nat.le_of_ble_eq_true rfl) E0_b (fun _ _ _ _ _ _ => trivial) rfl dX7_carryOut_104 [.int z104, .ref (a 2)] rfl ?_
    refine sm_aload_n F dX7_carryOut_107 rfl 0 rfl ?_
    refine sm_iload_n F dX7_carryOut_108 rfl 2 rfl ?_
    refine sm_iconst F dX7_carryOut_109 kc_i_2 ?_
    refine sm_iadd F dX7_carryOut_110 ?_
    obtain ⟨z111, hz111, hf⟩ := bd_some hf
    refine sm_callV (rest := [.int z104, .ref (a 2)]) F (ct_X7_digit l D cI cZ cO (fun i => a (pm_TV_t i)) hz111) (cut_TV_t_ro cI cZ cO a u) rfl rfl rfl qw2_153 qw2_155 qw0_6 qw1_10 qw2_156 hvX7_digit ⟨Nat.le_of_ble_eq_true rfl, Nat.le_of_ble_eq_true rfl⟩ ⟨Nat.zero_le _, Nat.zero_le _⟩ 0 7 rfl rfl rfl rfl (Nat.le_of_ble_eq_true rfl) E0_b (fun _ _ _ _ _ _ => trivial) rfl dX7_carryOut_111 [.int z111, .int z104, .ref (a 2)] rfl ?_
    refine sm_aload_n F dX7_carryOut_114 rfl 0 rfl ?_
    refine sm_iload_n F dX7_carryOut_115 rfl 2 rfl ?_
    refine sm_iconst F dX7_carryOut_116 kc_i_3 ?_
    refine sm_iadd F dX7_carryOut_117 ?_
    obtain ⟨z118, hz118, hf⟩ := bd_some hf
    refine sm_callV (rest := [.int z111, .int z104, .ref (a 2)]) F (ct_X7_number l D cI cZ cO (fun i => a (pm_TV_t i)) hz118) (cut_TV_t_ro cI cZ cO a u) rfl rfl rfl qw2_165 qw2_167 qw0_7 qw1_10 qw2_168 hvX7_number ⟨Nat.le_of_ble_eq_true rfl, Nat.le_of_ble_eq_true rfl⟩ ⟨Nat.zero_le _, Nat.zero_le _⟩ 0 7 rfl rfl rfl rfl (Nat.le_of_ble_eq_true rfl) E0_b (fun _ _ _ _ _ _ => trivial) rfl dX7_carryOut_118 [.int z118, .int z111, .int z104, .ref (a 2)] rfl ?_
    obtain ⟨z121, hz121, hf⟩ := bd_some hf
    refine sm_callS (rest := []) F (ct_X7_carryOutRecalls l D cI cZ cO (fun i => a (pm_TV_v2 i)) hz121) (cut_TV_v2 cI cZ cO a u z121.2) rfl rfl rfl qw2_169 qw2_170 qw1_10 qw2_171 hsX7_carryOutRecalls ⟨Nat.le_of_ble_eq_true rfl, Nat.le_of_ble_eq_true rfl⟩ ⟨Nat.zero_le _, Nat.zero_le _⟩ rfl (Nat.le_of_ble_eq_true rfl) E0_b (fun _ _ _ _ _ _ => trivial) rfl dX7_carryOut_121 [.int z121.1] rfl ?_
    obtain ⟨h124, hf⟩ := zr_some hf
    exact sm_zret F dX7_carryOut_124 h124 (Prod.mk.inj (Option.some.inj hf)).1 (congrArg (fun z => (wTV cI cZ cO a z)) (Prod.mk.inj (Option.some.inj hf)).2)
  replace hf := if_f w6_114 hf
  by_cases w6_115 : ((gT_let u.1) (Int32.toNatClampNeg x2)) = 115
  · replace hf := if_t w6_115 hf
    refine sm_tableIn (off := 138) (tgt := 144) F dX7_carryOut_6 (by rw [w6_115]; decide) (by rw [w6_115]; decide) (by rw [w6_115]; rfl) (by decide) ?_
    refine sm_aload_n F dX7_carryOut_144 rfl 1 rfl ?_
    refine sm_aload_n F dX7_carryOut_145 rfl 0 rfl ?_
    refine sm_iload_n F dX7_carryOut_146 rfl 2 rfl ?_
    refine sm_iconst F dX7_carryOut_147 kc_i_1 ?_
    refine sm_iadd F dX7_carryOut_148 ?_
    obtain ⟨z149, hz149, hf⟩ := bd_some hf
    refine sm_callV (rest := [.ref (a 2)]) F (ct_X7_digit l D cI cZ cO (fun i => a (pm_TV_t i)) hz149) (cut_TV_t_ro cI cZ cO a u) rfl rfl rfl qw2_153 qw2_155 qw0_6 qw1_10 qw2_156 hvX7_digit ⟨Nat.le_of_ble_eq_true rfl, Nat.le_of_ble_eq_true rfl⟩ ⟨Nat.zero_le _, Nat.zero_le _⟩ 0 7 rfl rfl rfl rfl (Nat.le_of_ble_eq_true rfl) E0_b (fun _ _ _ _ _ _ => trivial) rfl dX7_carryOut_149 [.int z149, .ref (a 2)] rfl ?_
    refine sm_aload_n F dX7_carryOut_152 rfl 0 rfl ?_
    refine sm_iload_n F dX7_carryOut_153 rfl 2 rfl ?_
    refine sm_iconst F dX7_carryOut_154 kc_i_2 ?_
    refine sm_iadd F dX7_carryOut_155 ?_
    obtain ⟨z156, hz156, hf⟩ := bd_some hf
    refine sm_callV (rest := [.int z149, .ref (a 2)]) F (ct_X7_digit l D cI cZ cO (fun i => a (pm_TV_t i)) hz156) (cut_TV_t_ro cI cZ cO a u) rfl rfl rfl qw2_153 qw2_155 qw0_6 qw1_10 qw2_156 hvX7_digit ⟨Nat.le_of_ble_eq_true rfl, Nat.le_of_ble_eq_true rfl⟩ ⟨Nat.zero_le _, Nat.zero_le _⟩ 0 7 rfl rfl rfl rfl (Nat.le_of_ble_eq_true rfl) E0_b (fun _ _ _ _ _ _ => trivial) rfl dX7_carryOut_156 [.int z156, .int z149, .ref (a 2)] rfl ?_
    obtain ⟨z159, hz159, hf⟩ := bd_some hf
    refine sm_callS (rest := []) F (ct_X7_carryOutSpeaks l D cI cZ cO (fun i => a (pm_TV_v2 i)) hz159) (cut_TV_v2 cI cZ cO a u z159.2) rfl rfl rfl qw2_185 qw2_186 qw1_10 qw2_187 hsX7_carryOutSpeaks ⟨Nat.le_of_ble_eq_true rfl, Nat.le_of_ble_eq_true rfl⟩ ⟨Nat.zero_le _, Nat.zero_le _⟩ rfl (Nat.le_of_ble_eq_true rfl) E0_b (fun _ _ _ _ _ _ => trivial) rfl dX7_carryOut_159 [.int z159.1] rfl ?_
    obtain ⟨h162, hf⟩ := zr_some hf
    exact sm_zret F dX7_carryOut_162 h162 (Prod.mk.inj (Option.some.inj hf)).1 (congrArg (fun z => (wTV cI cZ cO a z)) (Prod.mk.inj (Option.some.inj hf)).2)
  replace hf := if_f w6_115 hf
  have e6_98 := lv_neT w6_98 (a := 98) rfl
  have e6_110 := lv_neT w6_110 (a := 110) rfl
  have e6_111 := lv_neT w6_111 (a := 111) rfl
  have e6_112 := lv_neT w6_112 (a := 112) rfl
  have e6_114 := lv_neT w6_114 (a := 114) rfl
  have e6_115 := lv_neT w6_115 (a := 115) rfl
  have T6 : ∀ i : Nat, i < 18 → (#[157, 181, 181, 181, 181, 181, 181, 181, 181, 181, 181, 181, 169, 119, 86, 181, 93, 138] : Array Int)[i]? = some 181 ∨ i ∈ ([0, 12, 13, 14, 16, 17] : List Nat) := by decide
  refine sm_tableX (tgt := 187) F dX7_carryOut_6 (by decide) (fun i hi hx => (T6 i hi).elim id (fun q => by simp only [List.mem_cons, List.not_mem_nil, or_false] at q; exfalso; omega)) (by decide) ?_
  refine sm_aload_n F dX7_carryOut_187 rfl 1 rfl ?_
  refine sm_aload_n F dX7_carryOut_188 rfl 0 rfl ?_
  refine sm_iload_n F dX7_carryOut_189 rfl 2 rfl ?_
  refine sm_iconst F dX7_carryOut_190 kc_i_1 ?_
  refine sm_iadd F dX7_carryOut_191 ?_
  obtain ⟨z192, hz192, hf⟩ := bd_some hf
  refine sm_callV (rest := [.ref (a 2)]) F (ct_X7_number l D cI cZ cO (fun i => a (pm_TV_t i)) hz192) (cut_TV_t_ro cI cZ cO a u) rfl rfl rfl qw2_165 qw2_167 qw0_7 qw1_10 qw2_168 hvX7_number ⟨Nat.le_of_ble_eq_true rfl, Nat.le_of_ble_eq_true rfl⟩ ⟨Nat.zero_le _, Nat.zero_le _⟩ 0 7 rfl rfl rfl rfl (Nat.le_of_ble_eq_true rfl) E0_b (fun _ _ _ _ _ _ => trivial) rfl dX7_carryOut_192 [.int z192, .ref (a 2)] rfl ?_
  obtain ⟨z195, hz195, hf⟩ := bd_some hf
  refine sm_callS (rest := []) F (ct_X7_carryOutWeeks l D cI cZ cO (fun i => a (pm_TV_v2 i)) hz195) (cut_TV_v2 cI cZ cO a u z195.2) rfl rfl rfl qw2_219 qw2_220 qw1_10 qw2_221 hsX7_carryOutWeeks ⟨Nat.le_of_ble_eq_true rfl, Nat.le_of_ble_eq_true rfl⟩ ⟨Nat.zero_le _, Nat.zero_le _⟩ rfl (Nat.le_of_ble_eq_true rfl) E0_b (fun _ _ _ _ _ _ => trivial) rfl dX7_carryOut_195 [.int z195.1] rfl ?_
  obtain ⟨h198, hf⟩ := zr_some hf
  exact sm_zret F dX7_carryOut_198 h198 (Prod.mk.inj (Option.some.inj hf)).1 (congrArg (fun z => (wTV cI cZ cO a z)) (Prod.mk.inj (Option.some.inj hf)).2)
/-! SoManyForgotten$Telling.tell(LSoManyForgotten$Valley;)I -/
abbrev rmX7_tell : Room := { frames := 9, cells := 0, slots := 0, locals := 275 }
set_option maxRecDepth 100000 in
theorem hvX7_tell : yX7_tell.cls = RX7 ∧ yX7_tell.cls ≠ "java/lang/invoke/MethodHandle" ∧ yX7_tell.cls ≠ "java/lang/invoke/VarHandle" ∧ (parseMethodDescriptor yX7_tell.desc).map (fun d => d.parameters.length) = some 1 := by decide +kernel
set_option maxRecDepth 100000 in
set_option maxHeartbeats 4000000 in
theorem s_X7_tell_22_b {p : Program} {l : Launch} {e : Env} {s : State} {m : MethodId} {args : Array Value} {below : List Frame} {meth : Method} {c : Code} {A : Nat → Prop} {D : va_G} {cI cZ cO : ClassId} {a : Nat → Nat} {r : Int32} {o : TS × VS} {adK adV : Nat → Nat} {zf : Option Nat} (F : smF p s m args meth c cX7_tell 5 (some .int) RX7 D (tyL cI cZ cO) A) (hE : EA adK adV zf A a 15 s)  (k22 : (TS × VS) → Int32 → Int32 → Option (Int32 × (TS × VS))) (hk22 : ∀ (u' : TS × VS) (x3' : Int32) (x4' : Int32), k22 u' x3' x4' = some (r, o) → Sm p l e rmX7_tell s m args below meth c D A 5 0 0 (smQ below args s D A (some (.int r)) (wTV cI cZ cO a o)) 22 [(0, .ref (a 0)), (1, .ref (a 2)), (3, .int x3'), (4, .int x4')] [] (wTV cI cZ cO a u')) (u : TS × VS) (x3 : Int32) (x4 : Int32) (hf : b_X7_tell_22   k22 u x3 x4 = some (r, o)) : Sm p l e rmX7_tell s m args below meth c D A 5 0 0 (smQ below args s D A (some (.int r)) (wTV cI cZ cO a o)) 22 [(0, .ref (a 0)), (1, .ref (a 2)), (3, .int x3), (4, .int x4)] [] (wTV cI cZ cO a u) := by
  unfold b_X7_tell_22 at hf
  refine sm_iload F dX7_tell_22 3 rfl ?_
  refine sm_aload_n F dX7_tell_24 rfl 0 rfl ?_
  refine sm_get (v := .int (gT_size u.1)) F inX7 0 rfl rfl 1 (by decide) qw1_162 rfl rfl dX7_tell_25 ?_
  refine sm_icmp_ge (tgt := 66) F dX7_tell_28 (by decide) (fun c28 => ?_) (fun c28 => ?_)
  · replace hf := if_t c28 hf
    refine sm_iload_n F dX7_tell_66 rfl 2 rfl ?_
    exact sm_iret F dX7_tell_67 (Prod.mk.inj (Option.some.inj hf)).1 (congrArg (fun z => (wTV cI cZ cO a z)) (Prod.mk.inj (Option.some.inj hf)).2)
  · replace hf := if_f c28 hf
    refine sm_aload_n F dX7_tell_31 rfl 0 rfl ?_
    refine sm_iload F dX7_tell_32 3 rfl ?_
    obtain ⟨z34, hz34, hf⟩ := bd_some hf
    refine sm_callV (rest := []) F (ct_X7_isStart l D cI cZ cO (fun i => a (pm_TV_t i)) hz34) (cut_TV_t_ro cI cZ cO a u) rfl rfl rfl qw2_141 qw2_143 qw0_3 qw1_10 qw2_144 hvX7_isStart ⟨Nat.le_of_ble_eq_true rfl, Nat.le_of_ble_eq_true rfl⟩ ⟨Nat.zero_le _, Nat.zero_le _⟩ 0 7 rfl rfl rfl rfl (Nat.le_of_ble_eq_true rfl) E0_b (fun _ _ _ _ _ _ => trivial) rfl dX7_tell_34 [.int z34] rfl ?_
    refine sm_if_eq (tgt := 60) F dX7_tell_37 (by decide) (fun c37 => ?_) (fun c37 => ?_)
    · replace hf := if_t c37 hf
      refine sm_iinc F [(0, .ref (a 0)), (1, .ref (a 2)), (3, .int x3), (4, .int (x4 + 1))] 3 [1, 2, 3, 0] dX7_tell_60 rfl kc_i_1 (by decide) rfl ?_
      refine sm_goto (tgt := 22) F dX7_tell_63 (by decide) ?_
      exact hk22 u x3 (x4 + 1) hf
    · replace hf := if_f c37 hf
      refine sm_aload_n F dX7_tell_40 rfl 0 rfl ?_
      refine sm_aload_n F dX7_tell_41 rfl 1 rfl ?_
      refine sm_iload F dX7_tell_42 3 rfl ?_
      obtain ⟨z44, hz44, hf⟩ := bd_some hf
      refine sm_callV (rest := []) F (ct_X7_carryOut l D cI cZ cO a adK adV zf hz44) (cut_TV_id cI cZ cO a u z44.2) rfl rfl rfl qw2_145 qw2_147 qw0_4 qw1_10 qw2_148 hvX7_carryOut ⟨Nat.le_of_ble_eq_true rfl, Nat.le_of_ble_eq_true rfl⟩ ⟨Nat.zero_le _, Nat.zero_le _⟩ 0 7 rfl rfl rfl rfl (Nat.le_of_ble_eq_true rfl) ES_b (EA_w hE F.2.2.1 (TV_sub cI cZ cO a _)) rfl dX7_tell_44 [.int z44.1] rfl ?_
      refine sm_if_ne (tgt := 57) F dX7_tell_47 (by decide) (fun c47 => ?_) (fun c47 => ?_)
      · replace hf := if_f c47 hf
        refine sm_iinc F [(0, .ref (a 0)), (1, .ref (a 2)), (3, .int (x3 + 1)), (4, .int x4)] 2 [1, 2, 0, 3] dX7_tell_57 rfl kc_i_1 (by decide) rfl ?_
        refine sm_iinc F [(0, .ref (a 0)), (1, .ref (a 2)), (3, .int (x3 + 1)), (4, .int (x4 + 1))] 3 [1, 2, 3, 0] dX7_tell_60 rfl kc_i_1 (by decide) rfl ?_
        refine sm_goto (tgt := 22) F dX7_tell_63 (by decide) ?_
        exact hk22 z44.2 (x3 + 1) (x4 + 1) hf
      · replace hf := if_t c47 hf
        refine sm_sipush F dX7_tell_50 kc_s_m2000 ?_
        refine sm_iload F dX7_tell_53 3 rfl ?_
        refine sm_isub F dX7_tell_55 ?_
        exact sm_iret F dX7_tell_56 (Prod.mk.inj (Option.some.inj hf)).1 (congrArg (fun z => (wTV cI cZ cO a z)) (Prod.mk.inj (Option.some.inj hf)).2)
set_option maxRecDepth 100000 in
set_option maxHeartbeats 4000000 in
theorem s_X7_tell_22 {p : Program} {l : Launch} {e : Env} {s : State} {m : MethodId} {args : Array Value} {below : List Frame} {meth : Method} {c : Code} {A : Nat → Prop} {D : va_G} {cI cZ cO : ClassId} {a : Nat → Nat} {r : Int32} {o : TS × VS} {adK adV : Nat → Nat} {zf : Option Nat} (F : smF p s m args meth c cX7_tell 5 (some .int) RX7 D (tyL cI cZ cO) A) (hE : EA adK adV zf A a 15 s)   (n : Nat) (u : TS × VS) (x3 : Int32) (x4 : Int32) (hf : f_X7_tell_22   n u x3 x4 = some (r, o)) : Sm p l e rmX7_tell s m args below meth c D A 5 0 0 (smQ below args s D A (some (.int r)) (wTV cI cZ cO a o)) 22 [(0, .ref (a 0)), (1, .ref (a 2)), (3, .int x3), (4, .int x4)] [] (wTV cI cZ cO a u) :=
  lq3_ind (P := fun (u : TS × VS) (x3 : Int32) (x4 : Int32) => Sm p l e rmX7_tell s m args below meth c D A 5 0 0 (smQ below args s D A (some (.int r)) (wTV cI cZ cO a o)) 22 [(0, .ref (a 0)), (1, .ref (a 2)), (3, .int x3), (4, .int x4)] [] (wTV cI cZ cO a u)) (fun k22 hk22 u x3 x4 h9 => s_X7_tell_22_b F hE   k22 hk22 u x3 x4 h9) n u x3 x4 hf
set_option maxRecDepth 100000 in
set_option maxHeartbeats 4000000 in
theorem ct_X7_tell (l : Launch) (D : va_G) (cI cZ cO : ClassId) (a : Nat → Nat) (adK adV : Nat → Nat) (zf : Option Nat) {u : TS × VS} {r : Int32} {o : TS × VS} (hf : f_X7_tell u = some (r, o)) : Ct l yX7_tell (uw (Cond.code yX7_tell cX7_tell 5 (some .int))) rmX7_tell D (tyL cI cZ cO) (ES adK adV zf (wTV cI cZ cO a u)) [.ref (a 0), .ref (a 2)] (wTV cI cZ cO a u) (some (.int r)) (wTV cI cZ cO a o) := by
  refine sm_start (cc := cX7_tell) (maxL := 5) (ret := (some .int)) (own := RX7) (by decide) rfl rfl (Nat.le_of_ble_eq_true rfl) (lv := [(0, .ref (a 0)), (1, .ref (a 2))]) rfl ?_
  intro p e s m below meth c A F hE hA
  have hE := TV_EA hE hA
  unfold f_X7_tell at hf
  refine sm_aload_n F dX7_tell_0 rfl 0 rfl ?_
  obtain ⟨z1, hz1, hf⟩ := bd_some hf
  refine sm_callV (rest := []) F (ct_X7_firstWrongLetter l D cI cZ cO (fun i => a (pm_TV_t i)) adK adV zf hz1) (cut_TV_t_ro cI cZ cO a u) rfl rfl rfl qw2_11 qw2_13 qw0_2 qw1_10 qw2_14 hvX7_firstWrongLetter ⟨Nat.le_of_ble_eq_true rfl, Nat.le_of_ble_eq_true rfl⟩ ⟨Nat.zero_le _, Nat.zero_le _⟩ 0 7 rfl rfl rfl rfl (Nat.le_of_ble_eq_true rfl) ES_b (EA_w hE F.2.2.1 (TV_t_sub cI cZ cO a _)) rfl dX7_tell_1 [.int z1] rfl ?_
  refine sm_istore_n F [(0, .ref (a 0)), (1, .ref (a 2)), (2, .int z1)] [1, 2, 0] dX7_tell_4 rfl (by decide) rfl ?_
  refine sm_iload_n F dX7_tell_5 rfl 2 rfl ?_
  refine sm_bipush F dX7_tell_6 kc_b_m9 ?_
  refine sm_icmp_eq (tgt := 17) F dX7_tell_8 (by decide) (fun c8 => ?_) (fun c8 => ?_)
  · replace hf := if_t c8 hf
    refine sm_iconst F dX7_tell_17 kc_i_0 ?_
    refine sm_istore_n F [(0, .ref (a 0)), (1, .ref (a 2)), (3, .int (0 : Int32))] [1, 2, 0] dX7_tell_18 rfl (by decide) rfl ?_
    refine sm_iconst F dX7_tell_19 kc_i_0 ?_
    refine sm_istore F [(0, .ref (a 0)), (1, .ref (a 2)), (3, .int (0 : Int32)), (4, .int (0 : Int32))] [1, 2, 3, 0] dX7_tell_20 (by decide) rfl ?_
    exact s_X7_tell_22 F hE  smN u (0 : Int32) (0 : Int32) hf
  · replace hf := if_f c8 hf
    refine sm_sipush F dX7_tell_11 kc_s_m1000 ?_
    refine sm_iload_n F dX7_tell_14 rfl 2 rfl ?_
    refine sm_isub F dX7_tell_15 ?_
    exact sm_iret F dX7_tell_16 (Prod.mk.inj (Option.some.inj hf)).1 (congrArg (fun z => (wTV cI cZ cO a z)) (Prod.mk.inj (Option.some.inj hf)).2)
/-! SoManyForgotten.valley()I -/
abbrev rmX10_valley : Room := { frames := 10, cells := 0, slots := 0, locals := 299 }
set_option maxRecDepth 100000 in
theorem hvX10_valley : yX10_valley.cls = RX10 ∧ yX10_valley.cls ≠ "java/lang/invoke/MethodHandle" ∧ yX10_valley.cls ≠ "java/lang/invoke/VarHandle" ∧ (parseMethodDescriptor yX10_valley.desc).map (fun d => d.parameters.length) = some 0 := by decide +kernel
set_option maxRecDepth 100000 in
set_option maxHeartbeats 4000000 in
theorem ct_X10_valley (l : Launch) (D : va_G) (cI cZ cO : ClassId) (a : Nat → Nat) (adK adV : Nat → Nat) (zf : Option Nat) {u : XS} {r : Int32} {o : XS} (hf : f_X10_valley u = some (r, o)) : Ct l yX10_valley (uw (Cond.code yX10_valley cX10_valley 2 (some .int))) rmX10_valley D (tyL cI cZ cO) (ES adK adV zf (wX cI cZ cO a u)) [.ref (a 0)] (wX cI cZ cO a u) (some (.int r)) (wX cI cZ cO a o) := by
  refine sm_start (cc := cX10_valley) (maxL := 2) (ret := (some .int)) (own := RX10) (by decide) rfl rfl (Nat.le_of_ble_eq_true rfl) (lv := [(0, .ref (a 0))]) rfl ?_
  intro p e s m below meth c A F hE hA
  have hE := X_EA hE hA
  unfold f_X10_valley at hf
  refine sm_aload_n F dX10_valley_0 rfl 0 rfl ?_
  refine sm_get (v := .ref (a 10)) F inX10 0 rfl rfl 2 (by decide) qw1_187 rfl rfl dX10_valley_1 ?_
  refine sm_aload_n F dX10_valley_4 rfl 0 rfl ?_
  refine sm_get (v := .ref (a 22)) F inX10 0 rfl rfl 0 (by decide) qw1_185 rfl rfl dX10_valley_5 ?_
  obtain ⟨z8, hz8, hf⟩ := bd_some hf
  refine sm_callV (rest := []) F (ct_X8_copy l D cI cZ cO (fun i => a (pm_X_vv10_22 i)) hz8) (cut_X_vv10_22 cI cZ cO a u z8) rfl rfl rfl qw2_0 qw2_1 qw2_2 qw1_8 qw2_3 hvX8_copy ⟨Nat.le_of_ble_eq_true rfl, Nat.le_of_ble_eq_true rfl⟩ ⟨Nat.zero_le _, Nat.zero_le _⟩ 0 8 rfl rfl rfl rfl (Nat.le_of_ble_eq_true rfl) E0_b (fun _ _ _ _ _ _ => trivial) rfl dX10_valley_8 [] rfl ?_
  refine sm_aload_n F dX10_valley_11 rfl 0 rfl ?_
  refine sm_get (v := .ref (a 2)) F inX10 0 rfl rfl 4 (by decide) qw1_189 rfl rfl dX10_valley_12 ?_
  refine sm_aload_n F dX10_valley_15 rfl 0 rfl ?_
  refine sm_get (v := .ref (a 10)) F inX10 0 rfl rfl 2 (by decide) qw1_187 rfl rfl dX10_valley_16 ?_
  obtain ⟨z19, hz19, hf⟩ := bd_some hf
  refine sm_callV (rest := []) F (ct_X7_tell l D cI cZ cO (fun i => a (pm_X_tv i)) adK adV zf hz19) (cut_X_tv cI cZ cO a (sX_mind (sX_told u z8.1) (sM_now (gX_mind (sX_told u z8.1)) z8.2)) z19.2) rfl rfl rfl qw2_7 qw2_8 qw2_9 qw1_10 qw2_10 hvX7_tell ⟨Nat.le_of_ble_eq_true rfl, Nat.le_of_ble_eq_true rfl⟩ ⟨Nat.zero_le _, Nat.zero_le _⟩ 0 7 rfl rfl rfl rfl (Nat.le_of_ble_eq_true rfl) ES_b (EA_w hE F.2.2.1 (X_tv_sub cI cZ cO a _)) rfl dX10_valley_19 [.int z19.1] rfl ?_
  refine sm_istore_n F [(0, .ref (a 0)), (1, .int z19.1)] [1, 0] dX10_valley_22 rfl (by decide) rfl ?_
  refine sm_aload_n F dX10_valley_23 rfl 0 rfl ?_
  refine sm_get (v := .ref (a 2)) F inX10 0 rfl rfl 4 (by decide) qw1_189 rfl rfl dX10_valley_24 ?_
  obtain ⟨z27, hz27, hf⟩ := bd_some hf
  refine sm_callV (rest := []) F (ct_X7_forgetLetters l D cI cZ cO (fun i => a (pm_X_t i)) hz27) (cut_X_t cI cZ cO a (sX_told (sX_tell (sX_mind (sX_told u z8.1) (sM_now (gX_mind (sX_told u z8.1)) z8.2)) z19.2.1) z19.2.2) z27) rfl rfl rfl qw3_43 qw3_44 qw3_45 qw1_10 qw3_46 hvX7_forgetLetters ⟨Nat.le_of_ble_eq_true rfl, Nat.le_of_ble_eq_true rfl⟩ ⟨Nat.zero_le _, Nat.zero_le _⟩ 0 7 rfl rfl rfl rfl (Nat.le_of_ble_eq_true rfl) E0_b (fun _ _ _ _ _ _ => trivial) rfl dX10_valley_27 [] rfl ?_
  obtain ⟨u27, hu27, hf⟩ := bd_some hf
  refine sm_ws (ws' := (wX cI cZ cO a u27)) (congrArg (fun z => (wX cI cZ cO a z)) (Option.some.inj hu27)) ?_
  refine sm_iload_n F dX10_valley_30 rfl 1 rfl ?_
  refine sm_if_le (tgt := 45) F dX10_valley_31 (by decide) (fun c31 => ?_) (fun c31 => ?_)
  · replace hf := if_t c31 hf
    refine sm_iload_n F dX10_valley_45 rfl 1 rfl ?_
    exact sm_iret F dX10_valley_46 (Prod.mk.inj (Option.some.inj hf)).1 (congrArg (fun z => (wX cI cZ cO a z)) (Prod.mk.inj (Option.some.inj hf)).2)
  · replace hf := if_f c31 hf
    refine sm_aload_n F dX10_valley_34 rfl 0 rfl ?_
    refine sm_get (v := .ref (a 22)) F inX10 0 rfl rfl 0 (by decide) qw1_185 rfl rfl dX10_valley_35 ?_
    refine sm_aload_n F dX10_valley_38 rfl 0 rfl ?_
    refine sm_get (v := .ref (a 10)) F inX10 0 rfl rfl 2 (by decide) qw1_187 rfl rfl dX10_valley_39 ?_
    obtain ⟨z42, hz42, hf⟩ := bd_some hf
    refine sm_callV (rest := []) F (ct_X8_copy l D cI cZ cO (fun i => a (pm_X_vv22_10 i)) hz42) (cut_X_vv22_10 cI cZ cO a u27 z42) rfl rfl rfl qw2_0 qw2_1 qw2_2 qw1_8 qw2_3 hvX8_copy ⟨Nat.le_of_ble_eq_true rfl, Nat.le_of_ble_eq_true rfl⟩ ⟨Nat.zero_le _, Nat.zero_le _⟩ 0 8 rfl rfl rfl rfl (Nat.le_of_ble_eq_true rfl) E0_b (fun _ _ _ _ _ _ => trivial) rfl dX10_valley_42 [] rfl ?_
    refine sm_iload_n F dX10_valley_45 rfl 1 rfl ?_
    exact sm_iret F dX10_valley_46 (Prod.mk.inj (Option.some.inj hf)).1 (congrArg (fun z => (wX cI cZ cO a z)) (Prod.mk.inj (Option.some.inj hf)).2)
