set_option maxRecDepth 100000 in
theorem qw1_21 : Cond.classLink RL 7 RX10 ∈ LW := lwm (tb1 (List.mem_of_getElem? (i := 21) (by decide +kernel))) rfl
set_option maxRecDepth 100000 in
theorem qw1_23 : Cond.methodLink RL 9 yX10_init ∈ LW := lwm (tb1 (List.mem_of_getElem? (i := 23) (by decide +kernel))) rfl
set_option maxRecDepth 100000 in
theorem qw1_24 : Cond.instanceMethod yX10_init ∈ LW := lwm (tb1 (List.mem_of_getElem? (i := 24) (by decide +kernel))) rfl
set_option maxRecDepth 100000 in
theorem qw1_25 : Cond.code yX10_init cX10_init 2 none ∈ LW := lwm (tb1 (List.mem_of_getElem? (i := 25) (by decide +kernel))) rfl
set_option maxRecDepth 100000 in
theorem qw5_11 : Cond.methodLink RL 12 yX11_init ∈ LW := lwm (tb5 (List.mem_of_getElem? (i := 11) (by decide +kernel))) rfl
set_option maxRecDepth 100000 in
theorem qw5_12 : Cond.instanceMethod yX11_init ∈ LW := lwm (tb5 (List.mem_of_getElem? (i := 12) (by decide +kernel))) rfl
set_option maxRecDepth 100000 in
theorem qw5_13 : Cond.code yX11_init cX11_init 1 none ∈ LW := lwm (tb5 (List.mem_of_getElem? (i := 13) (by decide +kernel))) rfl
set_option maxRecDepth 100000 in
theorem qw5_9 : Cond.classLink RL 10 RX11 ∈ LW := lwm (tb5 (List.mem_of_getElem? (i := 9) (by decide +kernel))) rfl
theorem EC_b : ∀ (a : Array Value) (U : State) (g : JFrame) (mk : MethodId), EC U → EC (U.calling g mk a) := fun a U g mk h => ⟨va_AO.moved (u := U) (U := U.calling g mk a) (Vm.Alike.refl U.vm) h.1, fun ci hci => va_Nw.same rfl rfl (h.2 ci hci)⟩
theorem EC_w {s : State} (h : EC s) {A : Nat → Prop} : ∀ (H : Heap) (locs : List Loc) (U : State), va_S A s.heap H locs → U.heap = H → s.WarmedH U.vm → EC U := fun _ _ _ _ _ hW => ⟨va_AO.moved hW.alike h.1, fun ci hci => va_Nw.warmC hW (h.2 ci hci)⟩
set_option maxRecDepth 100000 in
set_option maxHeartbeats 4000000 in
theorem whole_start {p : Program} {e : Env} {s : State} {m : MethodId} {below : List Frame} {meth : Method} {c : Code} (l : Launch) (hflags : l.flags = flags0) {b L : Nat} {xs : Nat → Int32} (hL : L ≤ 2560) (C0 : lw_At p s m meth c b L xs) : W p l e room_1 s m #[Value.ref b] below meth c s.heap [] 0 0 (lw_Z below #[Value.ref b] s) (entryFrame m ([Value.ref b] : List Value).toArray 4) := by
  obtain ⟨hx, hb, hr, hml, hown, hts, hX, hbl, hlk, hgv⟩ := C0
  obtain ⟨hEC, hEN⟩ := law_C hts
  obtain ⟨adK, adV, zf, hSE, hSR⟩ := law_S hts hgv
  have hLW : ∀ w ∈ LW, w.before #[Value.ref b] s = true := fun w h => hts w (lw_sub h)
  obtain ⟨D, cI, cZ, cO, hK⟩ := law_K hLW hEC.1
  have F : smF p s m #[Value.ref b] meth c cL_law 4 ret RL D (tyL cI cZ cO) (fun q => s.heap.size ≤ q) := ⟨⟨hx, hb, hml, hown, hLW⟩, hK, fun q h => h, hr, hlk⟩
  have hE : LE s b L xs (fun q => s.heap.size ≤ q) adK adV zf := ⟨⟨hX, hbl, Nat.not_le.mpr hbl⟩, ⟨hSE, hSR⟩, hEN, hL⟩
  have key : Sm p l e room_1 s m #[Value.ref b] below meth c D (fun q => s.heap.size ≤ q) 4 0 0 (lw_Z below #[Value.ref b] s) 0 [(0, .ref b)] [] [] := by
    refine sm_new F inX10 tyX10 tyX10_ok qw1_21 qw1_22 qw1_1 (ci := 10) rfl dfX10 (Nat.le_of_ble_eq_true rfl) (Nat.le_of_ble_eq_true rfl) dL_law_0 (fun q1 => ?_)
    refine sm_dup F dL_law_3 rfl ?_
    refine sm_callI (rest := [.ref q1]) (wr := []) F (ct_X10_init l D cI cZ cO (b := q1)) [0] [] rfl rfl rfl rfl (by decide) rfl rfl rfl qw1_23 qw1_24 qw1_1 qw1_25 rfl hiX10_init ⟨Nat.le_of_ble_eq_true rfl, Nat.le_of_ble_eq_true rfl⟩ ⟨Nat.le_of_ble_eq_true rfl, Nat.le_of_ble_eq_true rfl⟩ rfl (Nat.le_of_ble_eq_true rfl) EC_b (EC_w hEC) rfl dL_law_4 (fun w1 hw1 => ?_)
    obtain ⟨a, ha, rfl⟩ := hw1
    refine sm_astore_n F [(0, .ref b), (1, .ref (a 0))] [1, 0] dL_law_7 rfl (by decide) (by rw [ha]; rfl) ?_
    refine sm_new F inX11 tyX11 tyX11_ok qw5_9 qw5_10 qw1_12 (ci := 11) rfl dfX11 (Nat.le_of_ble_eq_true rfl) (Nat.le_of_ble_eq_true rfl) dL_law_8 (fun q2 => ?_)
    refine sm_dup F dL_law_11 rfl ?_
    refine sm_callI (rest := [.ref q2]) (wr := wX cI cZ cO a x0) F (ct_X11_init l D cI cZ cO (b := q2)) [47] [0, 1, 2, 3, 4, 5, 6, 7, 8, 9, 10, 11, 12, 13, 14, 15, 16, 17, 18, 19, 20, 21, 22, 23, 24, 25, 26, 27, 28, 29, 30, 31, 32, 33, 34, 35, 36, 37, 38, 39, 40, 41, 42, 43, 44, 45, 46] rfl rfl rfl rfl (by decide) rfl rfl rfl qw5_11 qw5_12 qw1_12 qw5_13 rfl hiX11_init ⟨Nat.le_of_ble_eq_true rfl, Nat.le_of_ble_eq_true rfl⟩ ⟨Nat.le_of_ble_eq_true rfl, Nat.le_of_ble_eq_true rfl⟩ rfl (Nat.le_of_ble_eq_true rfl) E0_b (fun _ _ _ _ _ _ => trivial) rfl dL_law_12 (fun w2 hw2 => ?_)
    obtain ⟨a', ha', rfl⟩ := hw2
    refine sm_astore_n F [(0, .ref b), (1, .ref (a 0)), (2, .ref (a' 0))] [1, 2, 0] dL_law_15 rfl (by decide) (by rw [ha']; rfl) ?_
    refine sm_iconst F dL_law_16 kc_i_0 ?_
    refine sm_istore_n F [(0, .ref b), (1, .ref (a 0)), (2, .ref (a' 0)), (3, .int (nI 0))] [1, 2, 3, 0] dL_law_17 rfl (by decide) rfl ?_
    exact lw_loop F hE (fun q h => h) 2600 0 0 0 x0 d0 (by omega) (by omega) XR_0
  have hl := lv_entry [Value.ref b] (n := 4) (Nat.le_of_ble_eq_true rfl)
  rw [lg_entry_eq]
  exact key _ s.heap [] hl (fun k q h => by simp at h) ⟨fun i j p q hp => by simp at hp, fun k q h => by simp at h⟩ va_S.rf
