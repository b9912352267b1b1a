/-! constructors: contracts that make cells -/
def CtN (l : Launch) (y : MethodName) (wsy : List Cond) (rm : Room) (D : va_G) (tys : List (ClassId × FieldType)) (E : State → Prop) (av : List Value) (w : va_W) (mc ms : Nat) (P : va_W → Prop) : Prop :=
  ∀ sz : Nat, Met l y wsy rm (va_Pc av (fun U => U.heap.size = sz ∧ va_P D vwCl w U.heap ∧ va_K D vwCl tys U ∧ va_D (fun _ => True) w ∧ E U)) (fun _ st oc t => (oc = .returned none ∧ ∃ w', P w' ∧ va_P D vwCl w' t.heap ∧ va_D (va_A w sz) w') ∧ va_F (va_A w sz) st t) mc ms (va_A w sz)
def smQN (below : List Frame) (args : Array Value) (s : State) (D : va_G) (A : Nat → Prop) (mc ms : Nat) (P : va_W → Prop) : State → Prop :=
  MQ below (fun _ st oc t => (oc = .returned none ∧ ∃ w', P w' ∧ va_P D vwCl w' t.heap ∧ va_D A w') ∧ va_F A st t) args s mc ms A
theorem sm_startN {l : Launch} {y : MethodName} {wsy : List Cond} {rm : Room} {D : va_G} {tys : List (ClassId × FieldType)} {E : State → Prop} {av : List Value} {w : va_W} {mc ms : Nat} {P : va_W → Prop} {cc : ByteArray} {maxL : Nat} {own : String} (hy : plainName y.cls = true) (hw : wsy = uw (Cond.code y cc maxL none)) (ho : y.cls = own) (hav : (lg_sl av).length ≤ maxL) {lv : List (Nat × Value)} (hlv : lv_args 0 av = lv)
    (body : ∀ (p : Program) (e : Env) (s : State) (m : MethodId) (below : List Frame) (meth : Method) (c : Code) (A : Nat → Prop), smF p s m av.toArray meth c cc maxL none own D tys A → E s → (∀ q : Nat, A q ↔ va_A w s.heap.size q) → meth.name = y.name → Sm p l e rm s m av.toArray below meth c D A maxL 0 0 (smQN below av.toArray s D A mc ms P) 0 lv [] w) : CtN l y wsy rm D tys E av w mc ms P := by
  intro sz
  refine Met.ofW (cc := cc) (maxL := maxL) (ret := none) hy hw ?_
  intro p e s m args below meth c s₁ B hml hv
  obtain ⟨rfl, hsz, hP, hK, hD0, hE⟩ := hv
  have hown : s.vm.findClass own = some m.cls := ho ▸ findClass_of_methodNamed B.named
  subst hsz
  have hD := hD0.self (sz := s.heap.size)
  have hl := lv_entry av (n := maxL) hav
  rw [lg_entry_eq]
  have hF : smF p s m av.toArray meth c cc maxL none own D tys (va_A w s.heap.size) := ⟨⟨B.exec, B.bytes, hml, hown, fun w hw9 => atoms_spec (ws := wsy) B.pre w (by rw [hw]; exact List.mem_cons_of_mem _ hw9)⟩, hK, fun q h => Or.inr h, B.returns, B.notSynchronized⟩
  exact body p e s m below meth c (va_A w s.heap.size) hF hE (fun _ => Iff.rfl) (name_of_methodNamed B.named B.method).1 _ s.heap [] (by rw [← hlv]; exact hl) hP hD va_S.rf
section SMN
variable {p : Program} {l : Launch} {e : Env} {R : Room} {s : State} {m : MethodId} {args : Array Value} {below : List Frame} {meth : Method} {c : Code} {D : va_G} {A : Nat → Prop} {nL cells slots : Nat} {Q : State → Prop} {cc : ByteArray} {ret : Option FieldType} {own : String} {tys : List (ClassId × FieldType)} {pc : Nat} {lv : List (Nat × Value)} {st : List Value} {ws : va_W}
theorem sm_vretN (F : smF p s m args meth c cc nL none own D tys A) {P : va_W → Prop} (hdg : decode cc pc = .ok (.return_, 1)) (hw : P ws) : Sm p l e R s m args below meth c D A nL cells slots (smQN below args s D A cells slots P) pc lv [] ws := by
  intro ls H locs h1 h2 h3 h4
  exact W.vret F.1.1 F.1.2.1 F.2.2.2.1 (fun t ht hW => ⟨⟨rfl, ws, hw, by rw [ht]; exact h2, h3⟩, h4.F ht⟩) h4.2.2 hdg F.2.2.2.2
theorem sm_newi {cI cZ cO : ClassId} (F : smF p s m args meth c cc nL ret own D (tyL cI cZ cO) A) (harr : Cond.arrayClass .int ∈ LW) {n : Int32} {N : Nat} (hn : ¬ n < 0) (hN : n.toNatClampNeg = N) (hbytes : N * 4 ≤ 536870912) (hcells : cells + 1 ≤ R.cells) (hslots : slots + N ≤ R.slots) (hdg : decode cc pc = .ok (.newarray .int, 2)) (kk : ∀ q : Nat, Sm p l e R s m args below meth c D A nL (cells + 1) (slots + N) Q (pc + 2) lv (.ref q :: st) (ws ++ [(q, .inl (cI, N, .inl (fun _ => 0)))])) : Sm p l e R s m args below meth c D A nL cells slots Q pc lv (.int n :: st) ws := by
  intro ls H locs h1 h2 h3 h4
  refine va_newa F.1.1 F.1.2.1 (atype := .int) (F.1.2.2.2.2 _ harr) (ty := .int) rfl F.2.1 h2 h3 h4 F.2.2.1 (a0 := (N, .inl (fun _ => 0))) (fun _ => rfl) hn hN hbytes hcells hslots hdg ?_
  intro q cA H1 k1 k2 k3 k4
  have e1 := va_nm_int (k1.2 3 (cA, .int) rfl).2
  have e2 := va_nm_int (F.2.1.2 0 (cI, .int) rfl).2
  obtain rfl := Option.some.inj (e1.symm.trans e2)
  exact kk q ls H1 locs h1 k2 k3 k4
theorem sm_newz {cI cZ cO : ClassId} (F : smF p s m args meth c cc nL ret own D (tyL cI cZ cO) A) (harr : Cond.arrayClass .boolean ∈ LW) {n : Int32} {N : Nat} (hn : ¬ n < 0) (hN : n.toNatClampNeg = N) (hbytes : N * 1 ≤ 536870912) (hcells : cells + 1 ≤ R.cells) (hslots : slots + N ≤ R.slots) (hdg : decode cc pc = .ok (.newarray .boolean, 2)) (kk : ∀ q : Nat, Sm p l e R s m args below meth c D A nL (cells + 1) (slots + N) Q (pc + 2) lv (.ref q :: st) (ws ++ [(q, .inl (cZ, N, .inl (fun _ => 0)))])) : Sm p l e R s m args below meth c D A nL cells slots Q pc lv (.int n :: st) ws := by
  intro ls H locs h1 h2 h3 h4
  refine va_newa F.1.1 F.1.2.1 (atype := .boolean) (F.1.2.2.2.2 _ harr) (ty := .boolean) rfl F.2.1 h2 h3 h4 F.2.2.1 (a0 := (N, .inl (fun _ => 0))) (fun _ => rfl) hn hN hbytes hcells hslots hdg ?_
  intro q cA H1 k1 k2 k3 k4
  have e1 := va_nm_boolean (k1.2 3 (cA, .boolean) rfl).2
  have e2 := va_nm_boolean (F.2.1.2 1 (cZ, .boolean) rfl).2
  obtain rfl := Option.some.inj (e1.symm.trans e2)
  exact kk q ls H1 locs h1 k2 k3 k4
theorem sm_newo {cI cZ cO : ClassId} (F : smF p s m args meth c cc nL ret own D (tyL cI cZ cO) A) {index : Nat} (hclink : Cond.classLink own index RX4 ∈ LW) (hover : va_AO RX4 s) {n : Int32} {N : Nat} (hn : ¬ n < 0) (hN : n.toNatClampNeg = N) (hbytes : N * 4 ≤ 536870912) (hcells : cells + 1 ≤ R.cells) (hslots : slots + N ≤ R.slots) (hdg : decode cc pc = .ok (.anewarray index, 3)) (kk : ∀ q : Nat, Sm p l e R s m args below meth c D A nL (cells + 1) (slots + N) Q (pc + 3) lv (.ref q :: st) (ws ++ [(q, .inl (cO, N, .inr (.inr (.inr (.inr (fun _ => none))))))])) : Sm p l e R s m args below meth c D A nL cells slots Q pc lv (.int n :: st) ws := by
  intro ls H locs h1 h2 h3 h4
  refine va_newq F.1.1 F.1.2.1 F.1.2.2.2.1 (F.1.2.2.2.2 _ hclink) hover F.2.1 h2 h3 h4 F.2.2.1 hn hN hbytes hcells hslots hdg ?_
  intro q cA H1 k1 k2 k3 k4
  have e1 := va_nmO (nm := "[L" ++ RX4 ++ ";") (k1.2 3 (cA, .object RX4) rfl).2 (by decide)
  have e2 := va_nmO (nm := "[L" ++ RX4 ++ ";") (F.2.1.2 2 (cO, .object RX4) rfl).2 (by decide)
  obtain rfl := Option.some.inj (e1.symm.trans e2)
  exact kk q ls H1 locs h1 k2 k3 k4
theorem sm_new (F : smF p s m args meth c cc nL ret own D tys A) {C : String} {T : u_T} {N ci index : Nat} (hin : ∀ w ∈ u_ws C T N, w ∈ LW) (ty : Nat → FieldType) (hty : ∀ k, k < N → parseFieldDescriptor (T k).2.2.1 = some (ty k)) (hcl : Cond.classLink own index C ∈ LW) (hinst : Cond.instantiable C N ∈ LW) (hini : Cond.initialized C ∈ LW) (hc : vwCl[ci]? = some (C, T, N)) {fs : List Value} (hfs : ∀ j, j < N → defaultValue (ty j) = vp_V fs j) (hcells : cells + 1 ≤ R.cells) (hslots : slots + N ≤ R.slots) (hdg : decode cc pc = .ok (.new index, 3)) (kk : ∀ q : Nat, Sm p l e R s m args below meth c D A nL (cells + 1) (slots + N) Q (pc + 3) lv (.ref q :: st) (ws ++ [(q, .inr (ci, fs))])) : Sm p l e R s m args below meth c D A nL cells slots Q pc lv st ws := by
  intro ls H locs h1 h2 h3 h4
  exact va_new F.1.1 F.1.2.1 F.1.2.2.2.2 hin ty hty F.1.2.2.2.1 (F.1.2.2.2.2 _ hcl) (F.1.2.2.2.2 _ hinst) (F.1.2.2.2.2 _ hini) F.2.1 h2 h3 h4 F.2.2.1 hc hfs hcells hslots hdg (fun q H1 k2 k3 k4 => kk q ls H1 locs h1 k2 k3 k4)
theorem sm_objInit (F : smF p s m args meth c cc nL ret own D tys A) {idx a : Nat} (g1 : Cond.methodLink own idx Lib.objectInit ∈ LW) (g2 : Cond.instanceMethod Lib.objectInit ∈ LW) (g3 : Cond.code Lib.objectInit ⟨#[0xb1]⟩ 1 none ∈ LW) (hf : 1 ≤ R.frames) (hl : (st.map fun v => v.category).sum + 12 ≤ R.locals) (hdg : decode cc pc = .ok (.invokespecial idx, 3)) (kk : Sm p l e R s m args below meth c D A nL cells slots Q (pc + 3) lv st ws) : Sm p l e R s m args below meth c D A nL cells slots Q pc lv (.ref a :: st) ws := by
  intro ls H locs h1 h2 h3 h4
  exact W.objInit F.1.1 F.1.2.1 F.1.2.2.2.1 (F.1.2.2.2.2 _ g1) (F.1.2.2.2.2 _ g2) (F.1.2.2.2.2 _ g3) rfl (h1.1.trans F.1.2.2.1.symm) rfl hdg hf (by show 2 * 0 + _ + 12 ≤ _; omega) (kk ls H locs h1 h2 h3 h4)
theorem sm_putF (F : smF p s m args meth c cc nL ret own D tys A) {C : String} {T : u_T} {N ci index : Nat} {a : Nat} (hin : ∀ w ∈ u_ws C T N, w ∈ LW) (ty0 : Nat → FieldType) (hty : ∀ k, k < N → parseFieldDescriptor (T k).2.2.1 = some (ty0 k)) (hnm : ∀ a, a < N → ∀ b, b < N → a ≠ b → (T a).2.1 ≠ (T b).2.1) (q0 : Nat) {fs : List Value} (he : ws[q0]? = some (a, .inr (ci, fs))) (hc : vwCl[ci]? = some (C, T, N)) (k : Nat) (hk : k < N) (hlink : Cond.fieldLink own index own (T k).2.1 (T k).2.2.1 ∈ LW) (hfin : (T k).2.2.2 = true) (hin2 : meth.name = "<init>") (hdecl : (T k).1 = own) {v : Value} (hn : narrow (ty0 k) v = v) (hfit : fits (ty0 k) v = true) (hl : k < fs.length) (ws' : va_W) (hws : ws.set q0 (a, .inr (ci, fs.set k v)) = ws') (hdg : decode cc pc = .ok (.putfield index, 3)) (kk : Sm p l e R s m args below meth c D A nL cells slots Q (pc + 3) lv (st) ws') : Sm p l e R s m args below meth c D A nL cells slots Q (pc) lv (v :: .ref a :: st) ws := fun ls H locs h1 h2 h3 h4 => va_putF F.1.1 F.1.2.1 F.1.2.2.2.2 hin ty0 hty hnm F.1.2.2.2.1 F.2.1 h2 h3 h4 q0 he hc k hk (F.1.2.2.2.2 _ hlink) (fun x hx => by rw [hdecl] at hx; exact hx) hfin hin2 hdecl (hty k hk) hn hfit hl hdg (fun H1 locs1 g2 g3 g4 => kk ls H1 locs1 h1 (hws ▸ g2) (hws ▸ g3) g4)
theorem sm_aast (F : smF p s m args meth c cc nL ret own D tys A) (q0 t0 qk ci : Nat) {Eo : String} {cA : ClassId} {r : vw_C} {n v a : Nat} {vs : List Value} {f : Nat → Option Nat} (ha : ws[q0]? = some (a, .inl (cA, n, .inr (.inr (.inr (.inr f)))))) (ht : tys[t0]? = some (cA, .object Eo)) (hca : va_Nw (.castable r.1 Eo) s) (hv : ws[qk]? = some (v, .inr (ci, vs))) (hc : vwCl[ci]? = some r) {i : Int32} (hin : vp_in i n) (hdg : decode cc pc = .ok (.aastore, 1)) (ws' : va_W) (hws : ws.set q0 (a, .inl (cA, n, .inr (.inr (.inr (.inr (va_up f i.toNatClampNeg (some v))))))) = ws') (kk : Sm p l e R s m args below meth c D A nL cells slots Q (pc + 1) lv st ws') : Sm p l e R s m args below meth c D A nL cells slots Q pc lv (.ref v :: .int i :: .ref a :: st) ws := fun ls H locs h1 h2 h3 h4 => va_astqO F.1.1 F.1.2.1 F.2.1 h2 h3 h4 q0 t0 qk ci ha ht hca hv hc hin hdg (fun H1 locs1 g2 g3 g4 => kk ls H1 locs1 h1 (hws ▸ g2) (hws ▸ g3) g4)
theorem sm_aast4 (F : smF p s m args meth c cc nL ret own D tys A) (q0 t0 qk ci : Nat) {cA : ClassId} {r : vw_C} {n v a : Nat} {vs : List Value} {f : Nat → Option Nat} (ha : ws[q0]? = some (a, .inl (cA, n, .inr (.inr (.inr (.inr f)))))) (ht : tys[t0]? = some (cA, .object r.1)) (hv : ws[qk]? = some (v, .inr (ci, vs))) (hc : vwCl[ci]? = some r) {i : Int32} (hin : vp_in i n) (hdg : decode cc pc = .ok (.aastore, 1)) (ws' : va_W) (hws : ws.set q0 (a, .inl (cA, n, .inr (.inr (.inr (.inr (va_up f i.toNatClampNeg (some v))))))) = ws') (kk : Sm p l e R s m args below meth c D A nL cells slots Q (pc + 1) lv st ws') : Sm p l e R s m args below meth c D A nL cells slots Q pc lv (.ref v :: .int i :: .ref a :: st) ws := fun ls H locs h1 h2 h3 h4 => va_astq F.1.1 F.1.2.1 F.2.1 h2 h3 h4 q0 t0 qk ci ha ht hv hc hin hdg (fun H1 locs1 g2 g3 g4 => kk ls H1 locs1 h1 (hws ▸ g2) (hws ▸ g3) g4)
/-- the call of a constructor on a cell -/
theorem sm_callI (F : smF p s m args meth c cc nL ret own D tys A) {b : Nat} {y : MethodName} {bytes : ByteArray} {maxL n index : Nat} {wsy : List Cond} {rm : Room} {E : State → Prop} {As rest : List Value} {wc wr : va_W} {mc ms : Nat} {P : va_W → Prop} (hM : CtN l y wsy rm D tys E (.ref b :: As) wc mc ms P) (isC isR : List Nat) (hC : isC.map (fun i => ws[i]?) = wc.map some) (hnC : va_nd isC = true) (hR' : isR.map (fun i => ws[i]?) = wr.map some) (hnR : va_nd isR = true) (hdis : ∀ i ∈ isR, i ∉ isC) (hw : wsy = uw (Cond.code y bytes maxL none)) (hrc : rm.cells = mc) (hrs : rm.slots = ms) (g1 : Cond.methodLink own index y ∈ LW) (g2 : Cond.instanceMethod y ∈ LW) (g4 : Cond.initialized y.cls ∈ LW) (g5 : Cond.code y bytes maxL none ∈ LW) (hyn : y.name = "<init>") (hd : y.cls ≠ "java/lang/invoke/MethodHandle" ∧ y.cls ≠ "java/lang/invoke/VarHandle" ∧ (parseMethodDescriptor y.desc).map (fun d => d.parameters.length) = some n) (hR : rm.frames + 1 ≤ R.frames ∧ 8 + (maxL + 11) + rm.locals ≤ R.locals) (hcs : cells + mc ≤ R.cells ∧ slots + ms ≤ R.slots) (hn : As.length = n) (hW : (rest.map fun v => v.category).sum ≤ 8) (hEb : ∀ (a : Array Value) (U : State) (g : JFrame) (mk : MethodId), E U → E (U.calling g mk a)) (hE : ∀ (H : Heap) (locs : List Loc) (U : State), va_S A s.heap H locs → U.heap = H → s.WarmedH U.vm → E U) (hst : As.reverse ++ .ref b :: rest = st) (hdg : decode cc pc = .ok (.invokespecial index, 3)) (kk : ∀ w1, P w1 → Sm p l e R s m args below meth c D A nL (cells + mc) (slots + ms) Q (pc + 3) lv rest (wr ++ w1)) : Sm p l e R s m args below meth c D A nL cells slots Q pc lv st ws := by
  intro ls H locs hl hP hD hS T hT X
  have hPc : va_P D vwCl wc H := sm_Psub hP hC
  have hDc : va_D A wc := hD.sub isC hnC hC
  have hFc := va_free hD hS F.2.2.1 isC hC
  have hB := cwI (R := R) n F.1.2.2.2.2 (hw ▸ goodA [] (by simp) g5) hw hrc hrs (F.1.2.2.2.2 _ g4) (F.1.2.2.2.2 _ g1) (F.1.2.2.2.2 _ g2) hyn hd hR
  obtain ⟨v', st₀, t, T', L, h0, X', hL, e1, e2, ⟨⟨hv, w1, hw1, hP1, hD1⟩, hz, hk⟩, st2⟩ := va_runI F.1 (hM H.size) hB ⟨sm_blind hEb, fun U hU hW => ⟨rfl, by rw [hU], by rw [hU]; exact hPc, va_K.moved hW.alike F.2.1, (hDc.weaken (fun _ _ _ _ => trivial)), hE _ _ U hS hU hW⟩⟩ rfl hn hl.1 hst.symm (lv_room hW) hdg hcs T hT X
  cases hv
  rw [h0] at hz hk
  obtain ⟨hPj, hDj⟩ := va_join hP hD isC isR hC hR' hnR hdis hk hFc hP1 hD1
  have hS2 : va_S A s.heap t.heap (locs ++ L) := ⟨Nat.le_trans hS.1 hz, fun q h1 h2 => by
      rw [hk q (Nat.lt_of_lt_of_le h1 hS.1) (fun z => h2 (hFc q z))]; exact hS.2.1 q h1 h2, fun q hq => by
      rcases List.mem_append.mp hq with h | h
      · exact hS.2.2 q h
      · exact hFc _ (hL q h)⟩
  obtain ⟨t2, a1, b1⟩ := kk w1 hw1 ls t.heap (locs ++ L) hl hPj hDj hS2 T' e1 X'
  exact ⟨t2, st2 t2 a1, b1⟩
theorem sm_wperm {ws' : va_W} (isB : List Nat) (hB : isB.map (fun i => ws[i]?) = ws'.map some) (hnB : va_nd isB = true) (kk : Sm p l e R s m args below meth c D A nL cells slots Q pc lv st ws') : Sm p l e R s m args below meth c D A nL cells slots Q pc lv st ws := fun ls H locs h1 h2 h3 h4 => kk ls H locs h1 (sm_Psub h2 hB) (h3.sub isB hnB hB) h4
end SMN
