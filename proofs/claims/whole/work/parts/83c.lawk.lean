set_option maxRecDepth 100000 in
theorem qw1_22 : Cond.instantiable RX10 8 ∈ LW := lwm (tb1 (List.mem_of_getElem? (i := 22) (by decide +kernel))) rfl
set_option maxRecDepth 100000 in
theorem qw5_10 : Cond.instantiable RX11 13 ∈ LW := lwm (tb5 (List.mem_of_getElem? (i := 10) (by decide +kernel))) rfl
/-! what the law's start gives: the classes, the array classes, the constants -/
theorem arr_of {s : State} {args : Array Value} {ty : FieldType} (h : (Cond.arrayClass ty).before args s = true) : ∃ c, ArrOfT s c ty ∧ s.vm.findClass ("[" ++ ty.toString) = some c := by
  obtain ⟨c, k, comp, h1, h2, h3⟩ := Cond.arrayClass_spec (args := args) (first := s) (o := none) (s := s) (idx := []) h
  exact ⟨c, fun n z => ⟨fun k h => (by cases h), k, h2, comp, h3⟩, h1⟩
theorem law_K {s : State} {args : Array Value} (hts : ∀ w ∈ LW, w.before args s = true) (hover : va_AO RX4 s) : ∃ (D : va_G) (cI cZ cO : ClassId), va_K D vwCl (tyL cI cZ cO) s := by
  obtain ⟨cI, i1, i2⟩ := arr_of (hts _ wAI)
  obtain ⟨cZ, z1, z2⟩ := arr_of (hts _ wAZ)
  obtain ⟨comp, cO, kO, o1, o2, o3, o4, o5⟩ := Cond.arrayOver_spec (args := args) (first := s) (o := none) (s := s) (idx := []) (va_AO.use (A := args) hover)
  obtain ⟨c0, i0', h0⟩ := u_known (C := RX0) (T := TX0) (N := 0) hts inX0 (hts _ qw1_38)
  obtain ⟨c1, i1', h1⟩ := u_known (C := RX1) (T := TX1) (N := 0) hts inX1 (hts _ qw1_59)
  obtain ⟨c2, i2', h2⟩ := u_known (C := RX2) (T := TX2) (N := 0) hts inX2 (hts _ qw1_45)
  obtain ⟨c3, i3', h3⟩ := u_known (C := RX3) (T := TX3) (N := 7) hts inX3 (hts _ qw1_126)
  obtain ⟨c4, i4', h4⟩ := u_known (C := RX4) (T := TX4) (N := 0) hts inX4 (hts _ qw1_31)
  obtain ⟨c5, i5', h5⟩ := u_known (C := RX5) (T := TX5) (N := 0) hts inX5 (hts _ qw1_52)
  obtain ⟨c6, i6', h6⟩ := u_known (C := RX6) (T := TX6) (N := 2) hts inX6 (hts _ qw1_170)
  obtain ⟨c7, i7', h7⟩ := u_known (C := RX7) (T := TX7) (N := 2) hts inX7 (hts _ qw1_156)
  obtain ⟨c8, i8', h8⟩ := u_known (C := RX8) (T := TX8) (N := 9) hts inX8 (hts _ qw1_73)
  obtain ⟨c9, i9', h9⟩ := u_known (C := RX9) (T := TX9) (N := 0) hts inX9 (hts _ qw1_66)
  obtain ⟨c10, i10', h10⟩ := u_known (C := RX10) (T := TX10) (N := 8) hts inX10 (hts _ qw1_22)
  obtain ⟨c11, i11', h11⟩ := u_known (C := RX11) (T := TX11) (N := 13) hts inX11 (hts _ qw5_10)
  refine ⟨(fun c => [c0, c1, c2, c3, c4, c5, c6, c7, c8, c9, c10, c11].getD c 0, fun c => [i0', i1', i2', i3', i4', i5', i6', i7', i8', i9', i10', i11'].getD c (fun _ => 0)), cI, cZ, cO, ?_, ?_⟩
  · intro c q hq
    match c, hq with
    | 0, hq => cases hq; exact h0
    | 1, hq => cases hq; exact h1
    | 2, hq => cases hq; exact h2
    | 3, hq => cases hq; exact h3
    | 4, hq => cases hq; exact h4
    | 5, hq => cases hq; exact h5
    | 6, hq => cases hq; exact h6
    | 7, hq => cases hq; exact h7
    | 8, hq => cases hq; exact h8
    | 9, hq => cases hq; exact h9
    | 10, hq => cases hq; exact h10
    | 11, hq => cases hq; exact h11
    | k + 12, hq => cases hq
  · intro k q hq
    match k, hq with
    | 0, hq => cases hq; exact ⟨i1, i2⟩
    | 1, hq => cases hq; exact ⟨z1, z2⟩
    | 2, hq => cases hq; exact ⟨fun n z => ⟨fun k h => (by cases h), kO, o3, comp, o4⟩, kO, comp, o3, o4, o1, o5⟩
    | k + 3, hq => cases hq
