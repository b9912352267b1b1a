def tyL (cI cZ cO : ClassId) : List (ClassId × FieldType) := [(cI, .int), (cZ, .boolean), (cO, .object RX4)]
def kd6 (b0 b1 b2 b3 b4 b5 j : Nat) : Nat := [b0, b1, b2, b3, b4, b5].getD j 0
def wV (cI cZ cO : ClassId) (a : Nat → Nat) (u : VS) : va_W := [(a 0, .inr (8, [.ref (a 6), .ref (a 1), .ref (a 2), .ref (a 3), .ref (a 4), .ref (a 5), .int (gV_people u), .int (gV_names u), .int (gV_week u)])), (a 1, .inl (cI, 8, .inl (gV_kind u))), (a 2, .inl (cI, 8, .inl (gV_fig u))), (a 3, .inl (cI, 8, .inl (gV_owed u))), (a 4, .inl (cZ, 8, .inl (gV_here u))), (a 5, .inl (cI, 64, .inl (gV_mem u))), (a 6, .inl (cO, 6, .inr (.inr (.inr (.inr (fun j => some (kd6 (a 7) (a 8) (a 9) (a 10) (a 11) (a 12) j))))))), (a 7, .inr (4, [])), (a 8, .inr (0, [])), (a 9, .inr (2, [])), (a 10, .inr (5, [])), (a 11, .inr (1, [])), (a 12, .inr (9, []))]
def wVV (cI cZ cO : ClassId) (a : Nat → Nat) (u : VS × VS) : va_W := [(a 0, .inr (8, [.ref (a 12), .ref (a 1), .ref (a 2), .ref (a 3), .ref (a 4), .ref (a 5), .int (gV_people u.1), .int (gV_names u.1), .int (gV_week u.1)])), (a 1, .inl (cI, 8, .inl (gV_kind u.1))), (a 2, .inl (cI, 8, .inl (gV_fig u.1))), (a 3, .inl (cI, 8, .inl (gV_owed u.1))), (a 4, .inl (cZ, 8, .inl (gV_here u.1))), (a 5, .inl (cI, 64, .inl (gV_mem u.1))), (a 6, .inr (8, [.ref (a 12), .ref (a 7), .ref (a 8), .ref (a 9), .ref (a 10), .ref (a 11), .int (gV_people u.2), .int (gV_names u.2), .int (gV_week u.2)])), (a 7, .inl (cI, 8, .inl (gV_kind u.2))), (a 8, .inl (cI, 8, .inl (gV_fig u.2))), (a 9, .inl (cI, 8, .inl (gV_owed u.2))), (a 10, .inl (cZ, 8, .inl (gV_here u.2))), (a 11, .inl (cI, 64, .inl (gV_mem u.2)))]
def wT (cI cZ cO : ClassId) (a : Nat → Nat) (u : TS) : va_W := [(a 0, .inr (7, [.ref (a 1), .int (gT_size u)])), (a 1, .inl (cI, 96, .inl (gT_let u)))]
def wR (cI cZ cO : ClassId) (a : Nat → Nat) (u : RS) : va_W := [(a 0, .inr (6, [.ref (a 1), .int (gR_size u)])), (a 1, .inl (cI, 16, .inl (gR_num u)))]
def wTV (cI cZ cO : ClassId) (a : Nat → Nat) (u : TS × VS) : va_W := [(a 0, .inr (7, [.ref (a 1), .int (gT_size u.1)])), (a 1, .inl (cI, 96, .inl (gT_let u.1))), (a 2, .inr (8, [.ref (a 8), .ref (a 3), .ref (a 4), .ref (a 5), .ref (a 6), .ref (a 7), .int (gV_people u.2), .int (gV_names u.2), .int (gV_week u.2)])), (a 3, .inl (cI, 8, .inl (gV_kind u.2))), (a 4, .inl (cI, 8, .inl (gV_fig u.2))), (a 5, .inl (cI, 8, .inl (gV_owed u.2))), (a 6, .inl (cZ, 8, .inl (gV_here u.2))), (a 7, .inl (cI, 64, .inl (gV_mem u.2))), (a 8, .inl (cO, 6, .inr (.inr (.inr (.inr (fun j => some (kd6 (a 9) (a 10) (a 11) (a 12) (a 13) (a 14) j))))))), (a 9, .inr (4, [])), (a 10, .inr (0, [])), (a 11, .inr (2, [])), (a 12, .inr (5, [])), (a 13, .inr (1, [])), (a 14, .inr (9, []))]
def wM (cI cZ cO : ClassId) (a : Nat → Nat) (u : MS) : va_W := [(a 0, .inr (3, [.ref (a 6), .ref (a 12), .ref (a 18), .ref (a 1), .ref (a 2), .ref (a 3), .int (gM_z u)])), (a 1, .inl (cI, 8, .inl (gM_lg u))), (a 2, .inl (cI, 4, .inl (gM_fg u))), (a 3, .inl (cI, 4, .inl (gM_og u))), (a 4, .inr (6, [.ref (a 5), .int (gR_size (gM_row u))])), (a 5, .inl (cI, 16, .inl (gR_num (gM_row u)))), (a 6, .inr (8, [.ref (a 24), .ref (a 7), .ref (a 8), .ref (a 9), .ref (a 10), .ref (a 11), .int (gV_people (gM_now u)), .int (gV_names (gM_now u)), .int (gV_week (gM_now u))])), (a 7, .inl (cI, 8, .inl (gV_kind (gM_now u)))), (a 8, .inl (cI, 8, .inl (gV_fig (gM_now u)))), (a 9, .inl (cI, 8, .inl (gV_owed (gM_now u)))), (a 10, .inl (cZ, 8, .inl (gV_here (gM_now u)))), (a 11, .inl (cI, 64, .inl (gV_mem (gM_now u)))), (a 12, .inr (8, [.ref (a 24), .ref (a 13), .ref (a 14), .ref (a 15), .ref (a 16), .ref (a 17), .int (gV_people (gM_then u)), .int (gV_names (gM_then u)), .int (gV_week (gM_then u))])), (a 13, .inl (cI, 8, .inl (gV_kind (gM_then u)))), (a 14, .inl (cI, 8, .inl (gV_fig (gM_then u)))), (a 15, .inl (cI, 8, .inl (gV_owed (gM_then u)))), (a 16, .inl (cZ, 8, .inl (gV_here (gM_then u)))), (a 17, .inl (cI, 64, .inl (gV_mem (gM_then u)))), (a 18, .inr (8, [.ref (a 24), .ref (a 19), .ref (a 20), .ref (a 21), .ref (a 22), .ref (a 23), .int (gV_people (gM_oth u)), .int (gV_names (gM_oth u)), .int (gV_week (gM_oth u))])), (a 19, .inl (cI, 8, .inl (gV_kind (gM_oth u)))), (a 20, .inl (cI, 8, .inl (gV_fig (gM_oth u)))), (a 21, .inl (cI, 8, .inl (gV_owed (gM_oth u)))), (a 22, .inl (cZ, 8, .inl (gV_here (gM_oth u)))), (a 23, .inl (cI, 64, .inl (gV_mem (gM_oth u)))), (a 24, .inl (cO, 6, .inr (.inr (.inr (.inr (fun j => some (kd6 (a 25) (a 26) (a 27) (a 28) (a 29) (a 30) j))))))), (a 25, .inr (4, [])), (a 26, .inr (0, [])), (a 27, .inr (2, [])), (a 28, .inr (5, [])), (a 29, .inr (1, [])), (a 30, .inr (9, []))]
def wX (cI cZ cO : ClassId) (a : Nat → Nat) (u : XS) : va_W := [(a 0, .inr (10, [.ref (a 22), .ref (a 4), .ref (a 10), .ref (a 16), .ref (a 2), .ref (a 20), .ref (a 1), .int (gX_img u)])), (a 1, .inl (cI, 7, .inl (gX_ref u))), (a 2, .inr (7, [.ref (a 3), .int (gT_size (gX_tell u))])), (a 3, .inl (cI, 96, .inl (gT_let (gX_tell u)))), (a 4, .inr (8, [.ref (a 40), .ref (a 5), .ref (a 6), .ref (a 7), .ref (a 8), .ref (a 9), .int (gV_people (gX_kept u)), .int (gV_names (gX_kept u)), .int (gV_week (gX_kept u))])), (a 5, .inl (cI, 8, .inl (gV_kind (gX_kept u)))), (a 6, .inl (cI, 8, .inl (gV_fig (gX_kept u)))), (a 7, .inl (cI, 8, .inl (gV_owed (gX_kept u)))), (a 8, .inl (cZ, 8, .inl (gV_here (gX_kept u)))), (a 9, .inl (cI, 64, .inl (gV_mem (gX_kept u)))), (a 10, .inr (8, [.ref (a 40), .ref (a 11), .ref (a 12), .ref (a 13), .ref (a 14), .ref (a 15), .int (gV_people (gX_told u)), .int (gV_names (gX_told u)), .int (gV_week (gX_told u))])), (a 11, .inl (cI, 8, .inl (gV_kind (gX_told u)))), (a 12, .inl (cI, 8, .inl (gV_fig (gX_told u)))), (a 13, .inl (cI, 8, .inl (gV_owed (gX_told u)))), (a 14, .inl (cZ, 8, .inl (gV_here (gX_told u)))), (a 15, .inl (cI, 64, .inl (gV_mem (gX_told u)))), (a 16, .inr (3, [.ref (a 22), .ref (a 28), .ref (a 34), .ref (a 17), .ref (a 18), .ref (a 19), .int (gM_z (gX_mind u))])), (a 17, .inl (cI, 8, .inl (gM_lg (gX_mind u)))), (a 18, .inl (cI, 4, .inl (gM_fg (gX_mind u)))), (a 19, .inl (cI, 4, .inl (gM_og (gX_mind u)))), (a 20, .inr (6, [.ref (a 21), .int (gR_size (gM_row (gX_mind u)))])), (a 21, .inl (cI, 16, .inl (gR_num (gM_row (gX_mind u))))), (a 22, .inr (8, [.ref (a 40), .ref (a 23), .ref (a 24), .ref (a 25), .ref (a 26), .ref (a 27), .int (gV_people (gM_now (gX_mind u))), .int (gV_names (gM_now (gX_mind u))), .int (gV_week (gM_now (gX_mind u)))])), (a 23, .inl (cI, 8, .inl (gV_kind (gM_now (gX_mind u))))), (a 24, .inl (cI, 8, .inl (gV_fig (gM_now (gX_mind u))))), (a 25, .inl (cI, 8, .inl (gV_owed (gM_now (gX_mind u))))), (a 26, .inl (cZ, 8, .inl (gV_here (gM_now (gX_mind u))))), (a 27, .inl (cI, 64, .inl (gV_mem (gM_now (gX_mind u))))), (a 28, .inr (8, [.ref (a 40), .ref (a 29), .ref (a 30), .ref (a 31), .ref (a 32), .ref (a 33), .int (gV_people (gM_then (gX_mind u))), .int (gV_names (gM_then (gX_mind u))), .int (gV_week (gM_then (gX_mind u)))])), (a 29, .inl (cI, 8, .inl (gV_kind (gM_then (gX_mind u))))), (a 30, .inl (cI, 8, .inl (gV_fig (gM_then (gX_mind u))))), (a 31, .inl (cI, 8, .inl (gV_owed (gM_then (gX_mind u))))), (a 32, .inl (cZ, 8, .inl (gV_here (gM_then (gX_mind u))))), (a 33, .inl (cI, 64, .inl (gV_mem (gM_then (gX_mind u))))), (a 34, .inr (8, [.ref (a 40), .ref (a 35), .ref (a 36), .ref (a 37), .ref (a 38), .ref (a 39), .int (gV_people (gM_oth (gX_mind u))), .int (gV_names (gM_oth (gX_mind u))), .int (gV_week (gM_oth (gX_mind u)))])), (a 35, .inl (cI, 8, .inl (gV_kind (gM_oth (gX_mind u))))), (a 36, .inl (cI, 8, .inl (gV_fig (gM_oth (gX_mind u))))), (a 37, .inl (cI, 8, .inl (gV_owed (gM_oth (gX_mind u))))), (a 38, .inl (cZ, 8, .inl (gV_here (gM_oth (gX_mind u))))), (a 39, .inl (cI, 64, .inl (gV_mem (gM_oth (gX_mind u))))), (a 40, .inl (cO, 6, .inr (.inr (.inr (.inr (fun j => some (kd6 (a 41) (a 42) (a 43) (a 44) (a 45) (a 46) j))))))), (a 41, .inr (4, [])), (a 42, .inr (0, [])), (a 43, .inr (2, [])), (a 44, .inr (5, [])), (a 45, .inr (1, [])), (a 46, .inr (9, []))]
def wD (cI cZ cO : ClassId) (a : Nat → Nat) (u : DS) : va_W := [(a 0, .inr (11, [.ref (a 1), .ref (a 2), .ref (a 3), .ref (a 4), .int (gD_has u), .ref (a 5), .ref (a 6), .ref (a 7), .int (gD_letN u), .int (gD_rowN u), .int (gD_place u), .ref (a 8), .int (gD_seed u)])), (a 1, .inl (cI, 99, .inl (gD_s u))), (a 2, .inl (cI, 99, .inl (gD_m u))), (a 3, .inl (cI, 99, .inl (gD_image u))), (a 4, .inl (cI, 99, .inl (gD_was u))), (a 5, .inl (cI, 96, .inl (gD_let u))), (a 6, .inl (cI, 16, .inl (gD_row u))), (a 7, .inl (cI, 7, .inl (gD_ref u))), (a 8, .inl (cI, 3, .inl (gD_num u)))]
def wI (cI cZ cO : ClassId) (a : Nat → Nat) (u : Nat → Int32) : va_W := [(a 0, .inl (cI, 99, .inl u))]
def wII (cI cZ cO : ClassId) (a : Nat → Nat) (u : (Nat → Int32) × (Nat → Int32)) : va_W := [(a 0, .inl (cI, 99, .inl u.1)), (a 1, .inl (cI, 99, .inl u.2))]
def wP (ci : Nat) (a : Nat → Nat) : va_W := [(a 0, .inr (ci, []))]
theorem kc_b_m9 : (Int8.ofInt (-9)).toInt32 = ((-9) : Int32) := by decide +kernel
theorem kc_b_m6 : (Int8.ofInt (-6)).toInt32 = ((-6) : Int32) := by decide +kernel
theorem kc_b_m4 : (Int8.ofInt (-4)).toInt32 = ((-4) : Int32) := by decide +kernel
theorem kc_b_m3 : (Int8.ofInt (-3)).toInt32 = ((-3) : Int32) := by decide +kernel
theorem kc_b_m2 : (Int8.ofInt (-2)).toInt32 = ((-2) : Int32) := by decide +kernel
theorem kc_b_6 : (Int8.ofInt 6).toInt32 = (6 : Int32) := by decide +kernel
theorem kc_b_7 : (Int8.ofInt 7).toInt32 = (7 : Int32) := by decide +kernel
theorem kc_b_8 : (Int8.ofInt 8).toInt32 = (8 : Int32) := by decide +kernel
theorem kc_b_9 : (Int8.ofInt 9).toInt32 = (9 : Int32) := by decide +kernel
theorem kc_b_10 : (Int8.ofInt 10).toInt32 = (10 : Int32) := by decide +kernel
theorem kc_b_11 : (Int8.ofInt 11).toInt32 = (11 : Int32) := by decide +kernel
theorem kc_b_16 : (Int8.ofInt 16).toInt32 = (16 : Int32) := by decide +kernel
theorem kc_b_20 : (Int8.ofInt 20).toInt32 = (20 : Int32) := by decide +kernel
theorem kc_b_30 : (Int8.ofInt 30).toInt32 = (30 : Int32) := by decide +kernel
theorem kc_b_35 : (Int8.ofInt 35).toInt32 = (35 : Int32) := by decide +kernel
theorem kc_b_48 : (Int8.ofInt 48).toInt32 = (48 : Int32) := by decide +kernel
theorem kc_b_50 : (Int8.ofInt 50).toInt32 = (50 : Int32) := by decide +kernel
theorem kc_b_57 : (Int8.ofInt 57).toInt32 = (57 : Int32) := by decide +kernel
theorem kc_b_59 : (Int8.ofInt 59).toInt32 = (59 : Int32) := by decide +kernel
theorem kc_b_60 : (Int8.ofInt 60).toInt32 = (60 : Int32) := by decide +kernel
theorem kc_b_63 : (Int8.ofInt 63).toInt32 = (63 : Int32) := by decide +kernel
theorem kc_b_64 : (Int8.ofInt 64).toInt32 = (64 : Int32) := by decide +kernel
theorem kc_b_96 : (Int8.ofInt 96).toInt32 = (96 : Int32) := by decide +kernel
theorem kc_b_99 : (Int8.ofInt 99).toInt32 = (99 : Int32) := by decide +kernel
theorem kc_b_100 : (Int8.ofInt 100).toInt32 = (100 : Int32) := by decide +kernel
theorem kc_i_m1 : Int32.ofInt (-1) = ((-1) : Int32) := by decide +kernel
theorem kc_i_0 : Int32.ofInt 0 = (0 : Int32) := by decide +kernel
theorem kc_i_1 : Int32.ofInt 1 = (1 : Int32) := by decide +kernel
theorem kc_i_2 : Int32.ofInt 2 = (2 : Int32) := by decide +kernel
theorem kc_i_3 : Int32.ofInt 3 = (3 : Int32) := by decide +kernel
theorem kc_i_4 : Int32.ofInt 4 = (4 : Int32) := by decide +kernel
theorem kc_i_5 : Int32.ofInt 5 = (5 : Int32) := by decide +kernel
theorem kc_l_0 : Int64.ofNat ((0 : Fin 2) : Nat) = (0 : Int64) := by decide +kernel
theorem kc_l_1 : Int64.ofNat ((1 : Fin 2) : Nat) = (1 : Int64) := by decide +kernel
theorem kc_s_m2000 : (Int16.ofInt (-2000)).toInt32 = ((-2000) : Int32) := by decide +kernel
theorem kc_s_m1000 : (Int16.ofInt (-1000)).toInt32 = ((-1000) : Int32) := by decide +kernel
theorem kc_s_255 : (Int16.ofInt 255).toInt32 = (255 : Int32) := by decide +kernel
theorem kc_s_256 : (Int16.ofInt 256).toInt32 = (256 : Int32) := by decide +kernel
theorem kc_s_999 : (Int16.ofInt 999).toInt32 = (999 : Int32) := by decide +kernel
set_option maxRecDepth 100000 in
theorem inX10 : ∀ w ∈ u_ws RX10 TX10 8, w ∈ LW := by
  intro w h
  obtain ⟨k, hk, rfl⟩ := List.mem_map.mp h
  have hk := List.mem_range.mp hk
  match k, hk with
  | 0, _ => exact qw1_193
  | 1, _ => exact qw1_195
  | 2, _ => exact qw1_197
  | 3, _ => exact qw1_199
  | 4, _ => exact qw1_201
  | 5, _ => exact qw1_203
  | 6, _ => exact qw1_205
  | 7, _ => exact qw1_207
  | k + 8, hk => exact absurd hk (by omega)
set_option maxRecDepth 100000 in
theorem inX11 : ∀ w ∈ u_ws RX11 TX11 13, w ∈ LW := by
  intro w h
  obtain ⟨k, hk, rfl⟩ := List.mem_map.mp h
  have hk := List.mem_range.mp hk
  match k, hk with
  | 0, _ => exact qw5_28
  | 1, _ => exact qw5_30
  | 2, _ => exact qw5_32
  | 3, _ => exact qw5_34
  | 4, _ => exact qw5_36
  | 5, _ => exact qw5_38
  | 6, _ => exact qw5_40
  | 7, _ => exact qw5_42
  | 8, _ => exact qw5_44
  | 9, _ => exact qw5_46
  | 10, _ => exact qw5_48
  | 11, _ => exact qw5_50
  | 12, _ => exact qw5_52
  | k + 13, hk => exact absurd hk (by omega)
set_option maxRecDepth 100000 in
theorem inX3 : ∀ w ∈ u_ws RX3 TX3 7, w ∈ LW := by
  intro w h
  obtain ⟨k, hk, rfl⟩ := List.mem_map.mp h
  have hk := List.mem_range.mp hk
  match k, hk with
  | 0, _ => exact qw1_140
  | 1, _ => exact qw1_142
  | 2, _ => exact qw1_144
  | 3, _ => exact qw1_146
  | 4, _ => exact qw1_148
  | 5, _ => exact qw1_150
  | 6, _ => exact qw1_152
  | k + 7, hk => exact absurd hk (by omega)
set_option maxRecDepth 100000 in
theorem inX6 : ∀ w ∈ u_ws RX6 TX6 2, w ∈ LW := by
  intro w h
  obtain ⟨k, hk, rfl⟩ := List.mem_map.mp h
  have hk := List.mem_range.mp hk
  match k, hk with
  | 0, _ => exact qw1_180
  | 1, _ => exact qw1_182
  | k + 2, hk => exact absurd hk (by omega)
set_option maxRecDepth 100000 in
theorem inX7 : ∀ w ∈ u_ws RX7 TX7 2, w ∈ LW := by
  intro w h
  obtain ⟨k, hk, rfl⟩ := List.mem_map.mp h
  have hk := List.mem_range.mp hk
  match k, hk with
  | 0, _ => exact qw1_164
  | 1, _ => exact qw1_166
  | k + 2, hk => exact absurd hk (by omega)
set_option maxRecDepth 100000 in
theorem inX8 : ∀ w ∈ u_ws RX8 TX8 9, w ∈ LW := by
  intro w h
  obtain ⟨k, hk, rfl⟩ := List.mem_map.mp h
  have hk := List.mem_range.mp hk
  match k, hk with
  | 0, _ => exact qw1_104
  | 1, _ => exact qw1_106
  | 2, _ => exact qw1_108
  | 3, _ => exact qw1_110
  | 4, _ => exact qw1_112
  | 5, _ => exact qw1_114
  | 6, _ => exact qw1_116
  | 7, _ => exact qw1_118
  | 8, _ => exact qw1_120
  | k + 9, hk => exact absurd hk (by omega)
def pm_D_i1 (i : Nat) : Nat := [1].getD i 0
set_option maxRecDepth 100000 in
theorem cut_D_i1 (cI cZ cO : ClassId) (a : Nat → Nat) (u : DS) (t : Nat → Int32) : smCut (wD cI cZ cO a u) (wI cI cZ cO (fun i => a (pm_D_i1 i)) (gD_s u)) (wI cI cZ cO (fun i => a (pm_D_i1 i)) t) (wD cI cZ cO a (sD_s u t)) := ⟨[1], [0, 2, 3, 4, 5, 6, 7, 8], [0, 8, 1, 2, 3, 4, 5, 6, 7], ([0, 2, 3, 4, 5, 6, 7, 8].filterMap (fun i => (wD cI cZ cO a u)[i]?)), rfl, by decide, rfl, by decide, by decide, rfl, by decide⟩
set_option maxRecDepth 100000 in
theorem cut_D_i1_ro (cI cZ cO : ClassId) (a : Nat → Nat) (u : DS) : smCut (wD cI cZ cO a u) (wI cI cZ cO (fun i => a (pm_D_i1 i)) (gD_s u)) (wI cI cZ cO (fun i => a (pm_D_i1 i)) (gD_s u)) (wD cI cZ cO a u) := ⟨[1], [0, 2, 3, 4, 5, 6, 7, 8], [0, 8, 1, 2, 3, 4, 5, 6, 7], ([0, 2, 3, 4, 5, 6, 7, 8].filterMap (fun i => (wD cI cZ cO a u)[i]?)), rfl, by decide, rfl, by decide, by decide, rfl, by decide⟩
def pm_D_i2 (i : Nat) : Nat := [2].getD i 0
set_option maxRecDepth 100000 in
theorem cut_D_i2 (cI cZ cO : ClassId) (a : Nat → Nat) (u : DS) (t : Nat → Int32) : smCut (wD cI cZ cO a u) (wI cI cZ cO (fun i => a (pm_D_i2 i)) (gD_m u)) (wI cI cZ cO (fun i => a (pm_D_i2 i)) t) (wD cI cZ cO a (sD_m u t)) := ⟨[2], [0, 1, 3, 4, 5, 6, 7, 8], [0, 1, 8, 2, 3, 4, 5, 6, 7], ([0, 1, 3, 4, 5, 6, 7, 8].filterMap (fun i => (wD cI cZ cO a u)[i]?)), rfl, by decide, rfl, by decide, by decide, rfl, by decide⟩
set_option maxRecDepth 100000 in
theorem cut_D_i2_ro (cI cZ cO : ClassId) (a : Nat → Nat) (u : DS) : smCut (wD cI cZ cO a u) (wI cI cZ cO (fun i => a (pm_D_i2 i)) (gD_m u)) (wI cI cZ cO (fun i => a (pm_D_i2 i)) (gD_m u)) (wD cI cZ cO a u) := ⟨[2], [0, 1, 3, 4, 5, 6, 7, 8], [0, 1, 8, 2, 3, 4, 5, 6, 7], ([0, 1, 3, 4, 5, 6, 7, 8].filterMap (fun i => (wD cI cZ cO a u)[i]?)), rfl, by decide, rfl, by decide, by decide, rfl, by decide⟩
def pm_D_i4 (i : Nat) : Nat := [4].getD i 0
set_option maxRecDepth 100000 in
theorem cut_D_i4 (cI cZ cO : ClassId) (a : Nat → Nat) (u : DS) (t : Nat → Int32) : smCut (wD cI cZ cO a u) (wI cI cZ cO (fun i => a (pm_D_i4 i)) (gD_was u)) (wI cI cZ cO (fun i => a (pm_D_i4 i)) t) (wD cI cZ cO a (sD_was u t)) := ⟨[4], [0, 1, 2, 3, 5, 6, 7, 8], [0, 1, 2, 3, 8, 4, 5, 6, 7], ([0, 1, 2, 3, 5, 6, 7, 8].filterMap (fun i => (wD cI cZ cO a u)[i]?)), rfl, by decide, rfl, by decide, by decide, rfl, by decide⟩
set_option maxRecDepth 100000 in
theorem cut_D_i4_ro (cI cZ cO : ClassId) (a : Nat → Nat) (u : DS) : smCut (wD cI cZ cO a u) (wI cI cZ cO (fun i => a (pm_D_i4 i)) (gD_was u)) (wI cI cZ cO (fun i => a (pm_D_i4 i)) (gD_was u)) (wD cI cZ cO a u) := ⟨[4], [0, 1, 2, 3, 5, 6, 7, 8], [0, 1, 2, 3, 8, 4, 5, 6, 7], ([0, 1, 2, 3, 5, 6, 7, 8].filterMap (fun i => (wD cI cZ cO a u)[i]?)), rfl, by decide, rfl, by decide, by decide, rfl, by decide⟩
set_option maxRecDepth 100000 in
theorem cut_D_id (cI cZ cO : ClassId) (a : Nat → Nat) (u t : DS) : smCut (wD cI cZ cO a u) (wD cI cZ cO a u) (wD cI cZ cO a t) (wD cI cZ cO a t) := ⟨[0, 1, 2, 3, 4, 5, 6, 7, 8], [], [0, 1, 2, 3, 4, 5, 6, 7, 8], [], rfl, by decide, rfl, rfl, fun _ h => (by cases h), rfl, by decide⟩
def pm_D_ii1_2 (i : Nat) : Nat := [1, 2].getD i 0
set_option maxRecDepth 100000 in
theorem cut_D_ii1_2 (cI cZ cO : ClassId) (a : Nat → Nat) (u : DS) (t : (Nat → Int32) × (Nat → Int32)) : smCut (wD cI cZ cO a u) (wII cI cZ cO (fun i => a (pm_D_ii1_2 i)) (gD_s u, gD_m u)) (wII cI cZ cO (fun i => a (pm_D_ii1_2 i)) t) (wD cI cZ cO a (sD_m (sD_s u t.1) t.2)) := ⟨[1, 2], [0, 3, 4, 5, 6, 7, 8], [0, 7, 8, 1, 2, 3, 4, 5, 6], ([0, 3, 4, 5, 6, 7, 8].filterMap (fun i => (wD cI cZ cO a u)[i]?)), rfl, by decide, rfl, by decide, by decide, rfl, by decide⟩
set_option maxRecDepth 100000 in
theorem cut_D_ii1_2_ro (cI cZ cO : ClassId) (a : Nat → Nat) (u : DS) : smCut (wD cI cZ cO a u) (wII cI cZ cO (fun i => a (pm_D_ii1_2 i)) (gD_s u, gD_m u)) (wII cI cZ cO (fun i => a (pm_D_ii1_2 i)) (gD_s u, gD_m u)) (wD cI cZ cO a u) := ⟨[1, 2], [0, 3, 4, 5, 6, 7, 8], [0, 7, 8, 1, 2, 3, 4, 5, 6], ([0, 3, 4, 5, 6, 7, 8].filterMap (fun i => (wD cI cZ cO a u)[i]?)), rfl, by decide, rfl, by decide, by decide, rfl, by decide⟩
def pm_D_ii1_3 (i : Nat) : Nat := [1, 3].getD i 0
set_option maxRecDepth 100000 in
theorem cut_D_ii1_3 (cI cZ cO : ClassId) (a : Nat → Nat) (u : DS) (t : (Nat → Int32) × (Nat → Int32)) : smCut (wD cI cZ cO a u) (wII cI cZ cO (fun i => a (pm_D_ii1_3 i)) (gD_s u, gD_image u)) (wII cI cZ cO (fun i => a (pm_D_ii1_3 i)) t) (wD cI cZ cO a (sD_image (sD_s u t.1) t.2)) := ⟨[1, 3], [0, 2, 4, 5, 6, 7, 8], [0, 7, 1, 8, 2, 3, 4, 5, 6], ([0, 2, 4, 5, 6, 7, 8].filterMap (fun i => (wD cI cZ cO a u)[i]?)), rfl, by decide, rfl, by decide, by decide, rfl, by decide⟩
set_option maxRecDepth 100000 in
theorem cut_D_ii1_3_ro (cI cZ cO : ClassId) (a : Nat → Nat) (u : DS) : smCut (wD cI cZ cO a u) (wII cI cZ cO (fun i => a (pm_D_ii1_3 i)) (gD_s u, gD_image u)) (wII cI cZ cO (fun i => a (pm_D_ii1_3 i)) (gD_s u, gD_image u)) (wD cI cZ cO a u) := ⟨[1, 3], [0, 2, 4, 5, 6, 7, 8], [0, 7, 1, 8, 2, 3, 4, 5, 6], ([0, 2, 4, 5, 6, 7, 8].filterMap (fun i => (wD cI cZ cO a u)[i]?)), rfl, by decide, rfl, by decide, by decide, rfl, by decide⟩
def pm_D_ii1_4 (i : Nat) : Nat := [1, 4].getD i 0
set_option maxRecDepth 100000 in
theorem cut_D_ii1_4 (cI cZ cO : ClassId) (a : Nat → Nat) (u : DS) (t : (Nat → Int32) × (Nat → Int32)) : smCut (wD cI cZ cO a u) (wII cI cZ cO (fun i => a (pm_D_ii1_4 i)) (gD_s u, gD_was u)) (wII cI cZ cO (fun i => a (pm_D_ii1_4 i)) t) (wD cI cZ cO a (sD_was (sD_s u t.1) t.2)) := ⟨[1, 4], [0, 2, 3, 5, 6, 7, 8], [0, 7, 1, 2, 8, 3, 4, 5, 6], ([0, 2, 3, 5, 6, 7, 8].filterMap (fun i => (wD cI cZ cO a u)[i]?)), rfl, by decide, rfl, by decide, by decide, rfl, by decide⟩
set_option maxRecDepth 100000 in
theorem cut_D_ii1_4_ro (cI cZ cO : ClassId) (a : Nat → Nat) (u : DS) : smCut (wD cI cZ cO a u) (wII cI cZ cO (fun i => a (pm_D_ii1_4 i)) (gD_s u, gD_was u)) (wII cI cZ cO (fun i => a (pm_D_ii1_4 i)) (gD_s u, gD_was u)) (wD cI cZ cO a u) := ⟨[1, 4], [0, 2, 3, 5, 6, 7, 8], [0, 7, 1, 2, 8, 3, 4, 5, 6], ([0, 2, 3, 5, 6, 7, 8].filterMap (fun i => (wD cI cZ cO a u)[i]?)), rfl, by decide, rfl, by decide, by decide, rfl, by decide⟩
def pm_D_ii3_1 (i : Nat) : Nat := [3, 1].getD i 0
set_option maxRecDepth 100000 in
theorem cut_D_ii3_1 (cI cZ cO : ClassId) (a : Nat → Nat) (u : DS) (t : (Nat → Int32) × (Nat → Int32)) : smCut (wD cI cZ cO a u) (wII cI cZ cO (fun i => a (pm_D_ii3_1 i)) (gD_image u, gD_s u)) (wII cI cZ cO (fun i => a (pm_D_ii3_1 i)) t) (wD cI cZ cO a (sD_s (sD_image u t.1) t.2)) := ⟨[3, 1], [0, 2, 4, 5, 6, 7, 8], [0, 8, 1, 7, 2, 3, 4, 5, 6], ([0, 2, 4, 5, 6, 7, 8].filterMap (fun i => (wD cI cZ cO a u)[i]?)), rfl, by decide, rfl, by decide, by decide, rfl, by decide⟩
set_option maxRecDepth 100000 in
theorem cut_D_ii3_1_ro (cI cZ cO : ClassId) (a : Nat → Nat) (u : DS) : smCut (wD cI cZ cO a u) (wII cI cZ cO (fun i => a (pm_D_ii3_1 i)) (gD_image u, gD_s u)) (wII cI cZ cO (fun i => a (pm_D_ii3_1 i)) (gD_image u, gD_s u)) (wD cI cZ cO a u) := ⟨[3, 1], [0, 2, 4, 5, 6, 7, 8], [0, 8, 1, 7, 2, 3, 4, 5, 6], ([0, 2, 4, 5, 6, 7, 8].filterMap (fun i => (wD cI cZ cO a u)[i]?)), rfl, by decide, rfl, by decide, by decide, rfl, by decide⟩
def pm_D_ii4_1 (i : Nat) : Nat := [4, 1].getD i 0
set_option maxRecDepth 100000 in
theorem cut_D_ii4_1 (cI cZ cO : ClassId) (a : Nat → Nat) (u : DS) (t : (Nat → Int32) × (Nat → Int32)) : smCut (wD cI cZ cO a u) (wII cI cZ cO (fun i => a (pm_D_ii4_1 i)) (gD_was u, gD_s u)) (wII cI cZ cO (fun i => a (pm_D_ii4_1 i)) t) (wD cI cZ cO a (sD_s (sD_was u t.1) t.2)) := ⟨[4, 1], [0, 2, 3, 5, 6, 7, 8], [0, 8, 1, 2, 7, 3, 4, 5, 6], ([0, 2, 3, 5, 6, 7, 8].filterMap (fun i => (wD cI cZ cO a u)[i]?)), rfl, by decide, rfl, by decide, by decide, rfl, by decide⟩
set_option maxRecDepth 100000 in
theorem cut_D_ii4_1_ro (cI cZ cO : ClassId) (a : Nat → Nat) (u : DS) : smCut (wD cI cZ cO a u) (wII cI cZ cO (fun i => a (pm_D_ii4_1 i)) (gD_was u, gD_s u)) (wII cI cZ cO (fun i => a (pm_D_ii4_1 i)) (gD_was u, gD_s u)) (wD cI cZ cO a u) := ⟨[4, 1], [0, 2, 3, 5, 6, 7, 8], [0, 8, 1, 2, 7, 3, 4, 5, 6], ([0, 2, 3, 5, 6, 7, 8].filterMap (fun i => (wD cI cZ cO a u)[i]?)), rfl, by decide, rfl, by decide, by decide, rfl, by decide⟩
set_option maxRecDepth 100000 in
theorem cut_I_id (cI cZ cO : ClassId) (a : Nat → Nat) (u t : Nat → Int32) : smCut (wI cI cZ cO a u) (wI cI cZ cO a u) (wI cI cZ cO a t) (wI cI cZ cO a t) := ⟨[0], [], [0], [], rfl, by decide, rfl, rfl, fun _ h => (by cases h), rfl, by decide⟩
set_option maxRecDepth 100000 in
theorem cut_M_id (cI cZ cO : ClassId) (a : Nat → Nat) (u t : MS) : smCut (wM cI cZ cO a u) (wM cI cZ cO a u) (wM cI cZ cO a t) (wM cI cZ cO a t) := ⟨[0, 1, 2, 3, 4, 5, 6, 7, 8, 9, 10, 11, 12, 13, 14, 15, 16, 17, 18, 19, 20, 21, 22, 23, 24, 25, 26, 27, 28, 29, 30], [], [0, 1, 2, 3, 4, 5, 6, 7, 8, 9, 10, 11, 12, 13, 14, 15, 16, 17, 18, 19, 20, 21, 22, 23, 24, 25, 26, 27, 28, 29, 30], [], rfl, by decide, rfl, rfl, fun _ h => (by cases h), rfl, by decide⟩
def pm_M_v12 (i : Nat) : Nat := [12, 13, 14, 15, 16, 17, 24, 25, 26, 27, 28, 29, 30].getD i 0
set_option maxRecDepth 100000 in
theorem cut_M_v12 (cI cZ cO : ClassId) (a : Nat → Nat) (u : MS) (t : VS) : smCut (wM cI cZ cO a u) (wV cI cZ cO (fun i => a (pm_M_v12 i)) (gM_then u)) (wV cI cZ cO (fun i => a (pm_M_v12 i)) t) (wM cI cZ cO a (sM_then u t)) := ⟨[12, 13, 14, 15, 16, 17, 24, 25, 26, 27, 28, 29, 30], [0, 1, 2, 3, 4, 5, 6, 7, 8, 9, 10, 11, 18, 19, 20, 21, 22, 23], [0, 1, 2, 3, 4, 5, 6, 7, 8, 9, 10, 11, 18, 19, 20, 21, 22, 23, 12, 13, 14, 15, 16, 17, 24, 25, 26, 27, 28, 29, 30], ([0, 1, 2, 3, 4, 5, 6, 7, 8, 9, 10, 11, 18, 19, 20, 21, 22, 23].filterMap (fun i => (wM cI cZ cO a u)[i]?)), rfl, by decide, rfl, by decide, by decide, rfl, by decide⟩
set_option maxRecDepth 100000 in
theorem cut_M_v12_ro (cI cZ cO : ClassId) (a : Nat → Nat) (u : MS) : smCut (wM cI cZ cO a u) (wV cI cZ cO (fun i => a (pm_M_v12 i)) (gM_then u)) (wV cI cZ cO (fun i => a (pm_M_v12 i)) (gM_then u)) (wM cI cZ cO a u) := ⟨[12, 13, 14, 15, 16, 17, 24, 25, 26, 27, 28, 29, 30], [0, 1, 2, 3, 4, 5, 6, 7, 8, 9, 10, 11, 18, 19, 20, 21, 22, 23], [0, 1, 2, 3, 4, 5, 6, 7, 8, 9, 10, 11, 18, 19, 20, 21, 22, 23, 12, 13, 14, 15, 16, 17, 24, 25, 26, 27, 28, 29, 30], ([0, 1, 2, 3, 4, 5, 6, 7, 8, 9, 10, 11, 18, 19, 20, 21, 22, 23].filterMap (fun i => (wM cI cZ cO a u)[i]?)), rfl, by decide, rfl, by decide, by decide, rfl, by decide⟩
def pm_M_v18 (i : Nat) : Nat := [18, 19, 20, 21, 22, 23, 24, 25, 26, 27, 28, 29, 30].getD i 0
set_option maxRecDepth 100000 in
theorem cut_M_v18 (cI cZ cO : ClassId) (a : Nat → Nat) (u : MS) (t : VS) : smCut (wM cI cZ cO a u) (wV cI cZ cO (fun i => a (pm_M_v18 i)) (gM_oth u)) (wV cI cZ cO (fun i => a (pm_M_v18 i)) t) (wM cI cZ cO a (sM_oth u t)) := ⟨[18, 19, 20, 21, 22, 23, 24, 25, 26, 27, 28, 29, 30], [0, 1, 2, 3, 4, 5, 6, 7, 8, 9, 10, 11, 12, 13, 14, 15, 16, 17], [0, 1, 2, 3, 4, 5, 6, 7, 8, 9, 10, 11, 12, 13, 14, 15, 16, 17, 18, 19, 20, 21, 22, 23, 24, 25, 26, 27, 28, 29, 30], ([0, 1, 2, 3, 4, 5, 6, 7, 8, 9, 10, 11, 12, 13, 14, 15, 16, 17].filterMap (fun i => (wM cI cZ cO a u)[i]?)), rfl, by decide, rfl, by decide, by decide, rfl, by decide⟩
set_option maxRecDepth 100000 in
theorem cut_M_v18_ro (cI cZ cO : ClassId) (a : Nat → Nat) (u : MS) : smCut (wM cI cZ cO a u) (wV cI cZ cO (fun i => a (pm_M_v18 i)) (gM_oth u)) (wV cI cZ cO (fun i => a (pm_M_v18 i)) (gM_oth u)) (wM cI cZ cO a u) := ⟨[18, 19, 20, 21, 22, 23, 24, 25, 26, 27, 28, 29, 30], [0, 1, 2, 3, 4, 5, 6, 7, 8, 9, 10, 11, 12, 13, 14, 15, 16, 17], [0, 1, 2, 3, 4, 5, 6, 7, 8, 9, 10, 11, 12, 13, 14, 15, 16, 17, 18, 19, 20, 21, 22, 23, 24, 25, 26, 27, 28, 29, 30], ([0, 1, 2, 3, 4, 5, 6, 7, 8, 9, 10, 11, 12, 13, 14, 15, 16, 17].filterMap (fun i => (wM cI cZ cO a u)[i]?)), rfl, by decide, rfl, by decide, by decide, rfl, by decide⟩
def pm_M_v6 (i : Nat) : Nat := [6, 7, 8, 9, 10, 11, 24, 25, 26, 27, 28, 29, 30].getD i 0
set_option maxRecDepth 100000 in
theorem cut_M_v6 (cI cZ cO : ClassId) (a : Nat → Nat) (u : MS) (t : VS) : smCut (wM cI cZ cO a u) (wV cI cZ cO (fun i => a (pm_M_v6 i)) (gM_now u)) (wV cI cZ cO (fun i => a (pm_M_v6 i)) t) (wM cI cZ cO a (sM_now u t)) := ⟨[6, 7, 8, 9, 10, 11, 24, 25, 26, 27, 28, 29, 30], [0, 1, 2, 3, 4, 5, 12, 13, 14, 15, 16, 17, 18, 19, 20, 21, 22, 23], [0, 1, 2, 3, 4, 5, 18, 19, 20, 21, 22, 23, 6, 7, 8, 9, 10, 11, 12, 13, 14, 15, 16, 17, 24, 25, 26, 27, 28, 29, 30], ([0, 1, 2, 3, 4, 5, 12, 13, 14, 15, 16, 17, 18, 19, 20, 21, 22, 23].filterMap (fun i => (wM cI cZ cO a u)[i]?)), rfl, by decide, rfl, by decide, by decide, rfl, by decide⟩
set_option maxRecDepth 100000 in
theorem cut_M_v6_ro (cI cZ cO : ClassId) (a : Nat → Nat) (u : MS) : smCut (wM cI cZ cO a u) (wV cI cZ cO (fun i => a (pm_M_v6 i)) (gM_now u)) (wV cI cZ cO (fun i => a (pm_M_v6 i)) (gM_now u)) (wM cI cZ cO a u) := ⟨[6, 7, 8, 9, 10, 11, 24, 25, 26, 27, 28, 29, 30], [0, 1, 2, 3, 4, 5, 12, 13, 14, 15, 16, 17, 18, 19, 20, 21, 22, 23], [0, 1, 2, 3, 4, 5, 18, 19, 20, 21, 22, 23, 6, 7, 8, 9, 10, 11, 12, 13, 14, 15, 16, 17, 24, 25, 26, 27, 28, 29, 30], ([0, 1, 2, 3, 4, 5, 12, 13, 14, 15, 16, 17, 18, 19, 20, 21, 22, 23].filterMap (fun i => (wM cI cZ cO a u)[i]?)), rfl, by decide, rfl, by decide, by decide, rfl, by decide⟩
def pm_M_vv12_6 (i : Nat) : Nat := [12, 13, 14, 15, 16, 17, 6, 7, 8, 9, 10, 11, 24].getD i 0
set_option maxRecDepth 100000 in
theorem cut_M_vv12_6 (cI cZ cO : ClassId) (a : Nat → Nat) (u : MS) (t : VS × VS) : smCut (wM cI cZ cO a u) (wVV cI cZ cO (fun i => a (pm_M_vv12_6 i)) ((gM_then u), (gM_now u))) (wVV cI cZ cO (fun i => a (pm_M_vv12_6 i)) t) (wM cI cZ cO a (sM_now (sM_then u t.1) t.2)) := ⟨[12, 13, 14, 15, 16, 17, 6, 7, 8, 9, 10, 11], [0, 1, 2, 3, 4, 5, 18, 19, 20, 21, 22, 23, 24, 25, 26, 27, 28, 29, 30], [0, 1, 2, 3, 4, 5, 25, 26, 27, 28, 29, 30, 19, 20, 21, 22, 23, 24, 6, 7, 8, 9, 10, 11, 12, 13, 14, 15, 16, 17, 18], ([0, 1, 2, 3, 4, 5, 18, 19, 20, 21, 22, 23, 24, 25, 26, 27, 28, 29, 30].filterMap (fun i => (wM cI cZ cO a u)[i]?)), rfl, by decide, rfl, by decide, by decide, rfl, by decide⟩
set_option maxRecDepth 100000 in
theorem cut_M_vv12_6_ro (cI cZ cO : ClassId) (a : Nat → Nat) (u : MS) : smCut (wM cI cZ cO a u) (wVV cI cZ cO (fun i => a (pm_M_vv12_6 i)) ((gM_then u), (gM_now u))) (wVV cI cZ cO (fun i => a (pm_M_vv12_6 i)) ((gM_then u), (gM_now u))) (wM cI cZ cO a u) := ⟨[12, 13, 14, 15, 16, 17, 6, 7, 8, 9, 10, 11], [0, 1, 2, 3, 4, 5, 18, 19, 20, 21, 22, 23, 24, 25, 26, 27, 28, 29, 30], [0, 1, 2, 3, 4, 5, 25, 26, 27, 28, 29, 30, 19, 20, 21, 22, 23, 24, 6, 7, 8, 9, 10, 11, 12, 13, 14, 15, 16, 17, 18], ([0, 1, 2, 3, 4, 5, 18, 19, 20, 21, 22, 23, 24, 25, 26, 27, 28, 29, 30].filterMap (fun i => (wM cI cZ cO a u)[i]?)), rfl, by decide, rfl, by decide, by decide, rfl, by decide⟩
def pm_M_vv18_6 (i : Nat) : Nat := [18, 19, 20, 21, 22, 23, 6, 7, 8, 9, 10, 11, 24].getD i 0
set_option maxRecDepth 100000 in
theorem cut_M_vv18_6 (cI cZ cO : ClassId) (a : Nat → Nat) (u : MS) (t : VS × VS) : smCut (wM cI cZ cO a u) (wVV cI cZ cO (fun i => a (pm_M_vv18_6 i)) ((gM_oth u), (gM_now u))) (wVV cI cZ cO (fun i => a (pm_M_vv18_6 i)) t) (wM cI cZ cO a (sM_now (sM_oth u t.1) t.2)) := ⟨[18, 19, 20, 21, 22, 23, 6, 7, 8, 9, 10, 11], [0, 1, 2, 3, 4, 5, 12, 13, 14, 15, 16, 17, 24, 25, 26, 27, 28, 29, 30], [0, 1, 2, 3, 4, 5, 25, 26, 27, 28, 29, 30, 6, 7, 8, 9, 10, 11, 19, 20, 21, 22, 23, 24, 12, 13, 14, 15, 16, 17, 18], ([0, 1, 2, 3, 4, 5, 12, 13, 14, 15, 16, 17, 24, 25, 26, 27, 28, 29, 30].filterMap (fun i => (wM cI cZ cO a u)[i]?)), rfl, by decide, rfl, by decide, by decide, rfl, by decide⟩
set_option maxRecDepth 100000 in
theorem cut_M_vv18_6_ro (cI cZ cO : ClassId) (a : Nat → Nat) (u : MS) : smCut (wM cI cZ cO a u) (wVV cI cZ cO (fun i => a (pm_M_vv18_6 i)) ((gM_oth u), (gM_now u))) (wVV cI cZ cO (fun i => a (pm_M_vv18_6 i)) ((gM_oth u), (gM_now u))) (wM cI cZ cO a u) := ⟨[18, 19, 20, 21, 22, 23, 6, 7, 8, 9, 10, 11], [0, 1, 2, 3, 4, 5, 12, 13, 14, 15, 16, 17, 24, 25, 26, 27, 28, 29, 30], [0, 1, 2, 3, 4, 5, 25, 26, 27, 28, 29, 30, 6, 7, 8, 9, 10, 11, 19, 20, 21, 22, 23, 24, 12, 13, 14, 15, 16, 17, 18], ([0, 1, 2, 3, 4, 5, 12, 13, 14, 15, 16, 17, 24, 25, 26, 27, 28, 29, 30].filterMap (fun i => (wM cI cZ cO a u)[i]?)), rfl, by decide, rfl, by decide, by decide, rfl, by decide⟩
set_option maxRecDepth 100000 in
theorem cut_T_id (cI cZ cO : ClassId) (a : Nat → Nat) (u t : TS) : smCut (wT cI cZ cO a u) (wT cI cZ cO a u) (wT cI cZ cO a t) (wT cI cZ cO a t) := ⟨[0, 1], [], [0, 1], [], rfl, by decide, rfl, rfl, fun _ h => (by cases h), rfl, by decide⟩
def pm_TV_t (i : Nat) : Nat := [0, 1].getD i 0
set_option maxRecDepth 100000 in
theorem cut_TV_t (cI cZ cO : ClassId) (a : Nat → Nat) (u : TS × VS) (t : TS) : smCut (wTV cI cZ cO a u) (wT cI cZ cO (fun i => a (pm_TV_t i)) u.1) (wT cI cZ cO (fun i => a (pm_TV_t i)) t) (wTV cI cZ cO a (t, u.2)) := ⟨[0, 1], [2, 3, 4, 5, 6, 7, 8, 9, 10, 11, 12, 13, 14], [13, 14, 0, 1, 2, 3, 4, 5, 6, 7, 8, 9, 10, 11, 12], ([2, 3, 4, 5, 6, 7, 8, 9, 10, 11, 12, 13, 14].filterMap (fun i => (wTV cI cZ cO a u)[i]?)), rfl, by decide, rfl, by decide, by decide, rfl, by decide⟩
set_option maxRecDepth 100000 in
theorem cut_TV_t_ro (cI cZ cO : ClassId) (a : Nat → Nat) (u : TS × VS) : smCut (wTV cI cZ cO a u) (wT cI cZ cO (fun i => a (pm_TV_t i)) u.1) (wT cI cZ cO (fun i => a (pm_TV_t i)) u.1) (wTV cI cZ cO a u) := ⟨[0, 1], [2, 3, 4, 5, 6, 7, 8, 9, 10, 11, 12, 13, 14], [13, 14, 0, 1, 2, 3, 4, 5, 6, 7, 8, 9, 10, 11, 12], ([2, 3, 4, 5, 6, 7, 8, 9, 10, 11, 12, 13, 14].filterMap (fun i => (wTV cI cZ cO a u)[i]?)), rfl, by decide, rfl, by decide, by decide, rfl, by decide⟩
def pm_TV_v2 (i : Nat) : Nat := [2, 3, 4, 5, 6, 7, 8, 9, 10, 11, 12, 13, 14].getD i 0
set_option maxRecDepth 100000 in
theorem cut_TV_v2 (cI cZ cO : ClassId) (a : Nat → Nat) (u : TS × VS) (t : VS) : smCut (wTV cI cZ cO a u) (wV cI cZ cO (fun i => a (pm_TV_v2 i)) u.2) (wV cI cZ cO (fun i => a (pm_TV_v2 i)) t) (wTV cI cZ cO a (u.1, t)) := ⟨[2, 3, 4, 5, 6, 7, 8, 9, 10, 11, 12, 13, 14], [0, 1], [0, 1, 2, 3, 4, 5, 6, 7, 8, 9, 10, 11, 12, 13, 14], ([0, 1].filterMap (fun i => (wTV cI cZ cO a u)[i]?)), rfl, by decide, rfl, by decide, by decide, rfl, by decide⟩
set_option maxRecDepth 100000 in
theorem cut_TV_v2_ro (cI cZ cO : ClassId) (a : Nat → Nat) (u : TS × VS) : smCut (wTV cI cZ cO a u) (wV cI cZ cO (fun i => a (pm_TV_v2 i)) u.2) (wV cI cZ cO (fun i => a (pm_TV_v2 i)) u.2) (wTV cI cZ cO a u) := ⟨[2, 3, 4, 5, 6, 7, 8, 9, 10, 11, 12, 13, 14], [0, 1], [0, 1, 2, 3, 4, 5, 6, 7, 8, 9, 10, 11, 12, 13, 14], ([0, 1].filterMap (fun i => (wTV cI cZ cO a u)[i]?)), rfl, by decide, rfl, by decide, by decide, rfl, by decide⟩
set_option maxRecDepth 100000 in
theorem cut_V_id (cI cZ cO : ClassId) (a : Nat → Nat) (u t : VS) : smCut (wV cI cZ cO a u) (wV cI cZ cO a u) (wV cI cZ cO a t) (wV cI cZ cO a t) := ⟨[0, 1, 2, 3, 4, 5, 6, 7, 8, 9, 10, 11, 12], [], [0, 1, 2, 3, 4, 5, 6, 7, 8, 9, 10, 11, 12], [], rfl, by decide, rfl, rfl, fun _ h => (by cases h), rfl, by decide⟩
set_option maxRecDepth 100000 in
theorem cut_X_id (cI cZ cO : ClassId) (a : Nat → Nat) (u t : XS) : smCut (wX cI cZ cO a u) (wX cI cZ cO a u) (wX cI cZ cO a t) (wX cI cZ cO a t) := ⟨[0, 1, 2, 3, 4, 5, 6, 7, 8, 9, 10, 11, 12, 13, 14, 15, 16, 17, 18, 19, 20, 21, 22, 23, 24, 25, 26, 27, 28, 29, 30, 31, 32, 33, 34, 35, 36, 37, 38, 39, 40, 41, 42, 43, 44, 45, 46], [], [0, 1, 2, 3, 4, 5, 6, 7, 8, 9, 10, 11, 12, 13, 14, 15, 16, 17, 18, 19, 20, 21, 22, 23, 24, 25, 26, 27, 28, 29, 30, 31, 32, 33, 34, 35, 36, 37, 38, 39, 40, 41, 42, 43, 44, 45, 46], [], rfl, by decide, rfl, rfl, fun _ h => (by cases h), rfl, by decide⟩
def pm_X_m (i : Nat) : Nat := [16, 17, 18, 19, 20, 21, 22, 23, 24, 25, 26, 27, 28, 29, 30, 31, 32, 33, 34, 35, 36, 37, 38, 39, 40, 41, 42, 43, 44, 45, 46].getD i 0
set_option maxRecDepth 100000 in
theorem cut_X_m (cI cZ cO : ClassId) (a : Nat → Nat) (u : XS) (t : MS) : smCut (wX cI cZ cO a u) (wM cI cZ cO (fun i => a (pm_X_m i)) (gX_mind u)) (wM cI cZ cO (fun i => a (pm_X_m i)) t) (wX cI cZ cO a (sX_mind u t)) := ⟨[16, 17, 18, 19, 20, 21, 22, 23, 24, 25, 26, 27, 28, 29, 30, 31, 32, 33, 34, 35, 36, 37, 38, 39, 40, 41, 42, 43, 44, 45, 46], [0, 1, 2, 3, 4, 5, 6, 7, 8, 9, 10, 11, 12, 13, 14, 15], [0, 1, 2, 3, 4, 5, 6, 7, 8, 9, 10, 11, 12, 13, 14, 15, 16, 17, 18, 19, 20, 21, 22, 23, 24, 25, 26, 27, 28, 29, 30, 31, 32, 33, 34, 35, 36, 37, 38, 39, 40, 41, 42, 43, 44, 45, 46], ([0, 1, 2, 3, 4, 5, 6, 7, 8, 9, 10, 11, 12, 13, 14, 15].filterMap (fun i => (wX cI cZ cO a u)[i]?)), rfl, by decide, rfl, by decide, by decide, rfl, by decide⟩
set_option maxRecDepth 100000 in
theorem cut_X_m_ro (cI cZ cO : ClassId) (a : Nat → Nat) (u : XS) : smCut (wX cI cZ cO a u) (wM cI cZ cO (fun i => a (pm_X_m i)) (gX_mind u)) (wM cI cZ cO (fun i => a (pm_X_m i)) (gX_mind u)) (wX cI cZ cO a u) := ⟨[16, 17, 18, 19, 20, 21, 22, 23, 24, 25, 26, 27, 28, 29, 30, 31, 32, 33, 34, 35, 36, 37, 38, 39, 40, 41, 42, 43, 44, 45, 46], [0, 1, 2, 3, 4, 5, 6, 7, 8, 9, 10, 11, 12, 13, 14, 15], [0, 1, 2, 3, 4, 5, 6, 7, 8, 9, 10, 11, 12, 13, 14, 15, 16, 17, 18, 19, 20, 21, 22, 23, 24, 25, 26, 27, 28, 29, 30, 31, 32, 33, 34, 35, 36, 37, 38, 39, 40, 41, 42, 43, 44, 45, 46], ([0, 1, 2, 3, 4, 5, 6, 7, 8, 9, 10, 11, 12, 13, 14, 15].filterMap (fun i => (wX cI cZ cO a u)[i]?)), rfl, by decide, rfl, by decide, by decide, rfl, by decide⟩
def pm_X_r (i : Nat) : Nat := [20, 21].getD i 0
set_option maxRecDepth 100000 in
theorem cut_X_r (cI cZ cO : ClassId) (a : Nat → Nat) (u : XS) (t : RS) : smCut (wX cI cZ cO a u) (wR cI cZ cO (fun i => a (pm_X_r i)) (gM_row (gX_mind u))) (wR cI cZ cO (fun i => a (pm_X_r i)) t) (wX cI cZ cO a (sX_mind u (sM_row (gX_mind u) t))) := ⟨[20, 21], [0, 1, 2, 3, 4, 5, 6, 7, 8, 9, 10, 11, 12, 13, 14, 15, 16, 17, 18, 19, 22, 23, 24, 25, 26, 27, 28, 29, 30, 31, 32, 33, 34, 35, 36, 37, 38, 39, 40, 41, 42, 43, 44, 45, 46], [0, 1, 2, 3, 4, 5, 6, 7, 8, 9, 10, 11, 12, 13, 14, 15, 16, 17, 18, 19, 45, 46, 20, 21, 22, 23, 24, 25, 26, 27, 28, 29, 30, 31, 32, 33, 34, 35, 36, 37, 38, 39, 40, 41, 42, 43, 44], ([0, 1, 2, 3, 4, 5, 6, 7, 8, 9, 10, 11, 12, 13, 14, 15, 16, 17, 18, 19, 22, 23, 24, 25, 26, 27, 28, 29, 30, 31, 32, 33, 34, 35, 36, 37, 38, 39, 40, 41, 42, 43, 44, 45, 46].filterMap (fun i => (wX cI cZ cO a u)[i]?)), rfl, by decide, rfl, by decide, by decide, rfl, by decide⟩
set_option maxRecDepth 100000 in
theorem cut_X_r_ro (cI cZ cO : ClassId) (a : Nat → Nat) (u : XS) : smCut (wX cI cZ cO a u) (wR cI cZ cO (fun i => a (pm_X_r i)) (gM_row (gX_mind u))) (wR cI cZ cO (fun i => a (pm_X_r i)) (gM_row (gX_mind u))) (wX cI cZ cO a u) := ⟨[20, 21], [0, 1, 2, 3, 4, 5, 6, 7, 8, 9, 10, 11, 12, 13, 14, 15, 16, 17, 18, 19, 22, 23, 24, 25, 26, 27, 28, 29, 30, 31, 32, 33, 34, 35, 36, 37, 38, 39, 40, 41, 42, 43, 44, 45, 46], [0, 1, 2, 3, 4, 5, 6, 7, 8, 9, 10, 11, 12, 13, 14, 15, 16, 17, 18, 19, 45, 46, 20, 21, 22, 23, 24, 25, 26, 27, 28, 29, 30, 31, 32, 33, 34, 35, 36, 37, 38, 39, 40, 41, 42, 43, 44], ([0, 1, 2, 3, 4, 5, 6, 7, 8, 9, 10, 11, 12, 13, 14, 15, 16, 17, 18, 19, 22, 23, 24, 25, 26, 27, 28, 29, 30, 31, 32, 33, 34, 35, 36, 37, 38, 39, 40, 41, 42, 43, 44, 45, 46].filterMap (fun i => (wX cI cZ cO a u)[i]?)), rfl, by decide, rfl, by decide, by decide, rfl, by decide⟩
def pm_X_t (i : Nat) : Nat := [2, 3].getD i 0
set_option maxRecDepth 100000 in
theorem cut_X_t (cI cZ cO : ClassId) (a : Nat → Nat) (u : XS) (t : TS) : smCut (wX cI cZ cO a u) (wT cI cZ cO (fun i => a (pm_X_t i)) (gX_tell u)) (wT cI cZ cO (fun i => a (pm_X_t i)) t) (wX cI cZ cO a (sX_tell u t)) := ⟨[2, 3], [0, 1, 4, 5, 6, 7, 8, 9, 10, 11, 12, 13, 14, 15, 16, 17, 18, 19, 20, 21, 22, 23, 24, 25, 26, 27, 28, 29, 30, 31, 32, 33, 34, 35, 36, 37, 38, 39, 40, 41, 42, 43, 44, 45, 46], [0, 1, 45, 46, 2, 3, 4, 5, 6, 7, 8, 9, 10, 11, 12, 13, 14, 15, 16, 17, 18, 19, 20, 21, 22, 23, 24, 25, 26, 27, 28, 29, 30, 31, 32, 33, 34, 35, 36, 37, 38, 39, 40, 41, 42, 43, 44], ([0, 1, 4, 5, 6, 7, 8, 9, 10, 11, 12, 13, 14, 15, 16, 17, 18, 19, 20, 21, 22, 23, 24, 25, 26, 27, 28, 29, 30, 31, 32, 33, 34, 35, 36, 37, 38, 39, 40, 41, 42, 43, 44, 45, 46].filterMap (fun i => (wX cI cZ cO a u)[i]?)), rfl, by decide, rfl, by decide, by decide, rfl, by decide⟩
set_option maxRecDepth 100000 in
theorem cut_X_t_ro (cI cZ cO : ClassId) (a : Nat → Nat) (u : XS) : smCut (wX cI cZ cO a u) (wT cI cZ cO (fun i => a (pm_X_t i)) (gX_tell u)) (wT cI cZ cO (fun i => a (pm_X_t i)) (gX_tell u)) (wX cI cZ cO a u) := ⟨[2, 3], [0, 1, 4, 5, 6, 7, 8, 9, 10, 11, 12, 13, 14, 15, 16, 17, 18, 19, 20, 21, 22, 23, 24, 25, 26, 27, 28, 29, 30, 31, 32, 33, 34, 35, 36, 37, 38, 39, 40, 41, 42, 43, 44, 45, 46], [0, 1, 45, 46, 2, 3, 4, 5, 6, 7, 8, 9, 10, 11, 12, 13, 14, 15, 16, 17, 18, 19, 20, 21, 22, 23, 24, 25, 26, 27, 28, 29, 30, 31, 32, 33, 34, 35, 36, 37, 38, 39, 40, 41, 42, 43, 44], ([0, 1, 4, 5, 6, 7, 8, 9, 10, 11, 12, 13, 14, 15, 16, 17, 18, 19, 20, 21, 22, 23, 24, 25, 26, 27, 28, 29, 30, 31, 32, 33, 34, 35, 36, 37, 38, 39, 40, 41, 42, 43, 44, 45, 46].filterMap (fun i => (wX cI cZ cO a u)[i]?)), rfl, by decide, rfl, by decide, by decide, rfl, by decide⟩
def pm_X_v22 (i : Nat) : Nat := [22, 23, 24, 25, 26, 27, 40, 41, 42, 43, 44, 45, 46].getD i 0
set_option maxRecDepth 100000 in
theorem cut_X_v22 (cI cZ cO : ClassId) (a : Nat → Nat) (u : XS) (t : VS) : smCut (wX cI cZ cO a u) (wV cI cZ cO (fun i => a (pm_X_v22 i)) (gM_now (gX_mind u))) (wV cI cZ cO (fun i => a (pm_X_v22 i)) t) (wX cI cZ cO a (sX_mind u (sM_now (gX_mind u) t))) := ⟨[22, 23, 24, 25, 26, 27, 40, 41, 42, 43, 44, 45, 46], [0, 1, 2, 3, 4, 5, 6, 7, 8, 9, 10, 11, 12, 13, 14, 15, 16, 17, 18, 19, 20, 21, 28, 29, 30, 31, 32, 33, 34, 35, 36, 37, 38, 39], [0, 1, 2, 3, 4, 5, 6, 7, 8, 9, 10, 11, 12, 13, 14, 15, 16, 17, 18, 19, 20, 21, 34, 35, 36, 37, 38, 39, 22, 23, 24, 25, 26, 27, 28, 29, 30, 31, 32, 33, 40, 41, 42, 43, 44, 45, 46], ([0, 1, 2, 3, 4, 5, 6, 7, 8, 9, 10, 11, 12, 13, 14, 15, 16, 17, 18, 19, 20, 21, 28, 29, 30, 31, 32, 33, 34, 35, 36, 37, 38, 39].filterMap (fun i => (wX cI cZ cO a u)[i]?)), rfl, by decide, rfl, by decide, by decide, rfl, by decide⟩
set_option maxRecDepth 100000 in
theorem cut_X_v22_ro (cI cZ cO : ClassId) (a : Nat → Nat) (u : XS) : smCut (wX cI cZ cO a u) (wV cI cZ cO (fun i => a (pm_X_v22 i)) (gM_now (gX_mind u))) (wV cI cZ cO (fun i => a (pm_X_v22 i)) (gM_now (gX_mind u))) (wX cI cZ cO a u) := ⟨[22, 23, 24, 25, 26, 27, 40, 41, 42, 43, 44, 45, 46], [0, 1, 2, 3, 4, 5, 6, 7, 8, 9, 10, 11, 12, 13, 14, 15, 16, 17, 18, 19, 20, 21, 28, 29, 30, 31, 32, 33, 34, 35, 36, 37, 38, 39], [0, 1, 2, 3, 4, 5, 6, 7, 8, 9, 10, 11, 12, 13, 14, 15, 16, 17, 18, 19, 20, 21, 34, 35, 36, 37, 38, 39, 22, 23, 24, 25, 26, 27, 28, 29, 30, 31, 32, 33, 40, 41, 42, 43, 44, 45, 46], ([0, 1, 2, 3, 4, 5, 6, 7, 8, 9, 10, 11, 12, 13, 14, 15, 16, 17, 18, 19, 20, 21, 28, 29, 30, 31, 32, 33, 34, 35, 36, 37, 38, 39].filterMap (fun i => (wX cI cZ cO a u)[i]?)), rfl, by decide, rfl, by decide, by decide, rfl, by decide⟩
def pm_X_v28 (i : Nat) : Nat := [28, 29, 30, 31, 32, 33, 40, 41, 42, 43, 44, 45, 46].getD i 0
set_option maxRecDepth 100000 in
theorem cut_X_v28 (cI cZ cO : ClassId) (a : Nat → Nat) (u : XS) (t : VS) : smCut (wX cI cZ cO a u) (wV cI cZ cO (fun i => a (pm_X_v28 i)) (gM_then (gX_mind u))) (wV cI cZ cO (fun i => a (pm_X_v28 i)) t) (wX cI cZ cO a (sX_mind u (sM_then (gX_mind u) t))) := ⟨[28, 29, 30, 31, 32, 33, 40, 41, 42, 43, 44, 45, 46], [0, 1, 2, 3, 4, 5, 6, 7, 8, 9, 10, 11, 12, 13, 14, 15, 16, 17, 18, 19, 20, 21, 22, 23, 24, 25, 26, 27, 34, 35, 36, 37, 38, 39], [0, 1, 2, 3, 4, 5, 6, 7, 8, 9, 10, 11, 12, 13, 14, 15, 16, 17, 18, 19, 20, 21, 22, 23, 24, 25, 26, 27, 34, 35, 36, 37, 38, 39, 28, 29, 30, 31, 32, 33, 40, 41, 42, 43, 44, 45, 46], ([0, 1, 2, 3, 4, 5, 6, 7, 8, 9, 10, 11, 12, 13, 14, 15, 16, 17, 18, 19, 20, 21, 22, 23, 24, 25, 26, 27, 34, 35, 36, 37, 38, 39].filterMap (fun i => (wX cI cZ cO a u)[i]?)), rfl, by decide, rfl, by decide, by decide, rfl, by decide⟩
set_option maxRecDepth 100000 in
theorem cut_X_v28_ro (cI cZ cO : ClassId) (a : Nat → Nat) (u : XS) : smCut (wX cI cZ cO a u) (wV cI cZ cO (fun i => a (pm_X_v28 i)) (gM_then (gX_mind u))) (wV cI cZ cO (fun i => a (pm_X_v28 i)) (gM_then (gX_mind u))) (wX cI cZ cO a u) := ⟨[28, 29, 30, 31, 32, 33, 40, 41, 42, 43, 44, 45, 46], [0, 1, 2, 3, 4, 5, 6, 7, 8, 9, 10, 11, 12, 13, 14, 15, 16, 17, 18, 19, 20, 21, 22, 23, 24, 25, 26, 27, 34, 35, 36, 37, 38, 39], [0, 1, 2, 3, 4, 5, 6, 7, 8, 9, 10, 11, 12, 13, 14, 15, 16, 17, 18, 19, 20, 21, 22, 23, 24, 25, 26, 27, 34, 35, 36, 37, 38, 39, 28, 29, 30, 31, 32, 33, 40, 41, 42, 43, 44, 45, 46], ([0, 1, 2, 3, 4, 5, 6, 7, 8, 9, 10, 11, 12, 13, 14, 15, 16, 17, 18, 19, 20, 21, 22, 23, 24, 25, 26, 27, 34, 35, 36, 37, 38, 39].filterMap (fun i => (wX cI cZ cO a u)[i]?)), rfl, by decide, rfl, by decide, by decide, rfl, by decide⟩
def pm_X_vv10_22 (i : Nat) : Nat := [10, 11, 12, 13, 14, 15, 22, 23, 24, 25, 26, 27, 40].getD i 0
set_option maxRecDepth 100000 in
theorem cut_X_vv10_22 (cI cZ cO : ClassId) (a : Nat → Nat) (u : XS) (t : VS × VS) : smCut (wX cI cZ cO a u) (wVV cI cZ cO (fun i => a (pm_X_vv10_22 i)) ((gX_told u), (gM_now (gX_mind u)))) (wVV cI cZ cO (fun i => a (pm_X_vv10_22 i)) t) (wX cI cZ cO a (sX_mind (sX_told u t.1) (sM_now (gX_mind (sX_told u t.1)) t.2))) := ⟨[10, 11, 12, 13, 14, 15, 22, 23, 24, 25, 26, 27], [0, 1, 2, 3, 4, 5, 6, 7, 8, 9, 16, 17, 18, 19, 20, 21, 28, 29, 30, 31, 32, 33, 34, 35, 36, 37, 38, 39, 40, 41, 42, 43, 44, 45, 46], [0, 1, 2, 3, 4, 5, 6, 7, 8, 9, 35, 36, 37, 38, 39, 40, 10, 11, 12, 13, 14, 15, 41, 42, 43, 44, 45, 46, 16, 17, 18, 19, 20, 21, 22, 23, 24, 25, 26, 27, 28, 29, 30, 31, 32, 33, 34], ([0, 1, 2, 3, 4, 5, 6, 7, 8, 9, 16, 17, 18, 19, 20, 21, 28, 29, 30, 31, 32, 33, 34, 35, 36, 37, 38, 39, 40, 41, 42, 43, 44, 45, 46].filterMap (fun i => (wX cI cZ cO a u)[i]?)), rfl, by decide, rfl, by decide, by decide, rfl, by decide⟩
set_option maxRecDepth 100000 in
theorem cut_X_vv10_22_ro (cI cZ cO : ClassId) (a : Nat → Nat) (u : XS) : smCut (wX cI cZ cO a u) (wVV cI cZ cO (fun i => a (pm_X_vv10_22 i)) ((gX_told u), (gM_now (gX_mind u)))) (wVV cI cZ cO (fun i => a (pm_X_vv10_22 i)) ((gX_told u), (gM_now (gX_mind u)))) (wX cI cZ cO a u) := ⟨[10, 11, 12, 13, 14, 15, 22, 23, 24, 25, 26, 27], [0, 1, 2, 3, 4, 5, 6, 7, 8, 9, 16, 17, 18, 19, 20, 21, 28, 29, 30, 31, 32, 33, 34, 35, 36, 37, 38, 39, 40, 41, 42, 43, 44, 45, 46], [0, 1, 2, 3, 4, 5, 6, 7, 8, 9, 35, 36, 37, 38, 39, 40, 10, 11, 12, 13, 14, 15, 41, 42, 43, 44, 45, 46, 16, 17, 18, 19, 20, 21, 22, 23, 24, 25, 26, 27, 28, 29, 30, 31, 32, 33, 34], ([0, 1, 2, 3, 4, 5, 6, 7, 8, 9, 16, 17, 18, 19, 20, 21, 28, 29, 30, 31, 32, 33, 34, 35, 36, 37, 38, 39, 40, 41, 42, 43, 44, 45, 46].filterMap (fun i => (wX cI cZ cO a u)[i]?)), rfl, by decide, rfl, by decide, by decide, rfl, by decide⟩
def pm_X_vv22_4 (i : Nat) : Nat := [22, 23, 24, 25, 26, 27, 4, 5, 6, 7, 8, 9, 40].getD i 0
set_option maxRecDepth 100000 in
theorem cut_X_vv22_4 (cI cZ cO : ClassId) (a : Nat → Nat) (u : XS) (t : VS × VS) : smCut (wX cI cZ cO a u) (wVV cI cZ cO (fun i => a (pm_X_vv22_4 i)) ((gM_now (gX_mind u)), (gX_kept u))) (wVV cI cZ cO (fun i => a (pm_X_vv22_4 i)) t) (wX cI cZ cO a (sX_kept (sX_mind u (sM_now (gX_mind u) t.1)) t.2)) := ⟨[22, 23, 24, 25, 26, 27, 4, 5, 6, 7, 8, 9], [0, 1, 2, 3, 10, 11, 12, 13, 14, 15, 16, 17, 18, 19, 20, 21, 28, 29, 30, 31, 32, 33, 34, 35, 36, 37, 38, 39, 40, 41, 42, 43, 44, 45, 46], [0, 1, 2, 3, 41, 42, 43, 44, 45, 46, 4, 5, 6, 7, 8, 9, 10, 11, 12, 13, 14, 15, 35, 36, 37, 38, 39, 40, 16, 17, 18, 19, 20, 21, 22, 23, 24, 25, 26, 27, 28, 29, 30, 31, 32, 33, 34], ([0, 1, 2, 3, 10, 11, 12, 13, 14, 15, 16, 17, 18, 19, 20, 21, 28, 29, 30, 31, 32, 33, 34, 35, 36, 37, 38, 39, 40, 41, 42, 43, 44, 45, 46].filterMap (fun i => (wX cI cZ cO a u)[i]?)), rfl, by decide, rfl, by decide, by decide, rfl, by decide⟩
set_option maxRecDepth 100000 in
theorem cut_X_vv22_4_ro (cI cZ cO : ClassId) (a : Nat → Nat) (u : XS) : smCut (wX cI cZ cO a u) (wVV cI cZ cO (fun i => a (pm_X_vv22_4 i)) ((gM_now (gX_mind u)), (gX_kept u))) (wVV cI cZ cO (fun i => a (pm_X_vv22_4 i)) ((gM_now (gX_mind u)), (gX_kept u))) (wX cI cZ cO a u) := ⟨[22, 23, 24, 25, 26, 27, 4, 5, 6, 7, 8, 9], [0, 1, 2, 3, 10, 11, 12, 13, 14, 15, 16, 17, 18, 19, 20, 21, 28, 29, 30, 31, 32, 33, 34, 35, 36, 37, 38, 39, 40, 41, 42, 43, 44, 45, 46], [0, 1, 2, 3, 41, 42, 43, 44, 45, 46, 4, 5, 6, 7, 8, 9, 10, 11, 12, 13, 14, 15, 35, 36, 37, 38, 39, 40, 16, 17, 18, 19, 20, 21, 22, 23, 24, 25, 26, 27, 28, 29, 30, 31, 32, 33, 34], ([0, 1, 2, 3, 10, 11, 12, 13, 14, 15, 16, 17, 18, 19, 20, 21, 28, 29, 30, 31, 32, 33, 34, 35, 36, 37, 38, 39, 40, 41, 42, 43, 44, 45, 46].filterMap (fun i => (wX cI cZ cO a u)[i]?)), rfl, by decide, rfl, by decide, by decide, rfl, by decide⟩
def pm_X_vv4_22 (i : Nat) : Nat := [4, 5, 6, 7, 8, 9, 22, 23, 24, 25, 26, 27, 40].getD i 0
set_option maxRecDepth 100000 in
theorem cut_X_vv4_22 (cI cZ cO : ClassId) (a : Nat → Nat) (u : XS) (t : VS × VS) : smCut (wX cI cZ cO a u) (wVV cI cZ cO (fun i => a (pm_X_vv4_22 i)) ((gX_kept u), (gM_now (gX_mind u)))) (wVV cI cZ cO (fun i => a (pm_X_vv4_22 i)) t) (wX cI cZ cO a (sX_mind (sX_kept u t.1) (sM_now (gX_mind (sX_kept u t.1)) t.2))) := ⟨[4, 5, 6, 7, 8, 9, 22, 23, 24, 25, 26, 27], [0, 1, 2, 3, 10, 11, 12, 13, 14, 15, 16, 17, 18, 19, 20, 21, 28, 29, 30, 31, 32, 33, 34, 35, 36, 37, 38, 39, 40, 41, 42, 43, 44, 45, 46], [0, 1, 2, 3, 35, 36, 37, 38, 39, 40, 4, 5, 6, 7, 8, 9, 10, 11, 12, 13, 14, 15, 41, 42, 43, 44, 45, 46, 16, 17, 18, 19, 20, 21, 22, 23, 24, 25, 26, 27, 28, 29, 30, 31, 32, 33, 34], ([0, 1, 2, 3, 10, 11, 12, 13, 14, 15, 16, 17, 18, 19, 20, 21, 28, 29, 30, 31, 32, 33, 34, 35, 36, 37, 38, 39, 40, 41, 42, 43, 44, 45, 46].filterMap (fun i => (wX cI cZ cO a u)[i]?)), rfl, by decide, rfl, by decide, by decide, rfl, by decide⟩
set_option maxRecDepth 100000 in
theorem cut_X_vv4_22_ro (cI cZ cO : ClassId) (a : Nat → Nat) (u : XS) : smCut (wX cI cZ cO a u) (wVV cI cZ cO (fun i => a (pm_X_vv4_22 i)) ((gX_kept u), (gM_now (gX_mind u)))) (wVV cI cZ cO (fun i => a (pm_X_vv4_22 i)) ((gX_kept u), (gM_now (gX_mind u)))) (wX cI cZ cO a u) := ⟨[4, 5, 6, 7, 8, 9, 22, 23, 24, 25, 26, 27], [0, 1, 2, 3, 10, 11, 12, 13, 14, 15, 16, 17, 18, 19, 20, 21, 28, 29, 30, 31, 32, 33, 34, 35, 36, 37, 38, 39, 40, 41, 42, 43, 44, 45, 46], [0, 1, 2, 3, 35, 36, 37, 38, 39, 40, 4, 5, 6, 7, 8, 9, 10, 11, 12, 13, 14, 15, 41, 42, 43, 44, 45, 46, 16, 17, 18, 19, 20, 21, 22, 23, 24, 25, 26, 27, 28, 29, 30, 31, 32, 33, 34], ([0, 1, 2, 3, 10, 11, 12, 13, 14, 15, 16, 17, 18, 19, 20, 21, 28, 29, 30, 31, 32, 33, 34, 35, 36, 37, 38, 39, 40, 41, 42, 43, 44, 45, 46].filterMap (fun i => (wX cI cZ cO a u)[i]?)), rfl, by decide, rfl, by decide, by decide, rfl, by decide⟩
set_option maxRecDepth 100000 in
theorem cut_V_none (cI cZ cO : ClassId) (a : Nat → Nat) (u : VS) : smCut (wV cI cZ cO a u) [] [] (wV cI cZ cO a u) := sm_cutNil _ [0, 1, 2, 3, 4, 5, 6, 7, 8, 9, 10, 11, 12] rfl (by decide)
set_option maxRecDepth 100000 in
theorem cut_VV_none (cI cZ cO : ClassId) (a : Nat → Nat) (u : VS × VS) : smCut (wVV cI cZ cO a u) [] [] (wVV cI cZ cO a u) := sm_cutNil _ [0, 1, 2, 3, 4, 5, 6, 7, 8, 9, 10, 11] rfl (by decide)
set_option maxRecDepth 100000 in
theorem cut_T_none (cI cZ cO : ClassId) (a : Nat → Nat) (u : TS) : smCut (wT cI cZ cO a u) [] [] (wT cI cZ cO a u) := sm_cutNil _ [0, 1] rfl (by decide)
set_option maxRecDepth 100000 in
theorem cut_R_none (cI cZ cO : ClassId) (a : Nat → Nat) (u : RS) : smCut (wR cI cZ cO a u) [] [] (wR cI cZ cO a u) := sm_cutNil _ [0, 1] rfl (by decide)
set_option maxRecDepth 100000 in
theorem cut_TV_none (cI cZ cO : ClassId) (a : Nat → Nat) (u : TS × VS) : smCut (wTV cI cZ cO a u) [] [] (wTV cI cZ cO a u) := sm_cutNil _ [0, 1, 2, 3, 4, 5, 6, 7, 8, 9, 10, 11, 12, 13, 14] rfl (by decide)
set_option maxRecDepth 100000 in
theorem cut_M_none (cI cZ cO : ClassId) (a : Nat → Nat) (u : MS) : smCut (wM cI cZ cO a u) [] [] (wM cI cZ cO a u) := sm_cutNil _ [0, 1, 2, 3, 4, 5, 6, 7, 8, 9, 10, 11, 12, 13, 14, 15, 16, 17, 18, 19, 20, 21, 22, 23, 24, 25, 26, 27, 28, 29, 30] rfl (by decide)
set_option maxRecDepth 100000 in
theorem cut_X_none (cI cZ cO : ClassId) (a : Nat → Nat) (u : XS) : smCut (wX cI cZ cO a u) [] [] (wX cI cZ cO a u) := sm_cutNil _ [0, 1, 2, 3, 4, 5, 6, 7, 8, 9, 10, 11, 12, 13, 14, 15, 16, 17, 18, 19, 20, 21, 22, 23, 24, 25, 26, 27, 28, 29, 30, 31, 32, 33, 34, 35, 36, 37, 38, 39, 40, 41, 42, 43, 44, 45, 46] rfl (by decide)
set_option maxRecDepth 100000 in
theorem cut_D_none (cI cZ cO : ClassId) (a : Nat → Nat) (u : DS) : smCut (wD cI cZ cO a u) [] [] (wD cI cZ cO a u) := sm_cutNil _ [0, 1, 2, 3, 4, 5, 6, 7, 8] rfl (by decide)
set_option maxRecDepth 100000 in
theorem cut_I_none (cI cZ cO : ClassId) (a : Nat → Nat) (u : Nat → Int32) : smCut (wI cI cZ cO a u) [] [] (wI cI cZ cO a u) := sm_cutNil _ [0] rfl (by decide)
set_option maxRecDepth 100000 in
theorem cut_II_none (cI cZ cO : ClassId) (a : Nat → Nat) (u : (Nat → Int32) × (Nat → Int32)) : smCut (wII cI cZ cO a u) [] [] (wII cI cZ cO a u) := sm_cutNil _ [0, 1] rfl (by decide)
set_option maxRecDepth 100000 in
theorem cut_V_p0 (cI cZ cO : ClassId) (a : Nat → Nat) (u : VS) : smCut (wV cI cZ cO a u) (wP 4 (fun i => a (7 + i))) (wP 4 (fun i => a (7 + i))) (wV cI cZ cO a u) := ⟨[7], [0, 1, 2, 3, 4, 5, 6, 8, 9, 10, 11, 12], [0, 1, 2, 3, 4, 5, 6, 12, 7, 8, 9, 10, 11], ([0, 1, 2, 3, 4, 5, 6, 8, 9, 10, 11, 12].filterMap (fun i => (wV cI cZ cO a u)[i]?)), rfl, by decide, rfl, by decide, by decide, rfl, by decide⟩
set_option maxRecDepth 100000 in
theorem cut_V_p1 (cI cZ cO : ClassId) (a : Nat → Nat) (u : VS) : smCut (wV cI cZ cO a u) (wP 0 (fun i => a (8 + i))) (wP 0 (fun i => a (8 + i))) (wV cI cZ cO a u) := ⟨[8], [0, 1, 2, 3, 4, 5, 6, 7, 9, 10, 11, 12], [0, 1, 2, 3, 4, 5, 6, 7, 12, 8, 9, 10, 11], ([0, 1, 2, 3, 4, 5, 6, 7, 9, 10, 11, 12].filterMap (fun i => (wV cI cZ cO a u)[i]?)), rfl, by decide, rfl, by decide, by decide, rfl, by decide⟩
set_option maxRecDepth 100000 in
theorem cut_V_p2 (cI cZ cO : ClassId) (a : Nat → Nat) (u : VS) : smCut (wV cI cZ cO a u) (wP 2 (fun i => a (9 + i))) (wP 2 (fun i => a (9 + i))) (wV cI cZ cO a u) := ⟨[9], [0, 1, 2, 3, 4, 5, 6, 7, 8, 10, 11, 12], [0, 1, 2, 3, 4, 5, 6, 7, 8, 12, 9, 10, 11], ([0, 1, 2, 3, 4, 5, 6, 7, 8, 10, 11, 12].filterMap (fun i => (wV cI cZ cO a u)[i]?)), rfl, by decide, rfl, by decide, by decide, rfl, by decide⟩
set_option maxRecDepth 100000 in
theorem cut_V_p3 (cI cZ cO : ClassId) (a : Nat → Nat) (u : VS) : smCut (wV cI cZ cO a u) (wP 5 (fun i => a (10 + i))) (wP 5 (fun i => a (10 + i))) (wV cI cZ cO a u) := ⟨[10], [0, 1, 2, 3, 4, 5, 6, 7, 8, 9, 11, 12], [0, 1, 2, 3, 4, 5, 6, 7, 8, 9, 12, 10, 11], ([0, 1, 2, 3, 4, 5, 6, 7, 8, 9, 11, 12].filterMap (fun i => (wV cI cZ cO a u)[i]?)), rfl, by decide, rfl, by decide, by decide, rfl, by decide⟩
set_option maxRecDepth 100000 in
theorem cut_V_p4 (cI cZ cO : ClassId) (a : Nat → Nat) (u : VS) : smCut (wV cI cZ cO a u) (wP 1 (fun i => a (11 + i))) (wP 1 (fun i => a (11 + i))) (wV cI cZ cO a u) := ⟨[11], [0, 1, 2, 3, 4, 5, 6, 7, 8, 9, 10, 12], [0, 1, 2, 3, 4, 5, 6, 7, 8, 9, 10, 12, 11], ([0, 1, 2, 3, 4, 5, 6, 7, 8, 9, 10, 12].filterMap (fun i => (wV cI cZ cO a u)[i]?)), rfl, by decide, rfl, by decide, by decide, rfl, by decide⟩
set_option maxRecDepth 100000 in
theorem cut_V_p5 (cI cZ cO : ClassId) (a : Nat → Nat) (u : VS) : smCut (wV cI cZ cO a u) (wP 9 (fun i => a (12 + i))) (wP 9 (fun i => a (12 + i))) (wV cI cZ cO a u) := ⟨[12], [0, 1, 2, 3, 4, 5, 6, 7, 8, 9, 10, 11], [0, 1, 2, 3, 4, 5, 6, 7, 8, 9, 10, 11, 12], ([0, 1, 2, 3, 4, 5, 6, 7, 8, 9, 10, 11].filterMap (fun i => (wV cI cZ cO a u)[i]?)), rfl, by decide, rfl, by decide, by decide, rfl, by decide⟩
set_option maxRecDepth 100000 in
theorem cut_P_id (ci : Nat) (a : Nat → Nat) : smCut (wP ci a) (wP ci a) (wP ci a) (wP ci a) := ⟨[0], [], [0], [], rfl, by decide, rfl, rfl, fun _ h => (by cases h), rfl, by decide⟩
set_option maxRecDepth 100000 in
theorem cut_P_none (ci : Nat) (a : Nat → Nat) : smCut (wP ci a) [] [] (wP ci a) := sm_cutNil _ [0] rfl (by decide)
set_option maxRecDepth 100000 in
theorem cut_N_none : smCut [] [] [] [] := sm_cutNil _ [] rfl (by decide)
theorem kd_change {i w0 w1 w2 z : Int32} (h : f_K_change i w0 w1 w2 = some z) : (i = 0 ∧ f_X4_change w0 w1 w2 = some z) ∨ (i = 1 ∧ f_X0_change w0 w1 w2 = some z) ∨ (i = 2 ∧ f_X2_change w0 w1 w2 = some z) ∨ (i = 3 ∧ f_X5_change w0 w1 w2 = some z) ∨ (i = 4 ∧ f_X1_change w0 w1 w2 = some z) ∨ (i = 5 ∧ f_X9_change w0 w1 w2 = some z) := by
  unfold f_K_change at h
  by_cases h0 : i = 0
  · exact Or.inl ⟨h0, if_t h0 h⟩
  replace h := if_f h0 h
  by_cases h1 : i = 1
  · exact Or.inr (Or.inl ⟨h1, if_t h1 h⟩)
  replace h := if_f h1 h
  by_cases h2 : i = 2
  · exact Or.inr (Or.inr (Or.inl ⟨h2, if_t h2 h⟩))
  replace h := if_f h2 h
  by_cases h3 : i = 3
  · exact Or.inr (Or.inr (Or.inr (Or.inl ⟨h3, if_t h3 h⟩)))
  replace h := if_f h3 h
  by_cases h4 : i = 4
  · exact Or.inr (Or.inr (Or.inr (Or.inr (Or.inl ⟨h4, if_t h4 h⟩))))
  replace h := if_f h4 h
  by_cases h5 : i = 5
  · exact Or.inr (Or.inr (Or.inr (Or.inr (Or.inr (⟨h5, if_t h5 h⟩)))))
  replace h := if_f h5 h
  cases h
theorem hk_change : "SoManyForgotten$Person" ≠ "java/lang/invoke/MethodHandle" ∧ "SoManyForgotten$Person" ≠ "java/lang/invoke/VarHandle" ∧ (parseMethodDescriptor "(III)I").map (fun d => d.parameters.length) = some 3 := by decide +kernel
theorem kd_isNamed {i w0 z : Int32} (h : f_K_isNamed i w0 = some z) : (i = 0 ∧ f_X4_isNamed w0 = some z) ∨ (i = 1 ∧ f_X4_isNamed w0 = some z) ∨ (i = 2 ∧ f_X4_isNamed w0 = some z) ∨ (i = 3 ∧ f_X4_isNamed w0 = some z) ∨ (i = 4 ∧ f_X1_isNamed w0 = some z) ∨ (i = 5 ∧ f_X9_isNamed w0 = some z) := by
  unfold f_K_isNamed at h
  by_cases h0 : i = 0
  · exact Or.inl ⟨h0, if_t h0 h⟩
  replace h := if_f h0 h
  by_cases h1 : i = 1
  · exact Or.inr (Or.inl ⟨h1, if_t h1 h⟩)
  replace h := if_f h1 h
  by_cases h2 : i = 2
  · exact Or.inr (Or.inr (Or.inl ⟨h2, if_t h2 h⟩))
  replace h := if_f h2 h
  by_cases h3 : i = 3
  · exact Or.inr (Or.inr (Or.inr (Or.inl ⟨h3, if_t h3 h⟩)))
  replace h := if_f h3 h
  by_cases h4 : i = 4
  · exact Or.inr (Or.inr (Or.inr (Or.inr (Or.inl ⟨h4, if_t h4 h⟩))))
  replace h := if_f h4 h
  by_cases h5 : i = 5
  · exact Or.inr (Or.inr (Or.inr (Or.inr (Or.inr (⟨h5, if_t h5 h⟩)))))
  replace h := if_f h5 h
  cases h
theorem hk_isNamed : "SoManyForgotten$Person" ≠ "java/lang/invoke/MethodHandle" ∧ "SoManyForgotten$Person" ≠ "java/lang/invoke/VarHandle" ∧ (parseMethodDescriptor "(I)Z").map (fun d => d.parameters.length) = some 1 := by decide +kernel
